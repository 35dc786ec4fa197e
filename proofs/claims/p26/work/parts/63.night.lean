/-! p26: A NIGHT, as a function of the row of the state now -/
def PH (r : Nat → Int32) : Hp := fun _ => r
def DAYM (r : Nat → Int32) : Hp := (f_X8_sailDay (PH r)).getD (PH r)
def DAY (r : Nat → Int32) : Nat → Int32 := DAYM r 1
def MD (r : Nat → Int32) : Int32 := sJ (DAY r) 4 - sJ r 4
def CD (r : Nat → Int32) : Int32 := sJ (DAY r) 8 - sJ r 8
def LSd (r : Nat → Int32) : Int32 := DAYM r 0 15
theorem X_day {h : Hp} {r : Nat → Int32} (K : KX h r) : ∃ h1 hm1, f_X4_run h 1 = some h1 ∧ (∀ a, a < 48 → h1 a = h a) ∧ GR r 24 h (PH r) h1 hm1 ∧ EV r h1 (DAY r) ∧ LPd h1 48 ∧ LSd r = US3 (les r h1 0) (les r h1 1) (les r h1 2) := by
  obtain ⟨h1, hm1, e1, e2, G, l⟩ := dayL (k1 := 1) (hm := PH r) (Or.inl rfl) K.2 (KX_caps K) (KX_low K (i := 1) (by decide)) (KX_low K (i := 2) (by decide)) rfl
  obtain ⟨hmE, y1, E1, -, -, m15⟩ := M_evening G
  have e3 : DAYM r = hmE := by
    unfold DAYM
    rw [e2.trans y1]
    rfl
  refine ⟨h1, hm1, e1, G.2.2.2.1, G, ?_, l, ?_⟩
  · unfold DAY
    rw [e3]
    exact E1
  · unfold LSd
    rw [e3]
    exact m15
theorem MD_eq {h1 : Hp} {r : Nat → Int32} (E : EV r h1 (DAY r)) : MD r = md7 h1 0 + md7 h1 1 + md7 h1 2 := by
  unfold MD
  rw [s_sum (g := md7 h1) (fun c hc => (E.2 c hc).2.2.1), i_cancel]
theorem CD_eq {h1 : Hp} {r : Nat → Int32} (E : EV r h1 (DAY r)) : CD r = lf h1 0 + lf h1 1 + lf h1 2 := by
  unfold CD
  rw [s_sum (g := lf h1) (fun c hc => (E.2 c hc).2.2.2.2.2.2.1), i_cancel]
theorem i_alg (a b c x y z : Int32) : a + b + c + ((x - a) + (y - b) + (z - c)) = x + y + z := by
  have e : ∀ p q : Int32, p + (q - p) = q := fun p q => by rw [Int32.add_comm, Int32.sub_add_cancel]
  have e2 : a + b + c + ((x - a) + (y - b) + (z - c)) = (a + (x - a)) + (b + (y - b)) + (c + (z - c)) := by ac_rfl
  rw [e2, e, e, e]
theorem GR_len {r : Nat → Int32} {h hm h1 hm1 : Hp} (G : GR r 24 h hm h1 hm1) {c : Nat} (hc : c < 3) : h1 (50 + 3 * c + 1) 1 = nI (ul r c).length ∧ ∃ n : Nat, n ≤ 8 ∧ md7 h1 c = nI n := by
  obtain ⟨⟨t1, -, -, ⟨n, n1, n2, -⟩, -⟩, -⟩ := G.1 c hc
  have hl := tt_len (cb r c) (cd r c) (cf r c)
  exact ⟨t1.1, n, by omega, n2⟩
theorem MD_CD {h : Hp} {r : Nat → Int32} (K : KX h r) : MD r + CD r = nAll r := by
  obtain ⟨h1, hm1, -, -, G, E, -, -⟩ := X_day K
  rw [MD_eq E, CD_eq E]
  unfold lf nAll
  rw [(GR_len G (c := 0) (by decide)).1, (GR_len G (c := 1) (by decide)).1, (GR_len G (c := 2) (by decide)).1]
  exact i_alg _ _ _ _ _ _
theorem MD_n {h : Hp} {r : Nat → Int32} (K : KX h r) : ∃ n : Nat, n ≤ 24 ∧ MD r = nI n := by
  obtain ⟨h1, hm1, -, -, G, E, -, -⟩ := X_day K
  obtain ⟨n0, l0, e0⟩ := (GR_len G (c := 0) (by decide)).2
  obtain ⟨n1, l1, e1⟩ := (GR_len G (c := 1) (by decide)).2
  obtain ⟨n2, l2, e2⟩ := (GR_len G (c := 2) (by decide)).2
  exact ⟨n0 + n1 + n2, by omega, by rw [MD_eq E, e0, e1, e2, nI_add, nI_add]⟩
theorem LSd_bit {h : Hp} {r : Nat → Int32} (K : KX h r) {c : Nat} (hc : c < 3) (hb : ((LSd r >>> (nI c &&& 31)) &&& (1 : Int32)) = 1) : DAY r (6 + 10 * c + 0) = DAY r 1 := by
  obtain ⟨h1, hm1, -, -, G, E, -, e⟩ := X_day K
  rw [e, bitc (fun c => les r h1 c) hc] at hb
  have hl : les r h1 c = true := by
    cases hz : les r h1 c
    · rw [hz] at hb
      exact absurd hb (by decide)
    · rfl
  rw [(E.2 c hc).1, if_pos hl, E.1.2.1]
theorem X_ifSailed {h : Hp} {r : Nat → Int32} (K : KX h r) : (∃ h', f_X7_ifSailed h (0 : Int32) = some (MD r, h') ∧ RD h h') ∧ (∃ h', f_X7_ifSailed h (1 : Int32) = some (CD r, h') ∧ RD h h') ∧ ∃ h', f_X7_ifSailed h (5 : Int32) = some (LSd r, h') ∧ RD h h' := by
  obtain ⟨h1, hm1, e1, fr, G, E, -, e⟩ := X_day K
  have d : RD h h1 := ⟨fun a ha => fr a (by omega), fr 36 (by decide)⟩
  unfold f_X7_ifSailed
  rw [e1, ob_s, ob_s, ob_s]
  refine ⟨⟨h1, ?_, d⟩, ⟨h1, ?_, d⟩, ⟨h1, ?_, d⟩⟩
  · rw [if_pos (show (0 : Int32) = 0 from rfl), tell5, MD_eq E]
    rfl
  · rw [if_neg (show ¬ (1 : Int32) = 0 by decide), if_pos (show (1 : Int32) = 1 from rfl), tell9, CD_eq E]
    rfl
  · rw [if_neg (show ¬ (5 : Int32) = 0 by decide), if_neg (show ¬ (5 : Int32) = 1 by decide), if_neg (show ¬ (5 : Int32) = 2 by decide), if_neg (show ¬ (5 : Int32) = 3 by decide), if_neg (show ¬ (5 : Int32) = 4 by decide), if_pos (show (5 : Int32) = 5 from rfl), show h1 1 2 = r 4 from (by rw [fr 1 (by decide)]; exact KX_low K (i := 4) (by decide)), C_learners, e]
    rfl
theorem AC_day {h h1 hm1 : Hp} {r : Nat → Int32} {dy : Nat} (A : AC r dy) (hd : dy < 9999) (E : EV r h1 (DAY r)) (l : LPd h1 48) : AC (DAY r) (dy + 1) := by
  obtain ⟨a0, -, lt, pd, a1, q, a2, a3⟩ := A
  obtain ⟨lt', pd', b1, q', b2, b3⟩ := l
  refine ⟨by rw [E.1.1, a0, nI_1], by omega, fun c => lt c + lt' c, fun c => pd c + pd' c, fun c hc => ?_, q + q', by rw [E.1.2.2.2.2.2, a2, b2, nI_add], ?_⟩
  · obtain ⟨x1, x2, x3, x4⟩ := a1 c hc
    obtain ⟨y1, y2, y3, y4⟩ := b1 c hc
    refine ⟨by rw [(E.2 c hc).2.2.2.2.1, x1, y1, nI_add], by rw [(E.2 c hc).2.2.2.2.2.1, x2, y2, nI_add], ?_, ?_⟩
    · show pd c + pd' c ≤ lt c + lt' c
      omega
    · show lt c + lt' c ≤ 48 * (dy + 1)
      omega
  · show q + q' ≤ pd 0 + pd' 0 + (pd 1 + pd' 1) + (pd 2 + pd' 2)
    omega
theorem X_night {h : Hp} {r : Nat → Int32} {dy : Nat} (K : KX h r) (A : AC r dy) (hd : dy < 9999) : ∃ h1 h2, f_X4_run h 1 = some h1 ∧ f_X5_endDay h1 1 = some h2 ∧ f_X4_sumOf h2 (5 : Int32) = some (MD r, h2) ∧ KX h2 (DAY r) ∧ AC (DAY r) (dy + 1) ∧ ∀ a, a = 0 ∨ (6 ≤ a ∧ a < 31) ∨ a = 36 → h2 a = h a := by
  obtain ⟨h1, hm1, e1, fr, G, E, l, -⟩ := X_day K
  obtain ⟨h2, x1, a2, E2⟩ := C_evening (r := r) (h := h1) (fun c hc j hj => by rw [fr _ (by omega)]; exact KX_caps K c hc j hj) (fun i hi => by rw [fr 1 (by decide)]; exact KX_low K hi)
  refine ⟨h1, h2, e1, x1, ?_, ⟨EV_eq E2 E, VR_EV K.2 A.1 hd G E⟩, AC_day (h := h) (hm1 := hm1) A hd E l, fun a ha => by rw [a2 a (by omega) (by omega) (by omega) (by omega), fr a (by omega)]⟩
  have hf : ∀ c, c < 3 → md7 h2 c = md7 h1 c := fun c hc => by
    unfold md7
    rw [a2 _ (by omega) (by omega) (by omega) (by omega)]
  rw [tell5, hf 0 (by decide), hf 1 (by decide), hf 2 (by decide), ← MD_eq E]
