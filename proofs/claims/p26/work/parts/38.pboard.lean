/-! the board: all three timetables, who uses a pier when -/
def mt (l : List Nat) (v p i : Nat) : Bool := decide (l.getD i 0 * 2 + (v + i) % 2 = p) || decide ((l.getD i 0 + 2) * 2 + (v + (i + 1)) % 2 = p)
def usn (l : List Nat) (v p : Nat) : Nat → Nat → Bool
  | 0, _ => false
  | n + 1, i => mt l v p i || usn l v p n (i + 1)
def ul (r : Nat → Int32) (c : Nat) : List Nat := tt (cb r c) (cd r c) (cf r c)
def uc (r : Nat → Int32) (c p : Nat) : Bool := usn (ul r c) (ch r c) p (ul r c).length 0
def bt1 (c : Nat) : Int32 := (1 : Int32) <<< (nI c &&& 31)
def orI (u : Bool) (c : Nat) (x : Int32) : Int32 := if u = true then x ||| bt1 c else x
/-- the set of the captains that use the place p -/
def US (r : Nat → Int32) (p : Nat) : Int32 := orI (uc r 2 p) 2 (orI (uc r 1 p) 1 (orI (uc r 0 p) 0 0))
theorem md2 : ∀ a, a < 64 → nI a - nI a / nI 2 * nI 2 = nI (a % 2) := by decide +kernel
theorem dv2 : ∀ a, a < 64 → nI a / nI 2 = nI (a / 2) := by decide +kernel
theorem C_has (h : Hp) {k n : Nat} (hn : n ≤ 8) (h1 : h k 1 = nI n) {i : Nat} (hi : i < 2 ^ 31) : f_X6_has h k (nI i) = some (if i < n then 1 else 0, h) := by
  unfold f_X6_has
  rw [if_neg (nI_pos hi), h1]
  by_cases e : i < n
  · rw [if_neg (fun z => by have := (le_iff (by omega) hi).mp z; omega), L8, if_neg (fun z => by have := (le_iff (by decide) hi).mp z; omega), if_pos e]
  · rw [if_pos ((le_iff (by omega) hi).mpr (by omega)), if_neg e]
theorem C_hourOf (h : Hp) {k n : Nat} (hn : n ≤ 8) (h1 : h k 1 = nI n) {i : Nat} (hi : i < n) : f_X6_hourOf h k (nI i) = some (h (k + 1) i, h) := by
  unfold f_X6_hourOf
  rw [C_has h hn h1 (by omega), ob_s]
  simp only []
  rw [if_pos hi, if_neg (by decide), if_pos (inb_nI (by omega) (by decide)), nc (by omega)]
theorem C_pierOf (h : Hp) (k : Nat) {v i : Nat} (h2 : h k 2 = nI v) (hi : v + i < 64) : f_X6_pierOf h k (nI i) = some (nI ((v + i) % 2), h) := by
  unfold f_X6_pierOf
  rw [h2, nI_add, L2, md2 _ hi]
theorem C_placeOf (h : Hp) (a b : Nat) : f_X1_placeOf h (nI a) (nI b) = some (nI (a * 2 + b), h) := by
  unfold f_X1_placeOf
  rw [L2, pk_mul, nI_add]
theorem C_noteUse (h : Hp) {p : Nat} (hp : p < 48) (m : Int32) : f_X1_noteUse h (nI p) m = some (hs h 41 p (h 41 p ||| m)) := by
  unfold f_X1_noteUse
  rw [if_neg (nI_pos (by omega)), L48, if_neg (fun z => by have := (le_iff (by decide) (by omega)).mp z; omega), if_pos (inb_nI hp (by decide)), if_pos (inb_nI hp (by decide)), nc (by omega)]
theorem C_note_loop {k1 : Nat} (hk : k1 = 42 ∨ k1 = 44 ∨ k1 = 46) {l : List Nat} {v : Nat} (hv2 : v < 2) (hl : l.length ≤ 8) (hb : ∀ i, i < l.length → l.getD i 0 ≤ 21) (m : Int32) : ∀ (n fu i : Nat) (h : Hp), n < fu → i + n = l.length → h k1 1 = nI l.length → h k1 2 = nI v → (∀ i, i < l.length → h (k1 + 1) i = nI (l.getD i 0)) →
    ∃ h', f_X1_noteUses_2 k1 fu h m (nI i) = some h' ∧ (∀ a, a ≠ 41 → h' a = h a) ∧ ∀ p, p < 48 → h' 41 p = if usn l v p n i = true then h 41 p ||| m else h 41 p := by
  intro n
  induction n with
  | zero =>
    intro fu i h hf hi h1 h2 h3
    obtain ⟨fu, rfl⟩ : ∃ q, fu = q + 1 := ⟨fu - 1, by omega⟩
    rw [f_X1_noteUses_2_s, h1, if_pos ((le_iff (by omega) (by omega)).mpr (by omega))]
    exact ⟨h, rfl, fun _ _ => rfl, fun p _ => by simp [usn]⟩
  | succ n ih =>
    intro fu i h hf hi h1 h2 h3
    obtain ⟨fu, rfl⟩ : ∃ q, fu = q + 1 := ⟨fu - 1, by omega⟩
    have hX := hb i (by omega)
    have hk41 : k1 ≠ 41 ∧ k1 + 1 ≠ 41 := by omega
    rw [f_X1_noteUses_2_s, h1, if_neg (fun z => by have := (le_iff (by omega) (by omega)).mp z; omega), C_hourOf h hl h1 (by omega), ob_s]
    simp only []
    rw [h3 i (by omega), C_pierOf h k1 h2 (by omega), ob_s]
    simp only []
    rw [C_placeOf, ob_s]
    simp only []
    have hp1 : l.getD i 0 * 2 + (v + i) % 2 < 48 := by omega
    have hp2 : (l.getD i 0 + 2) * 2 + (v + (i + 1)) % 2 < 48 := by omega
    have hp12 : (l.getD i 0 + 2) * 2 + (v + (i + 1)) % 2 ≠ l.getD i 0 * 2 + (v + i) % 2 := by omega
    rw [C_noteUse h hp1, ob_s, nI_1, C_pierOf _ k1 (v := v) (by rw [hs_k hk41.1]; exact h2) (by omega), ob_s]
    simp only []
    rw [show nI (l.getD i 0) + (2 : Int32) = nI (l.getD i 0 + 2) from nI_add _ 2, C_placeOf, ob_s]
    simp only []
    rw [C_noteUse _ hp2, ob_s, hs_j hp12]
    obtain ⟨h', r1, r2, r3⟩ := ih fu (i + 1) (hs (hs h 41 (l.getD i 0 * 2 + (v + i) % 2) (h 41 (l.getD i 0 * 2 + (v + i) % 2) ||| m)) 41 ((l.getD i 0 + 2) * 2 + (v + (i + 1)) % 2) (h 41 ((l.getD i 0 + 2) * 2 + (v + (i + 1)) % 2) ||| m)) (by omega) (by omega)
      (by rw [hs_k hk41.1, hs_k hk41.1, h1]) (by rw [hs_k hk41.1, hs_k hk41.1, h2]) (fun j hj => by rw [hs_k hk41.2, hs_k hk41.2, h3 j hj])
    refine ⟨h', r1, fun a ha => by rw [r2 a ha, hs_r ha, hs_r ha], fun p hp => ?_⟩
    rw [r3 p hp, usn]
    have hst : hs (hs h 41 (l.getD i 0 * 2 + (v + i) % 2) (h 41 (l.getD i 0 * 2 + (v + i) % 2) ||| m)) 41 ((l.getD i 0 + 2) * 2 + (v + (i + 1)) % 2) (h 41 ((l.getD i 0 + 2) * 2 + (v + (i + 1)) % 2) ||| m) 41 p = if mt l v p i = true then h 41 p ||| m else h 41 p := by
      unfold mt
      by_cases e2 : (l.getD i 0 + 2) * 2 + (v + (i + 1)) % 2 = p
      · subst e2
        rw [hs_at]
        simp
      · rw [hs_j (fun z => e2 z.symm)]
        by_cases e1 : l.getD i 0 * 2 + (v + i) % 2 = p
        · subst e1
          rw [hs_at]
          simp
        · rw [hs_j (fun z => e1 z.symm)]
          rw [decide_eq_false e1, decide_eq_false e2]
          rfl
    rw [hst]
    by_cases em : mt l v p i = true
    · rw [em]
      simp only [if_true, Bool.true_or]
      split
      · rw [Int32.or_assoc, Int32.or_self]
      · rfl
    · have em' : mt l v p i = false := by simpa using em
      rw [em']
      simp only [Bool.false_or, Bool.false_eq_true, if_false]
theorem tt_le {b d f i : Nat} (hi : i < (tt b d f).length) : (tt b d f).getD i 0 ≤ 21 := (tt_get hi).2
theorem tt_at_keep {h h' : Hp} {k b d f : Nat} {v : Int32} (t : ttAt h k b d f v) (e0 : h' k = h k) (e1 : h' (k + 1) = h (k + 1)) : ttAt h' k b d f v := by
  obtain ⟨t1, t2, t3⟩ := t
  exact ⟨by rw [e0]; exact t1, by rw [e0]; exact t2, fun i hi => by rw [e1]; exact t3 i hi⟩
/-- the captains of the state at k are those of the row r -/
def capsAt (h : Hp) (k : Nat) (r : Nat → Int32) : Prop := ∀ c, c < 3 → ∀ j, j < 10 → h (k + 1 + 1 + c) j = r (6 + 10 * c + j)
theorem C_pr1 {h : Hp} {k : Nat} {r : Nat → Int32} (hk : k = 1 ∨ k = 31) (v : VR r) (hr : capsAt h k r) {c : Nat} (hc : c < 3) : ∃ h1 h2, f_X6_print h (42 + 2 * c) (k + 1 + 1 + c) = some h1 ∧ f_X1_noteUses h1 (42 + 2 * c) (bt1 c) = some h2 ∧ (∀ a, a ≠ 42 + 2 * c → a ≠ 42 + 2 * c + 1 → a ≠ 41 → h2 a = h a) ∧ ttAt h2 (42 + 2 * c) (cb r c) (cd r c) (cf r c) (nI (ch r c)) ∧ ∀ p, p < 48 → h2 41 p = orI (uc r c p) c (h 41 p) := by
  obtain ⟨v0, hb⟩ := VR_b v hc
  obtain ⟨v1, -, hd⟩ := VR_d v hc
  obtain ⟨v2, hf⟩ := VR_f v hc
  obtain ⟨v3, hh⟩ := VR_h v hc
  have hX6 : isX6 (42 + 2 * c) := by omega
  have hX2 : isX2 (k + 1 + 1 + c) := by omega
  obtain ⟨h1, e1, a1, t1⟩ := C_print hX6 hX2 hb hd hf (h := h) ((hr c hc 0 (by decide)).trans v0) ((hr c hc 1 (by decide)).trans v1) ((hr c hc 2 (by decide)).trans v2)
  rw [(hr c hc 3 (by decide)).trans v3] at t1
  obtain ⟨h2, e2, a2, u2⟩ := C_note_loop (k1 := 42 + 2 * c) (by omega) hh (tt_len (cb r c) (cd r c) (cf r c)) (fun i hi => tt_le hi) (bt1 c) _ FU 0 h1 (by have := FUv; have := tt_len (cb r c) (cd r c) (cf r c); omega) (Nat.zero_add _) t1.1 t1.2.1 t1.2.2
  refine ⟨h1, h2, e1, e2, fun a x1 x2 x3 => by rw [a2 a x3, a1 a x1 x2], tt_at_keep t1 (a2 _ (by omega)) (a2 _ (by omega)), fun p hp => ?_⟩
  rw [u2 p hp, a1 41 (by omega) (by omega)]
  rfl
theorem C_zero_loop (k : Nat) : ∀ (n fu x : Nat) (h : Hp), n < fu → x + n = 48 → ∃ h', f_X1_print_2 k fu h (nI x) = f_X1_print_26 k FU h' (0 : Int32) ∧ (∀ a, a ≠ 41 → h' a = h a) ∧ (∀ p, p < x → h' 41 p = h 41 p) ∧ ∀ p, x ≤ p → p < 48 → h' 41 p = 0 := by
  intro n
  induction n with
  | zero =>
    intro fu x h hf hx
    obtain ⟨fu, rfl⟩ : ∃ q, fu = q + 1 := ⟨fu - 1, by omega⟩
    rw [f_X1_print_2_s, L48, if_pos ((le_iff (by decide) (by omega)).mpr (by omega))]
    exact ⟨h, rfl, fun _ _ => rfl, fun _ _ => rfl, fun p h1 h2 => by omega⟩
  | succ n ih =>
    intro fu x h hf hx
    obtain ⟨fu, rfl⟩ : ∃ q, fu = q + 1 := ⟨fu - 1, by omega⟩
    rw [f_X1_print_2_s, L48, if_neg (fun z => by have := (le_iff (by decide) (by omega)).mp z; omega), if_pos (inb_nI (by omega) (by decide)), nc (by omega), nI_1]
    obtain ⟨h', r1, r2, r3, r4⟩ := ih fu (x + 1) (hs h 41 x 0) (by omega) (by omega)
    refine ⟨h', r1, fun a ha => by rw [r2 a ha, hs_r ha], fun p hp => by rw [r3 p (by omega), hs_j (by omega)], fun p h1 h2 => ?_⟩
    by_cases e : p = x
    · subst e
      rw [r3 p (by omega), hs_at]
    · exact r4 p (by omega) h2
theorem C_board {h : Hp} {k : Nat} {r : Nat → Int32} (hk : k = 1 ∨ k = 31) (v : VR r) (hr : capsAt h k r) : ∃ h', f_X1_print h k = some h' ∧ (∀ a, a < 41 ∨ 48 ≤ a → h' a = h a) ∧ (∀ c, c < 3 → ttAt h' (42 + 2 * c) (cb r c) (cd r c) (cf r c) (nI (ch r c))) ∧ ∀ p, p < 48 → h' 41 p = US r p := by
  unfold f_X1_print
  obtain ⟨g, e0, a0, -, z0⟩ := C_zero_loop k 48 FU 0 h (by decide) (by decide)
  rw [L0, e0]
  have keep : ∀ {x y : Hp}, capsAt x k r → (∀ a, a < 36 → y a = x a) → capsAt y k r := fun hx hy c hc j hj => by rw [hy _ (by omega)]; exact hx c hc j hj
  have hr0 : capsAt g k r := keep hr (fun a ha => a0 a (by omega))
  obtain ⟨g1, g2, p0, q0, f0, t0, u0⟩ := C_pr1 hk v hr0 (c := 0) (by decide)
  obtain ⟨g3, g4, p1, q1, f1, t1, u1⟩ := C_pr1 hk v (keep hr0 (fun a ha => f0 a (by omega) (by omega) (by omega))) (c := 1) (by decide)
  obtain ⟨g5, g6, p2, q2, f2, t2, u2⟩ := C_pr1 hk v (keep hr0 (fun a ha => (f1 a (by omega) (by omega) (by omega)).trans (f0 a (by omega) (by omega) (by omega)))) (c := 2) (by decide)
  have s0 : f_X1_print_26 k FU g (0 : Int32) = f_X1_print_26 k 199 g2 (nI 1) := by
    rw [show FU = 199 + 1 from rfl, f_X1_print_26_s, if_neg (by decide), if_pos (by decide), if_pos (by decide), show (0 : Int32).toNatClampNeg = 0 from rfl, p0, ob_s, if_pos (by decide), show (1 : Int32) <<< ((0 : Int32) &&& 31) = bt1 0 from rfl, q0, ob_s]
    rfl
  have s1 : f_X1_print_26 k 199 g2 (nI 1) = f_X1_print_26 k 198 g4 (nI 2) := by
    rw [show (199 : Nat) = 198 + 1 from rfl, f_X1_print_26_s, if_neg (by decide), if_pos (by decide), if_pos (by decide), nc (by decide), p1, ob_s, if_pos (by decide), show (1 : Int32) <<< ((nI 1 : Int32) &&& 31) = bt1 1 from rfl, q1, ob_s, nI_1]
  have s2 : f_X1_print_26 k 198 g4 (nI 2) = f_X1_print_26 k 197 g6 (nI 3) := by
    rw [show (198 : Nat) = 197 + 1 from rfl, f_X1_print_26_s, if_neg (by decide), if_pos (by decide), if_pos (by decide), nc (by decide), p2, ob_s, if_pos (by decide), show (1 : Int32) <<< ((nI 2 : Int32) &&& 31) = bt1 2 from rfl, q2, ob_s, nI_1]
  have s3 : f_X1_print_26 k 197 g6 (nI 3) = some g6 := by
    rw [show (197 : Nat) = 196 + 1 from rfl, f_X1_print_26_s, if_pos (by decide)]
  refine ⟨g6, ?_, fun a ha => ?_, fun c hc => ?_, fun p hp => ?_⟩
  · rw [s0, s1, s2, s3]
  · rw [f2 a (by omega) (by omega) (by omega), f1 a (by omega) (by omega) (by omega), f0 a (by omega) (by omega) (by omega), a0 a (by omega)]
  · rcases (show c = 0 ∨ c = 1 ∨ c = 2 by omega) with rfl | rfl | rfl
    · exact tt_at_keep (tt_at_keep t0 (f1 _ (by omega) (by omega) (by omega)) (f1 _ (by omega) (by omega) (by omega))) (f2 _ (by omega) (by omega) (by omega)) (f2 _ (by omega) (by omega) (by omega))
    · exact tt_at_keep t1 (f2 _ (by omega) (by omega) (by omega)) (f2 _ (by omega) (by omega) (by omega))
    · exact t2
  · rw [u2 p hp, u1 p hp, u0 p hp, z0 p (by omega) hp]
    rfl
/-! the reference's board -/
theorem ttAtM_keep {h h' : Hp} {c c' b d f : Nat} (hcc : c ≠ c') (t : ttAtM h c b d f) (e7 : ∀ j, j ≠ c' → h' 7 j = h 7 j) (e6 : ∀ j, j < 8 * c' ∨ 8 * c' + 8 ≤ j → h' 6 j = h 6 j) : ttAtM h' c b d f := by
  have := tt_len b d f
  refine ⟨by rw [e7 c hcc]; exact t.1, fun i hi => ?_⟩
  rw [e6 _ (by omega)]
  exact t.2 i hi
theorem M_pr {hm : Hp} (v : VR (hm 1)) {c : Nat} (hc : c < 3) : ∃ h', f_X8_print hm (nI c) = some h' ∧ (∀ a, a ≠ 6 → a ≠ 7 → h' a = hm a) ∧ (∀ j, j ≠ c → h' 7 j = hm 7 j) ∧ (∀ j, j < 8 * c ∨ 8 * c + 8 ≤ j → h' 6 j = hm 6 j) ∧ ttAtM h' c (cb (hm 1) c) (cd (hm 1) c) (cf (hm 1) c) :=
  M_print hc (VR_b v hc).2 (VR_d v hc).2.2 (VR_f v hc).2 (VR_b v hc).1 (VR_d v hc).1 (VR_f v hc).1
theorem M_printAll {hm : Hp} (v : VR (hm 1)) : ∃ h', f_X8_printAll hm = some h' ∧ (∀ a, a ≠ 6 → a ≠ 7 → h' a = hm a) ∧ ∀ c, c < 3 → ttAtM h' c (cb (hm 1) c) (cd (hm 1) c) (cf (hm 1) c) := by
  unfold f_X8_printAll
  obtain ⟨g0, e0, a0, b0, d0, t0⟩ := M_pr v (c := 0) (by decide)
  have r0 : g0 1 = hm 1 := a0 1 (by decide) (by decide)
  obtain ⟨g1, e1, a1, b1, d1, t1⟩ := M_pr (hm := g0) (by rw [r0]; exact v) (c := 1) (by decide)
  have r1 : g1 1 = hm 1 := (a1 1 (by decide) (by decide)).trans r0
  obtain ⟨g2, e2, a2, b2, d2, t2⟩ := M_pr (hm := g1) (by rw [r1]; exact v) (c := 2) (by decide)
  rw [r0] at t1
  rw [r1] at t2
  refine ⟨g2, ?_, fun a x y => by rw [a2 a x y, a1 a x y, a0 a x y], fun c hc => ?_⟩
  · rw [show FU = 196 + 1 + 1 + 1 + 1 from rfl, f_X8_printAll_2_s, if_neg (by decide), show f_X8_print hm (0 : Int32) = some g0 from e0, ob_s, f_X8_printAll_2_s, if_neg (by decide), show (0 + 1 : Int32) = nI 1 by decide, e1, ob_s, f_X8_printAll_2_s, nI_1, if_neg (by decide), e2, ob_s, f_X8_printAll_2_s, nI_1, if_pos (by decide)]
  · rcases (show c = 0 ∨ c = 1 ∨ c = 2 by omega) with rfl | rfl | rfl
    · exact ttAtM_keep (by decide) (ttAtM_keep (by decide) t0 b1 d1) b2 d2
    · exact ttAtM_keep (by decide) t1 b2 d2
    · exact t2
theorem M_hourOf (h : Hp) {c i : Nat} (hc : c < 3) (hi : i < 8) : f_X8_hourOf h (nI c) (nI i) = some (h 6 (8 * c + i), h) := by
  unfold f_X8_hourOf
  rw [L8, pk_mul, nI_add, if_pos (inb_nI (by omega) (by decide)), nc (by omega)]
theorem M_pierOf (h : Hp) {c i v : Nat} (hc : c < 3) (hv : h 1 (6 + 10 * c + 3) = nI v) (hi : v + i < 64) : f_X8_pierOf h (nI c) (nI i) = some (nI ((v + i) % 2), h) := by
  unfold f_X8_pierOf
  rw [L3, M_of h hc (by decide), ob_s]
  simp only []
  rw [hv, nI_add, L2, md2 _ hi]
theorem M_usesPier_loop {h : Hp} {c b d f v : Nat} (hc : c < 3) (t : ttAtM h c b d f) (hv : h 1 (6 + 10 * c + 3) = nI v) (hv2 : v < 2) {pp hr : Nat} (hpp : pp < 2) (hhr : hr < 24) : ∀ (n fu i : Nat), n < fu → i + n = (tt b d f).length → f_X8_usesPier_3 fu h (nI c) (nI pp) (nI hr) (nI i) = some (if usn (tt b d f) v (hr * 2 + pp) n i = true then 1 else 0, h) := by
  have hl := tt_len b d f
  intro n
  induction n with
  | zero =>
    intro fu i hf hi
    obtain ⟨fu, rfl⟩ : ∃ q, fu = q + 1 := ⟨fu - 1, by omega⟩
    rw [f_X8_usesPier_3_s, if_pos (inb_nI hc (by decide)), nc (by omega), t.1, if_pos ((le_iff (by omega) (by omega)).mpr (by omega))]
    simp [usn]
  | succ n ih =>
    intro fu i hf hi
    obtain ⟨fu, rfl⟩ : ∃ q, fu = q + 1 := ⟨fu - 1, by omega⟩
    have hX := @tt_le b d f i (by omega)
    have hho : f_X8_hourOf h (nI c) (nI i) = some (nI ((tt b d f).getD i 0), h) := by
      rw [M_hourOf h hc (by omega), t.2 i (by omega)]
    have hpi : f_X8_pierOf h (nI c) (nI i) = some (nI ((v + i) % 2), h) := M_pierOf h hc hv (by omega)
    have k72 : ∀ (u : Bool) (t0 : Int32), (t0 = if u = true then 1 else 0) → f_X8_usesPier_72 (f_X8_usesPier_3 fu) h (nI c) (nI pp) (nI hr) (nI i) 0 t0 = some (if (u || usn (tt b d f) v (hr * 2 + pp) n (i + 1)) = true then 1 else 0, h) := by
      intro u t0 ht0
      unfold f_X8_usesPier_72
      rw [if_pos z00, ht0]
      cases u
      · rw [if_neg fft, if_pos z00, nI_1, ih fu (i + 1) (by omega) (by omega)]
        simp only [Bool.false_or]
      · rw [if_pos ttt, if_neg n10]
        simp only [Bool.true_or, if_true]
    have k72' : ∀ (t0 : Int32), f_X8_usesPier_72 (f_X8_usesPier_3 fu) h (nI c) (nI pp) (nI hr) (nI i) 1 t0 = some (1, h) := by
      intro t0
      unfold f_X8_usesPier_72
      rw [if_neg n10]
    have k41 : ∀ (u1 : Bool) (t0 : Int32), (t0 = if u1 = true then 1 else 0) → f_X8_usesPier_41 (f_X8_usesPier_3 fu) h (nI c) (nI pp) (nI hr) (nI i) t0 = some (if (u1 || decide (((tt b d f).getD i 0 + 2) * 2 + (v + (i + 1)) % 2 = hr * 2 + pp) || usn (tt b d f) v (hr * 2 + pp) n (i + 1)) = true then 1 else 0, h) := by
      intro u1 t0 ht0
      unfold f_X8_usesPier_41 f_X8_usesPier_71
      rw [hho, ob_s]
      simp only []
      rw [show nI ((tt b d f).getD i 0) + (2 : Int32) = nI ((tt b d f).getD i 0 + 2) from nI_add _ 2]
      have fin : ∀ (u2 : Bool) (t1 : Int32), (t1 = if u2 = true then 1 else 0) → f_X8_usesPier_72 (f_X8_usesPier_3 fu) h (nI c) (nI pp) (nI hr) (nI i) t0 t1 = some (if (u1 || u2 || usn (tt b d f) v (hr * 2 + pp) n (i + 1)) = true then 1 else 0, h) := by
        intro u2 t1 ht1
        cases u1
        · rw [ht0, if_neg fft, k72 u2 t1 ht1]
          simp only [Bool.false_or]
        · rw [ht0, if_pos ttt, k72']
          simp only [Bool.true_or, if_true]
      by_cases e : (tt b d f).getD i 0 + 2 = hr
      · rw [if_pos ((eq_iff (by omega) (by omega)).mpr e), hpi, ob_s]
        simp only []
        by_cases ep : (v + i) % 2 = pp
        · rw [if_pos ((eq_iff (by omega) (by omega)).mpr ep), fin false 0 rfl, show decide (((tt b d f).getD i 0 + 2) * 2 + (v + (i + 1)) % 2 = hr * 2 + pp) = false from decide_eq_false (by omega)]
        · rw [if_neg (fun z => ep ((eq_iff (by omega) (by omega)).mp z)), fin true 1 rfl, show decide (((tt b d f).getD i 0 + 2) * 2 + (v + (i + 1)) % 2 = hr * 2 + pp) = true from decide_eq_true (by omega)]
      · rw [if_neg (fun z => e ((eq_iff (by omega) (by omega)).mp z)), fin false 0 rfl, show decide (((tt b d f).getD i 0 + 2) * 2 + (v + (i + 1)) % 2 = hr * 2 + pp) = false from decide_eq_false (by omega)]
    rw [f_X8_usesPier_3_s, if_pos (inb_nI hc (by decide)), nc (by omega), t.1, if_neg (fun z => by have := (le_iff (by omega) (by omega)).mp z; omega), hho, ob_s]
    simp only []
    unfold f_X8_usesPier_40
    rw [usn, mt]
    by_cases e : (tt b d f).getD i 0 = hr
    · rw [if_pos ((eq_iff (by omega) (by omega)).mpr e), hpi, ob_s]
      simp only []
      by_cases ep : (v + i) % 2 = pp
      · rw [if_pos ((eq_iff (by omega) (by omega)).mpr ep), k41 true 1 rfl, show decide ((tt b d f).getD i 0 * 2 + (v + i) % 2 = hr * 2 + pp) = true from decide_eq_true (by omega)]
      · rw [if_neg (fun z => ep ((eq_iff (by omega) (by omega)).mp z)), k41 false 0 rfl, show decide ((tt b d f).getD i 0 * 2 + (v + i) % 2 = hr * 2 + pp) = false from decide_eq_false (by omega)]
    · rw [if_neg (fun z => e ((eq_iff (by omega) (by omega)).mp z)), k41 false 0 rfl, show decide ((tt b d f).getD i 0 * 2 + (v + i) % 2 = hr * 2 + pp) = false from decide_eq_false (by omega)]
/-! both print all -/
theorem SIM_caps {h hm : Hp} (s : SIM h hm) : capsAt h 1 (hm 1) := fun c hc j hj => by
  have := cap_at s hc hj
  rwa [show 1 + 1 + 1 + c = 3 + c by omega]
theorem SIM_M67 {h hm hm' : Hp} (s : SIM h hm) (e : ∀ a, a ≠ 6 → a ≠ 7 → hm' a = hm a) : SIM h hm' :=
  SIM_keep s (fun _ _ => rfl) rfl rfl rfl (fun j _ _ => by rw [e 0 (by decide) (by decide)]) (e 1 (by decide) (by decide)) (e 2 (by decide) (by decide)) (e 4 (by decide) (by decide)) (e 5 (by decide) (by decide))
theorem SIM_C41 {h h' hm : Hp} (s : SIM h hm) (e : ∀ a, a < 41 ∨ 48 ≤ a → h' a = h a) : SIM h' hm :=
  SIM_keep s (fun a ha => e a (by omega)) (e 36 (by omega)) (by rw [e 37 (by omega)]) (e 38 (by omega)) (fun _ _ _ => rfl) rfl rfl rfl rfl
