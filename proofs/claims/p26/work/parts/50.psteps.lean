/-! sail, ifSailed, bestPhase -/
def sJ (x : Nat → Int32) (j : Nat) : Int32 := x (6 + 10 * 0 + j) + x (6 + 10 * 1 + j) + x (6 + 10 * 2 + j)
theorem i_cancel (a b : Int32) : a + b - a = b := by rw [Int32.add_comm, Int32.add_sub_cancel]
theorem s_sum {x r : Nat → Int32} {j : Nat} {g : Nat → Int32} (h : ∀ c, c < 3 → x (6 + 10 * c + j) = r (6 + 10 * c + j) + g c) : sJ x j = sJ r j + (g 0 + g 1 + g 2) := by
  unfold sJ
  rw [h 0 (by decide), h 1 (by decide), h 2 (by decide)]
  ac_rfl
theorem C_sumF (h : Hp) {w : Int32} {g : Nat → Int32} (hw : ∀ c, c < 3 → f_X3_tell h (50 + 3 * c) w = some (g c, h)) : f_X4_sumOf h w = some (g 0 + g 1 + g 2, h) := by
  have stp : ∀ (n c : Nat) (a : Int32), c < 3 → f_X4_sumOf_14 (n + 1) h w a (nI 3) (nI c) = f_X4_sumOf_14 n h w (a + g c) (nI 3) (nI (c + 1)) := by
    intro n c a hc
    rw [f_X4_sumOf_14_s, if_neg (fun z => by have := (le_iff (by decide) (by omega)).mp z; omega), if_pos (inb_nI hc (by decide)), nc (by omega), hw c hc, ob_s, nI_1]
  unfold f_X4_sumOf
  show f_X4_sumOf_14 (196 + 1 + 1 + 1 + 1) h w (0 : Int32) (nI 3) (nI 0) = _
  rw [stp _ 0 _ (by decide), stp _ (0 + 1) _ (by decide), stp _ (0 + 1 + 1) _ (by decide), f_X4_sumOf_14_s, if_pos (by decide), i_0add]
/-- what the ferries made -/
def md7 (h : Hp) (c : Nat) : Int32 := h (50 + 3 * c) 7
theorem tell5 (h : Hp) : f_X4_sumOf h (5 : Int32) = some (md7 h 0 + md7 h 1 + md7 h 2, h) := C_sumF h (g := md7 h) (fun c _ => rfl)
theorem M_sumJ (h : Hp) {j : Nat} (hj : j < 10) : f_X8_sumOf h (nI j) = some (sJ (h 1) j, h) := M_sumOf h hj
theorem sailDay {h hm : Hp} {dy : Nat} (s : SIM h hm) (hd : hm 1 0 = nI dy) (h9 : dy < 9999) : ∃ h1 h2 hm2 S, f_X4_run h 1 = some h1 ∧ f_X5_endDay h1 1 = some h2 ∧ f_X8_sailDay hm = some hm2 ∧ SIM h2 hm2 ∧ hm2 1 0 = nI (dy + 1) ∧ f_X4_sumOf h2 (5 : Int32) = some (S, h2) ∧ sJ (hm2 1) 4 = sJ (hm 1) 4 + S := by
  have v := s.2.1
  obtain ⟨h1, hm1, e1, e2, G⟩ := day (k1 := 1) (Or.inl rfl) v (SIM_caps s) (low_at s (i := 1) (by decide)) (low_at s (i := 2) (by decide)) rfl
  have fr := G.2.2.2.1
  obtain ⟨h2, x1, a2, E2⟩ := C_evening (r := hm 1) (h := h1) (fun c hc j hj => by rw [fr _ (by omega)]; exact SIM_caps s c hc j hj) (fun i hi => by rw [fr 1 (by decide)]; exact low_at s hi)
  obtain ⟨hm2, y1, E1, m25, m0, -⟩ := M_evening G
  have hf : ∀ c, c < 3 → md7 h2 c = md7 h1 c := fun c hc => by unfold md7; rw [a2 _ (by omega) (by omega) (by omega) (by omega)]
  refine ⟨h1, h2, hm2, md7 h2 0 + md7 h2 1 + md7 h2 2, e1, x1, e2.trans y1, ?_, ?_, tell5 h2, ?_⟩
  · exact SIM_now s (fun j => by rw [a2 0 (by decide) (by decide) (by decide) (by decide), fr 0 (by decide)]) (fun a h6 h31 => by rw [a2 a (by omega) (by omega) (by omega) (by omega), fr a (by omega)]) (by rw [a2 36 (by decide) (by decide) (by decide) (by decide), fr 36 (by decide)]) (by rw [a2 37 (by decide) (by decide) (by decide) (by decide), fr 37 (by decide)]) (by rw [a2 38 (by decide) (by decide) (by decide) (by decide), fr 38 (by decide)]) (fun j _ _ => m0 j (by omega)) (EV_eq E2 E1) (VR_EV v hd h9 G E1) (m25 2 (by decide) (by decide)) (m25 4 (by decide) (by decide)) (m25 5 (by decide) (by decide))
  · rw [E1.1.1, hd, nI_1]
  · exact s_sum (g := md7 h2) (fun c hc => by rw [(E1.2 c hc).2.2.1, hf c hc]; rfl)
theorem sail_loop {T : Nat} (hT : T ≤ 30) (x2 : Int32) : ∀ (k fu i dy : Nat) (acc : Int32) (h hm : Hp), k < fu → i + k = T → SIM h hm → hm 1 0 = nI dy → dy + k ≤ 9999 → sJ (hm 1) 4 = x2 + acc → ∃ r h' hm', f_X7_sail_40 fu h (nI T) acc (nI i) = some (r, h') ∧ f_X8_sail_42 fu hm (nI T) x2 (nI i) = some (r, hm') ∧ SIM h' hm' := by
  intro k
  induction k with
  | zero =>
    intro fu i dy acc h hm hf hi s hd h9 hs
    obtain ⟨fu, rfl⟩ : ∃ q, fu = q + 1 := ⟨fu - 1, by omega⟩
    refine ⟨acc, h, hm, ?_, ?_, s⟩
    · rw [f_X7_sail_40_s, if_pos ((le_iff (by omega) (by omega)).mpr (by omega))]
    · rw [f_X8_sail_42_s, if_pos ((le_iff (by omega) (by omega)).mpr (by omega)), show f_X8_sumOf hm (4 : Int32) = _ from M_sumJ hm (j := 4) (by decide), ob_s, hs, i_cancel]
  | succ k ih =>
    intro fu i dy acc h hm hf hi s hd h9 hs
    obtain ⟨fu, rfl⟩ : ∃ q, fu = q + 1 := ⟨fu - 1, by omega⟩
    obtain ⟨h1, h2, hm2, S, e1, e2, e3, s2, d2, e4, e5⟩ := sailDay s hd (by omega)
    obtain ⟨r, h', hm', f1, f2, f3⟩ := ih fu (i + 1) (dy + 1) (acc + S) h2 hm2 (by omega) (by omega) s2 d2 (by omega) (by rw [e5, hs, Int32.add_assoc])
    refine ⟨r, h', hm', ?_, ?_, f3⟩
    · rw [f_X7_sail_40_s, if_neg (fun z => by have := (le_iff (by omega) (by omega)).mp z; omega), e1, ob_s, e2, ob_s, e4, ob_s, nI_1]
      exact f1
    · rw [f_X8_sail_42_s, if_neg (fun z => by have := (le_iff (by omega) (by omega)).mp z; omega), e3, ob_s, nI_1]
      exact f2
