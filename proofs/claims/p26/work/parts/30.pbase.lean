/-! THE MATHEMATICS: small facts -/
theorem FUv : FU = 200 := rfl
theorem ob_s {α β : Type} {a : α} {f : α → Option β} : (some a).bind f = f a := rfl
theorem L0 : (0 : Int32) = nI 0 := by decide
theorem L1 : (1 : Int32) = nI 1 := by decide
theorem L2 : (2 : Int32) = nI 2 := by decide
theorem L3 : (3 : Int32) = nI 3 := by decide
theorem L4 : (4 : Int32) = nI 4 := by decide
theorem L5 : (5 : Int32) = nI 5 := by decide
theorem L6 : (6 : Int32) = nI 6 := by decide
theorem L7 : (7 : Int32) = nI 7 := by decide
theorem L8 : (8 : Int32) = nI 8 := by decide
theorem L9 : (9 : Int32) = nI 9 := by decide
theorem L10 : (10 : Int32) = nI 10 := by decide
theorem L11 : (11 : Int32) = nI 11 := by decide
theorem L12 : (12 : Int32) = nI 12 := by decide
theorem L21 : (21 : Int32) = nI 21 := by decide
theorem L23 : (23 : Int32) = nI 23 := by decide
theorem L24 : (24 : Int32) = nI 24 := by decide
theorem L30 : (30 : Int32) = nI 30 := by decide
theorem L36 : (36 : Int32) = nI 36 := by decide
theorem L48 : (48 : Int32) = nI 48 := by decide
theorem L60 : (60 : Int32) = nI 60 := by decide
theorem L9999 : (9999 : Int32) = nI 9999 := by decide
theorem L65536 : (65536 : Int32) = nI 65536 := by decide
theorem L65537 : (65537 : Int32) = nI 65537 := by decide
theorem n1z : ¬ (1 : Int32) = nI 0 := by decide
theorem n10 : ¬ (1 : Int32) = 0 := by decide
theorem z0z : (0 : Int32) = nI 0 := by decide
theorem nz0 : nI 0 = (0 : Int32) := by decide
theorem fft : ¬ false = true := by decide
theorem ttt : true = true := rfl
theorem z00 : (0 : Int32) = 0 := rfl
theorem inb_nI {a n : Nat} (h : a < n) (hn : n < 2 ^ 31) : inb (nI a) n = true := by
  have h1 := vp_in_iff.mp (vp_in_nI h hn)
  exact decide_eq_true h1
theorem nc {a : Nat} (h : a < 2 ^ 31) : (nI a).toNatClampNeg = a := nI_clamp h
theorem lt_iff {a b : Nat} (ha : a < 2 ^ 31) (hb : b < 2 ^ 31) : nI a < nI b ↔ a < b := nI_ltI ha hb
theorem le_iff {a b : Nat} (ha : a < 2 ^ 31) (hb : b < 2 ^ 31) : nI a ≤ nI b ↔ a ≤ b := nI_leI ha hb
theorem eq_iff {a b : Nat} (ha : a < 2 ^ 31) (hb : b < 2 ^ 31) : nI a = nI b ↔ a = b := nI_eq ha hb
theorem hs_at (h : Hp) (k j : Nat) (v : Int32) : hs h k j v k j = v := by simp [hs]
theorem hs_j {h : Hp} {k j a b : Nat} {v : Int32} (hb : b ≠ j) : hs h k j v a b = h a b := by simp [hs, hb]
theorem hs_k {h : Hp} {k j a b : Nat} {v : Int32} (ha : a ≠ k) : hs h k j v a b = h a b := by simp [hs, ha]
theorem hs_r {h : Hp} {k j a : Nat} {v : Int32} (ha : a ≠ k) : hs h k j v a = h a := hs_ne h k j v ha
/-! the level of a tide, the timetable that is printed by it -/
def lvl (b t : Nat) : Nat := if 6 ≤ (t + b) % 12 then (t + b) % 12 - 6 else 6 - (t + b) % 12
theorem lvl_int : ∀ b, b < 12 → ∀ t, t < 24 → (if (0 : Int32) ≤ (((nI t + nI b) - (nI t + nI b) / (12 : Int32) * (12 : Int32)) - (6 : Int32)) then (((nI t + nI b) - (nI t + nI b) / (12 : Int32) * (12 : Int32)) - (6 : Int32)) else 0 - (((nI t + nI b) - (nI t + nI b) / (12 : Int32) * (12 : Int32)) - (6 : Int32))) = nI (lvl b t) := by decide +kernel
theorem lvl_le {b t : Nat} : lvl b t ≤ 6 := by
  unfold lvl
  have h : (t + b) % 12 < 12 := Nat.mod_lt _ (by decide)
  split <;> omega
theorem C_levelAt (h : Hp) {b t : Nat} (hb : b < 12) (ht : t < 24) : f_X7_levelAt h (nI b) (nI t) = some (nI (lvl b t), h) := by
  unfold f_X7_levelAt
  rw [lvl_int b hb t ht]
theorem lvl_intM : ∀ b, b < 12 → ∀ t, t < 24 → ((0 : Int32) ≤ (((nI t + nI b) - (nI t + nI b) / (12 : Int32) * (12 : Int32)) - (6 : Int32)) → (((nI t + nI b) - (nI t + nI b) / (12 : Int32) * (12 : Int32)) - (6 : Int32)) = nI (lvl b t)) ∧ (¬ (0 : Int32) ≤ (((nI t + nI b) - (nI t + nI b) / (12 : Int32) * (12 : Int32)) - (6 : Int32)) → (-(((nI t + nI b) - (nI t + nI b) / (12 : Int32) * (12 : Int32)) - (6 : Int32))) = nI (lvl b t)) := by decide +kernel
theorem M_levelOf (h : Hp) {b t : Nat} (hb : b < 12) (ht : t < 24) : f_X8_levelOf h (nI b) (nI t) = some (nI (lvl b t), h) := by
  unfold f_X8_levelOf
  obtain ⟨h1, h2⟩ := lvl_intM b hb t ht
  split
  · rename_i hc
    rw [h1 hc]
  · rename_i hc
    rw [h2 hc]
/-- the hours of the crossings from the hour f on -/
def ttl (b d : Nat) : Nat → Nat → List Nat
  | 0, _ => []
  | n + 1, f => if 21 < f then [] else if d ≤ lvl b f then f :: ttl b d n (f + 3) else ttl b d n (f + 1)
theorem ttl_out {b d f : Nat} (hf : 21 < f) : ∀ n, ttl b d n f = []
  | 0 => rfl
  | n + 1 => by rw [ttl, if_pos hf]
theorem ttl_fuel (b d : Nat) : ∀ (n m f : Nat), 22 ≤ n + f → 22 ≤ m + f → ttl b d n f = ttl b d m f
  | 0, m, f, h1, _ => by rw [ttl_out (by omega), ttl_out (by omega)]
  | n + 1, 0, f, _, h2 => by rw [ttl_out (by omega), ttl_out (by omega)]
  | n + 1, m + 1, f, h1, h2 => by
    rw [ttl, ttl]
    by_cases hf : 21 < f
    · rw [if_pos hf, if_pos hf]
    · rw [if_neg hf, if_neg hf]
      by_cases hd : d ≤ lvl b f
      · rw [if_pos hd, if_pos hd, ttl_fuel b d n m (f + 3) (by omega) (by omega)]
      · rw [if_neg hd, if_neg hd, ttl_fuel b d n m (f + 1) (by omega) (by omega)]
/-- the timetable: by the believed phase, the draft, the first hour -/
def tt (b d f : Nat) : List Nat := ttl b d 24 f
theorem tt_out {b d f : Nat} (hf : 21 < f) : tt b d f = [] := ttl_out hf 24
theorem tt_yes {b d f : Nat} (hf : ¬ 21 < f) (hd : d ≤ lvl b f) : tt b d f = f :: tt b d (f + 3) := by
  unfold tt
  rw [ttl, if_neg hf, if_pos hd, ttl_fuel b d 23 24 (f + 3) (by omega) (by omega)]
theorem tt_no {b d f : Nat} (hf : ¬ 21 < f) (hd : ¬ d ≤ lvl b f) : tt b d f = tt b d (f + 1) := by
  unfold tt
  rw [ttl, if_neg hf, if_neg hd, ttl_fuel b d 23 24 (f + 1) (by omega) (by omega)]
theorem ttl_len (b d : Nat) : ∀ (n f : Nat), f ≤ 24 → 3 * (ttl b d n f).length + f ≤ 24
  | 0, f, h => by simpa [ttl] using h
  | n + 1, f, h => by
    rw [ttl]
    by_cases hf : 21 < f
    · rw [if_pos hf]; simpa using h
    · rw [if_neg hf]
      by_cases hd : d ≤ lvl b f
      · rw [if_pos hd]
        have h1 := ttl_len b d n (f + 3) (by omega)
        simp only [List.length_cons]
        omega
      · rw [if_neg hd]
        have h1 := ttl_len b d n (f + 1) (by omega)
        omega
theorem tt_len (b d f : Nat) : (tt b d f).length ≤ 8 := by
  by_cases hf : f ≤ 24
  · have h := ttl_len b d 24 f hf
    unfold tt
    omega
  · rw [tt_out (by omega)]
    exact Nat.zero_le 8
theorem ttl_mem (b d : Nat) : ∀ (n f x : Nat), x ∈ ttl b d n f → f ≤ x ∧ x ≤ 21
  | 0, f, x, h => by cases h
  | n + 1, f, x, h => by
    rw [ttl] at h
    by_cases hf : 21 < f
    · rw [if_pos hf] at h; cases h
    · rw [if_neg hf] at h
      by_cases hd : d ≤ lvl b f
      · rw [if_pos hd] at h
        rcases List.mem_cons.mp h with rfl | h
        · omega
        · have h1 := ttl_mem b d n (f + 3) x h
          omega
      · rw [if_neg hd] at h
        have h1 := ttl_mem b d n (f + 1) x h
        omega
theorem tt_get {b d f i : Nat} (hi : i < (tt b d f).length) : f ≤ (tt b d f).getD i 0 ∧ (tt b d f).getD i 0 ≤ 21 := by
  apply ttl_mem b d 24 f
  show (tt b d f).getD i 0 ∈ tt b d f
  rw [List.getD_eq_getElem?_getD, List.getElem?_eq_getElem hi]
  exact List.getElem_mem hi
/-! the class prints -/
theorem C_print_loop {k k1 : Nat} (hk : isX6 k) (hk1 : isX2 k1) {b d : Nat} (hb : b < 12) (hd : d ≤ 6) : ∀ (n x e c : Nat) (h : Hp), 24 < n + x → x ≤ 22 → e ≤ 30 → h k1 0 = nI b → h k1 1 = nI d → h k 1 = nI c → c + (tt b d (max e x)).length ≤ 8 →
    ∃ h', f_X6_print_23 k k1 n h (nI e) (nI x) = some h' ∧ (∀ a, a ≠ k → a ≠ k + 1 → h' a = h a) ∧ (∀ j, j ≠ 1 → h' k j = h k j) ∧ h' k 1 = nI (c + (tt b d (max e x)).length) ∧ (∀ i, i < c → h' (k + 1) i = h (k + 1) i) ∧ (∀ i, i < (tt b d (max e x)).length → h' (k + 1) (c + i) = nI ((tt b d (max e x)).getD i 0)) := by
  intro n
  induction n with
  | zero => intro x e c h h1 h2; omega
  | succ n ih =>
    intro x e c h hn hx he h0 h1 hc hl
    rw [f_X6_print_23_s]
    simp only [L21]
    by_cases hx21 : 21 < x
    · rw [if_pos ((lt_iff (by decide) (by omega)).mpr hx21)]
      have hz : tt b d (max e x) = [] := tt_out (by omega)
      rw [hz]
      exact ⟨h, rfl, fun _ _ _ => rfl, fun _ _ => rfl, by simpa using hc, fun _ _ => rfl, fun i hi => absurd hi (Nat.not_lt_zero i)⟩
    · rw [if_neg (fun z => hx21 ((lt_iff (by decide) (by omega)).mp z))]
      have skip : ∀ e2, max e2 (x + 1) ≤ 30 → tt b d (max e x) = tt b d (max e2 (x + 1)) → ∃ h', f_X6_print_97 k k1 (f_X6_print_23 k k1 n) h (nI e2) (nI x) = some h' ∧ (∀ a, a ≠ k → a ≠ k + 1 → h' a = h a) ∧ (∀ j, j ≠ 1 → h' k j = h k j) ∧ h' k 1 = nI (c + (tt b d (max e x)).length) ∧ (∀ i, i < c → h' (k + 1) i = h (k + 1) i) ∧ (∀ i, i < (tt b d (max e x)).length → h' (k + 1) (c + i) = nI ((tt b d (max e x)).getD i 0)) := by
        intro e2 he2 ht
        unfold f_X6_print_97
        rw [nI_1, ht]
        exact ih (x + 1) e2 c h (by omega) (by omega) (by omega) h0 h1 hc (by rw [← ht]; exact hl)
      by_cases hxe : x < e
      · rw [if_pos ((lt_iff (by omega) (by omega)).mpr hxe)]
        unfold f_X6_print_53 f_X6_print_54
        rw [if_pos rfl]
        exact skip e (by omega) (by rw [show max e x = max e (x + 1) by omega])
      · rw [if_neg (fun z => hxe ((lt_iff (by omega) (by omega)).mp z))]
        have hm : max e x = x := by omega
        rw [h0, C_levelAt h hb (by omega), ob_s]
        simp only []
        rw [h1]
        by_cases hw : d ≤ lvl b x
        · have hle := @lvl_le b x
          rw [if_neg (fun z => by have := (lt_iff (by omega) (by omega)).mp z; omega)]
          have hty : tt b d (max e x) = x :: tt b d (x + 3) := by rw [hm]; exact tt_yes hx21 hw
          rw [hty] at hl ⊢
          simp only [List.length_cons] at hl ⊢
          unfold f_X6_print_54
          rw [if_neg (by decide), hc]
          simp only [L8]
          rw [if_neg (fun z => by have := (le_iff (by decide) (by omega)).mp z; omega), if_pos (inb_nI (by omega) (by decide)), nc (by omega)]
          unfold f_X6_print_93 f_X6_print_97
          simp only [L3, L1, nI_add]
          have hne : k ≠ k + 1 := by omega
          have hk1' : k1 ≠ k ∧ k1 ≠ k + 1 := by omega
          have e1 : hs h (k + 1) c (nI x) k 1 = nI c := by rw [hs_k hne, hc]
          rw [e1, nI_add]
          obtain ⟨h', r1, r2, r3, r4, r5, r6⟩ := ih (x + 1) (x + 3) (c + 1) (hs (hs h (k + 1) c (nI x)) k 1 (nI (c + 1))) (by omega) (by omega) (by omega)
            (by rw [hs_k hk1'.1, hs_k hk1'.2, h0]) (by rw [hs_k hk1'.1, hs_k hk1'.2, h1]) (hs_at _ _ _ _) (by rw [show max (x + 3) (x + 1) = x + 3 by omega]; omega)
          rw [show max (x + 3) (x + 1) = x + 3 by omega] at r4 r6
          refine ⟨h', r1, fun a ha hb => ?_, fun j hj => ?_, ?_, fun i hi => ?_, fun i hi => ?_⟩
          · rw [r2 a ha hb, hs_r ha, hs_r hb]
          · rw [r3 j hj, hs_j hj, hs_k hne]
          · rw [r4]; congr 1; omega
          · rw [r5 i (by omega), hs_k hne.symm, hs_j (by omega)]
          · cases i with
            | zero =>
              show h' (k + 1) c = nI x
              rw [r5 c (by omega), hs_k hne.symm, hs_at]
            | succ i =>
              have r7 := r6 i (by omega)
              rw [show c + (i + 1) = c + 1 + i by omega, r7]
              rfl
        · have hle := @lvl_le b x
          rw [if_pos ((lt_iff (by omega) (by omega)).mpr (by omega))]
          unfold f_X6_print_53 f_X6_print_54
          rw [if_pos rfl]
          exact skip e (by omega) (by rw [hm, show max e (x + 1) = x + 1 by omega]; exact tt_no hx21 hw)
/-- what a printed timetable holds: crossings, home, hours -/
def ttAt (h : Hp) (k b d f : Nat) (hm : Int32) : Prop := h k 1 = nI (tt b d f).length ∧ h k 2 = hm ∧ ∀ i, i < (tt b d f).length → h (k + 1) i = nI ((tt b d f).getD i 0)
theorem C_print {k k1 : Nat} (hk : isX6 k) (hk1 : isX2 k1) {b d f : Nat} (hb : b < 12) (hd : d ≤ 6) (hf : f < 24) {h : Hp} (h0 : h k1 0 = nI b) (h1 : h k1 1 = nI d) (h2 : h k1 2 = nI f) :
    ∃ h', f_X6_print h k k1 = some h' ∧ (∀ a, a ≠ k → a ≠ k + 1 → h' a = h a) ∧ ttAt h' k b d f (h k1 3) := by
  unfold f_X6_print f_X6_print_13
  have hk1' : k1 ≠ k ∧ k1 ≠ k + 1 := by omega
  rw [hs_k hk1'.1, hs_k hk1'.1, h2]
  by_cases hf22 : f ≤ 22
  · obtain ⟨h', r1, r2, r3, r4, r5, r6⟩ := C_print_loop hk hk1 hb hd FU f f 0 (hs (hs h k 2 (h k1 3)) k 1 0) (by have := FUv; omega) hf22 (by omega) (by rw [hs_k hk1'.1, hs_k hk1'.1, h0]) (by rw [hs_k hk1'.1, hs_k hk1'.1, h1]) (by rw [hs_at]; rfl) (by rw [Nat.zero_add]; exact tt_len _ _ _)
    rw [show max f f = f by omega] at r4 r6
    refine ⟨h', r1, fun a ha hb => ?_, ?_, ?_, fun i hi => ?_⟩
    · rw [r2 a ha hb, hs_r ha, hs_r ha]
    · rw [r4, Nat.zero_add]
    · rw [r3 2 (by decide), hs_j (by decide), hs_at]
    · have := r6 i hi
      rwa [Nat.zero_add] at this
  · have hz : tt b d f = [] := tt_out (by omega)
    refine ⟨_, by
      rw [show FU = 199 + 1 from rfl, f_X6_print_23_s]
      simp only [L21]
      rw [if_pos ((lt_iff (by decide) (by omega)).mpr (by omega))], fun a ha hb => by rw [hs_r ha, hs_r ha], ?_, ?_, fun i hi => ?_⟩
    · rw [hs_at, hz]; rfl
    · rw [hs_j (by decide), hs_at]
    · rw [hz] at hi; exact absurd hi (Nat.not_lt_zero i)
