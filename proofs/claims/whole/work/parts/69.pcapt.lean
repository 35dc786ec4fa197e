/-! fault and captains -/
theorem ans_lo : ∀ j, j < 61 → (¬ (0 : Int32) ≤ (-100 : Int32) - nI j) ∧ (-100 : Int32) - ((-100 : Int32) - nI j) = nI j := by decide +kernel
theorem SIM_read {h hm h' : Hp} {ln : Nat} (s : SIM h hm) (hl : h 37 1 = nI ln) (f1 : h' 37 1 = nI ln) (f2 : ∀ a, a ≠ 37 → (a < 31 ∨ 36 ≤ a) → h' a = h a) (j : Nat) : SIM h' (AT hm j) :=
  SIM_keep s (fun a ha => f2 a (by omega) (by omega)) (f2 36 (by decide) (by omega)) (by rw [f1, hl]) (f2 38 (by decide) (by omega)) (fun j h1 h2 => AT_o (by omega)) (AT_k (by decide)) (AT_k (by decide)) (AT_k (by decide)) (AT_k (by decide))
theorem M_all0 {g : Hp} {s : Nat → Int32} {ln : Nat} (t : TX g s ln) (T : Nat → Int32) : ∃ j, f_X8_readAll g = some (ansAll (allT s ln 61 0 0 T), AT g j) := by
  have hln := t.1
  exact M_readAll t 61 FU 0 0 T (by omega) (by decide) (Nat.zero_le ln)
theorem st_fault : ST_8 SIM := by
  intro h hm s
  have hs0 := s
  obtain ⟨-, -, -, -, ln, l1, l2, l3, l4⟩ := s
  have t : TX hm (hm 5) ln := ⟨l1, l3, fun i _ => rfl⟩
  obtain ⟨r, h', e1, f, rd⟩ := C_read (T := rC h 31) (s := hm 5) l1 l2 l4 (fun c hc j hj => by rw [rC_cap hj])
  obtain ⟨j, e2⟩ := M_all0 t (rC h 31)
  unfold f_X7_fault f_X8_fault
  rw [e1, e2, ob_s, ob_s]
  refine ⟨r, h', AT hm j, rfl, ?_, SIM_read hs0 l2 f.1 (fun a x y => f.2 a x (by omega)) j⟩
  cases ha : allT (hm 5) ln 61 0 0 (rC h 31) with
  | inl i =>
    rw [ha] at rd
    obtain ⟨z1, z2⟩ := ans_lo i (by have := rd.1; omega)
    show (if 0 ≤ (-100 : Int32) - nI i then some ((-5 : Int32), AT hm j) else some ((-100 : Int32) - ((-100 : Int32) - nI i), AT hm j)) = _
    rw [if_neg z1, z2, rd.2]
  | inr q =>
    rw [ha] at rd
    obtain ⟨K, T'⟩ := q
    have hk := allT_k 61 0 0 _ T' K ha
    show (if 0 ≤ nI K then some ((-5 : Int32), AT hm j) else _) = _
    rw [if_pos (nI_pos' (by omega)), rd.1]
theorem st_captains : ST_1 SIM := by
  intro h hm s
  have hs0 := s
  obtain ⟨s1, s2, -, -, ln, l1, l2, l3, l4⟩ := s
  have t : TX hm (hm 5) ln := ⟨l1, l3, fun i _ => rfl⟩
  obtain ⟨h1, e1, a1, a2⟩ := C5_copy h (k := 31) (k1 := 1) (by omega)
  obtain ⟨r, h2, e2, f, rd⟩ := C_read (h := h1) (T := hm 1) (s := hm 5) l1 (by rw [a1 37 (by omega)]; exact l2) (fun i hi => by rw [a1 38 (by omega)]; exact l4 i hi) (fun c hc j hj => by rw [← s1 (6 + 10 * c + j) (by omega), ← a2 (6 + 10 * c + j) (by omega), rC_cap hj])
  obtain ⟨j, e3⟩ := M_all0 t (hm 1)
  have sr : SIM h2 (AT hm j) := SIM_read hs0 l2 f.1 (fun a x y => by rw [f.2 a x (by omega), a1 a (by omega)]) j
  unfold f_X7_captains f_X8_captains
  rw [e1, ob_s, e2, ob_s, e3, ob_s]
  cases ha : allT (hm 5) ln 61 0 0 (hm 1) with
  | inl i =>
    rw [ha] at rd
    have hi := rd.1
    obtain ⟨z1, z2⟩ := ans_lo i (by omega)
    refine ⟨(-100 : Int32) - nI i, h2, AT hm j, ?_, ?_, sr⟩
    · show (if r = (-5 : Int32) then _ else some ((-100 : Int32) - r, h2)) = _
      rw [rd.2, if_neg (nI_ne5 (by omega))]
    · show (if 0 ≤ (-100 : Int32) - nI i then _ else some ((-100 : Int32) - nI i, AT hm j)) = _
      rw [if_neg z1]
  | inr q =>
    rw [ha] at rd
    obtain ⟨K, T'⟩ := q
    have hk := allT_k 61 0 0 _ T' K ha
    obtain ⟨r5, m⟩ := rd
    have m : CM h1 ln T' K 4 h2 := m
    obtain ⟨m1, m2, m3, m4, m5⟩ := m
    obtain ⟨h3, hm3, x1, x2, t1, g1, g2, g3, g4⟩ := REC sr
    obtain ⟨h4, e4, b1, b2⟩ := C5_copy h3 (k := 1) (k1 := 31) (by omega)
    have hrow : hm3 1 = hm 1 := by rw [g3 1 (by decide) (by decide)]; exact AT_k (by decide)
    have t3 : TX hm3 (hm 5) ln := ⟨l1, by rw [g4 13 (by decide), AT_o (by decide)]; exact l3, fun i _ => by rw [g3 5 (by decide) (by decide), AT_k (by decide)]⟩
    obtain ⟨-, j2, e5⟩ := M_pass2 t3 61 FU 0 0 K (hm 1) T' (by omega) (by decide) (Nat.zero_le ln) (by omega) ha
    have hRW : RW hm3 (hm 1) = hm3 := by
      funext a
      unfold RW
      by_cases h1a : a = 1
      · rw [if_pos h1a, h1a, hrow]
      · rw [if_neg h1a]
    rw [hRW] at e5
    refine ⟨nI K, h4, AT (RW hm3 T') j2, ?_, ?_, ?_⟩
    · show (if r = (-5 : Int32) then (f_X7_record h2).bind (fun q3 => (f_X5_copyFrom q3 1 31).bind (fun q4 => some ((q4 37 2), q4))) else _) = _
      rw [if_pos r5, x1, ob_s, e4, ob_s, b1 37 (by omega), g1 37 (by decide) (by omega) (by decide), m2]
    · show (if 0 ≤ nI K then (f_X8_record (AT hm j)).bind (fun q2 => f_X8_captains_22 FU (hs q2 0 11 (0 : Int32)) (nI K) (0 : Int32)) else _) = _
      rw [if_pos (nI_pos' (by omega)), x2, ob_s]
      exact e5
    · have hlow : ∀ i, i < 6 → T' i = hm 1 i := allT_P (P := fun U => ∀ i, i < 6 → U i = hm 1 i) (fun U c w v _ _ _ _ y i hi => by
        unfold lay3
        rw [upd_ne (by omega)]
        exact y i hi) 61 0 0 (hm 1) T' K (fun i _ => rfl) ha
      have hVR : VR T' := allT_P (P := VR) (fun U c w v hc hw v1 v2 y => VR_cap y hc hw ⟨v, v1, v2, rfl⟩) 61 0 0 (hm 1) T' K s2 ha
      refine SIM_now t1 (fun j => by rw [b1 0 (by omega)]) (fun a h6 _ => b1 a (by omega)) (b1 36 (by omega)) (by rw [b1 37 (by omega)]) (b1 38 (by omega)) (fun j h12 _ => by rw [AT_o (by omega), RW_k (by decide)]) ?_ ?_ (by rw [AT_k (by decide), RW_k (by decide)]) (by rw [AT_k (by decide), RW_k (by decide)]) (by rw [AT_k (by decide), RW_k (by decide)])
      · have hT' : AT (RW hm3 T') j2 1 = T' := by rw [AT_k (by decide)]; exact if_pos rfl
        rw [hT']
        intro i hi
        rw [b2 i hi]
        revert i
        refine rC_cases (fun i hi => ?_) (fun c hc i hi => ?_)
        · rw [rC_low hi, g1 31 (by decide) (by omega) (by decide), m5 31 (by decide) (by omega), hlow i hi, ← s1 i (by omega), ← a2 i (by omega), rC_low hi]
        · rw [rC_cap hi, g1 _ (by omega) (by omega) (by omega)]
          exact m4 c hc i hi
      · have hT' : AT (RW hm3 T') j2 1 = T' := by rw [AT_k (by decide)]; exact if_pos rfl
        rw [hT']
        exact hVR
theorem steps : STEPS SIM := ⟨st_captain, st_captains, st_truth, st_set, st_lot, st_sail, st_type, st_clearText, st_fault, st_undo, st_keep, st_restore, st_captainOf, st_printed, st_level, st_uses, st_clash, st_hours, st_count, st_made, st_ifSailed, st_bestHour, st_bestPhase⟩
