/-! what nobody changes beside the cells: the links between nest mates, the four tables; the rows of the history; the three methods that read the tables -/
def tabT (ad : Nat → Nat) (C nm : String) (t N : Nat) (f : Nat → Int32) (U : State) (H : Heap) : Prop := va_Z C nm "[I" (.ref t) (inW ad 59) U H ∧ va_T .int t N (fun j => .int (f j)) (inW ad 59) U H
def nestT (U : State) : Prop := va_Nw (.methodLinkNest RX4 39 yX7_levelAt RX7) U ∧ va_Nw (.methodLinkNest RX6 31 yX7_levelAt RX7) U
def ExC (tt ad : Nat → Nat) : State → Heap → Prop := fun U H => nestT U ∧ tabT ad RX7 "LEAST_OF_CAPTAIN" (tt 0) 4 sL0 U H ∧ tabT ad RX7 "GREATEST_OF_CAPTAIN" (tt 1) 4 sG0 U H ∧ tabT ad RX7 "LEAST_OF_SETTING" (tt 2) 2 sL1 U H ∧ tabT ad RX7 "GREATEST_OF_SETTING" (tt 3) 2 sG1 U H
def ExM : State → Heap → Prop := fun _ _ => True
theorem tab_w {ad : Nat → Nat} {C nm : String} {t N : Nat} {f : Nat → Int32} {s U : State} {H : Heap} (hW : s.WarmedH U.vm) (h : tabT ad C nm t N f s H) : tabT ad C nm t N f U H := ⟨h.1.moved hW.alike, h.2.moved hW.alike⟩
theorem tab_c {ad : Nat → Nat} {C nm : String} {t N : Nat} {f : Nat → Int32} {U : State} {g : JFrame} {mk : MethodId} {a : Array Value} {H : Heap} (h : tabT ad C nm t N f U H) : tabT ad C nm t N f (U.calling g mk a) H := ⟨va_Z.moved (u := U) (U := U.calling g mk a) (Vm.Alike.refl U.vm) h.1, va_T.moved (u := U) (U := U.calling g mk a) (Vm.Alike.refl U.vm) h.2⟩
theorem tab_k {ad : Nat → Nat} {C nm : String} {t N : Nat} {f : Nat → Int32} {s : State} {H0 H : Heap} {locs : List Loc} (hS : va_S (inW ad 59) H0 H locs) (h : tabT ad C nm t N f s H0) : tabT ad C nm t N f s H := ⟨h.1.kept hS.2.1, h.2.kept hS.2.1⟩
theorem exC_ok {tt ad : Nat → Nat} (_ : adOk ad 59) : ExOk ad 59 (ExC tt ad) := by
  refine ⟨fun s U H hW h => ?_, fun U g mk a H h => ?_, fun s H0 H locs hS h => ?_⟩
  · obtain ⟨⟨n0, n1⟩, h1, h2, h3, h4⟩ := h
    exact ⟨⟨va_Nw.warmM hW n0, va_Nw.warmM hW n1⟩, tab_w hW h1, tab_w hW h2, tab_w hW h3, tab_w hW h4⟩
  · obtain ⟨⟨n0, n1⟩, h1, h2, h3, h4⟩ := h
    exact ⟨⟨va_Nw.same (u := U) (U := U.calling g mk a) rfl rfl n0, va_Nw.same (u := U) (U := U.calling g mk a) rfl rfl n1⟩, tab_c h1, tab_c h2, tab_c h3, tab_c h4⟩
  · obtain ⟨hn, h1, h2, h3, h4⟩ := h
    exact ⟨hn, tab_k hS h1, tab_k hS h2, tab_k hS h3, tab_k hS h4⟩
theorem exM_ok {ad : Nat → Nat} : ExOk ad 12 ExM := ⟨fun _ _ _ _ _ => trivial, fun _ _ _ _ _ _ => trivial, fun _ _ _ _ _ _ => trivial⟩
theorem exC_n0 {tt ad : Nat → Nat} {s : State} {H : Heap} (hX : ExC tt ad s H) : va_Nw (.methodLinkNest RX4 39 yX7_levelAt RX7) s := hX.1.1
theorem exC_n1 {tt ad : Nat → Nat} {s : State} {H : Heap} (hX : ExC tt ad s H) : va_Nw (.methodLinkNest RX6 31 yX7_levelAt RX7) s := hX.1.2
section HISTROWS
variable {p : Program} {l : Launch} {e : Env} {R : Room} {s : State} {m : MethodId} {args : Array Value} {below : List Frame} {meth : Method} {c : Code} {H : Heap} {locs : List Loc} {cells slots : Nat} {Q : State → Prop}
variable {cc : ByteArray} {nL : Nat} {ret : Option FieldType} {own : String} {pc : Nat} {ls : Array Slot} {rest : List Value} {D : va_G} {ids : Nat → ClassId} {ad : Nat → Nat} {h : Hp}
theorem rs_aSt (hA : adOk ad 59) (C : CX p s m args meth c cc nL ret own D ids) {u i : Int32} (hx : isX5 (11 + 5 * u.toNatClampNeg)) (hP : wp D (cEC ids ad) ad 59 h H) (hS : va_S (inW ad 59) s.heap H locs) (hg : inb i 4 = true) (hdg : decode cc pc = .ok (.aastore, 1))
    (kk : ∀ (H1 : Heap) (locs1 : List Loc), wp D (cEC ids ad) ad 59 (hs h 36 i.toNatClampNeg u) H1 → va_S (inW ad 59) s.heap H1 locs1 → W p l e R s m args below meth c H1 locs1 cells slots Q (F0 m (pc + 1) ls rest)) : W p l e R s m args below meth c H locs cells slots Q (F0 m pc ls (.ref (ad (11 + 5 * u.toNatClampNeg)) :: .int i :: .ref (ad 36) :: rest)) :=
  u_aast hA C hP hS 4 (r := (RX5, TX5, 7)) rfl (by decide) cE_aSt (lt_X5 hx) (cE_X5 hx _) rfl hg (by
    funext j
    by_cases hj : j = i.toNatClampNeg <;> simp [upd, va_up, hj]) hdg kk
theorem rs_aSt2 (hA : adOk ad 59) (C : CX p s m args meth c cc nL ret own D ids) {r : Nat} {i : Int32} (hx : isX5 r) (hh : hiOk r) (hP : wp D (cEC ids ad) ad 59 h H) (hS : va_S (inW ad 59) s.heap H locs) (hg : inb i 4 = true) (hdg : decode cc pc = .ok (.aastore, 1))
    (kk : ∀ (H1 : Heap) (locs1 : List Loc), wp D (cEC ids ad) ad 59 (hs h 36 i.toNatClampNeg (nI ((r - 11) / 5))) H1 → va_S (inW ad 59) s.heap H1 locs1 → W p l e R s m args below meth c H1 locs1 cells slots Q (F0 m (pc + 1) ls rest)) : W p l e R s m args below meth c H locs cells slots Q (F0 m pc ls (.ref (ad r) :: .int i :: .ref (ad 36) :: rest)) := by
  have e1 : 11 + 5 * (nI ((r - 11) / 5)).toNatClampNeg = r := by
    rcases hh with rfl | rfl | rfl | rfl <;> decide
  exact u_aast hA C hP hS 4 (r := (RX5, TX5, 7)) (u := nI ((r - 11) / 5)) rfl (by decide) cE_aSt (lt_X5 hx) (cE_X5 hx _) rfl hg (by
    funext j
    by_cases hj : j = i.toNatClampNeg <;> simp [upd, va_up, hj, e1]) hdg kk
end HISTROWS
theorem isb_0 : isb 0 = true := by decide
theorem isb_1 : isb 1 = true := by decide
theorem fdiv_n32 {x y : Int32} (h : ¬ y = 0) : vf_n32 (FP.fdiv (FP.i2f x) (FP.i2f y)) := by
  have hb : FP.Core.FFin (FP.Core.i2f y) := FP.Core.i2f_fin y
  have hz : ¬ FP.Core.FZero (FP.Core.i2f y) := by
    rw [FP.Core.zero_bits232]
    exact FP.Core.i2f_ne_zero h
  have ha : FP.Core.fIsNaN (FP.Core.i2f x) = false := by
    rw [FP.Core.notNaN_iff32]
    obtain ⟨s, c, q, e⟩ := FP.Core.i2f_fin x
    rw [e]
    intro z
    cases z
  have h1 := FP.Core.fdiv_out ha hb hz
  have h2 : ¬ 2139095040 < (FP.Core.fdiv (FP.Core.i2f x) (FP.Core.i2f y)).toNat % 2 ^ 31 := fun z => by
    rw [(FP.Core.isNaN_bits32 _).mpr z] at h1
    cases h1
  show FP.Core.fdiv (FP.Core.i2f x) (FP.Core.i2f y) &&& 0x7fffffff ≤ 0x7f800000
  rw [UInt32.le_iff_toNat_le, UInt32.toNat_and]
  have h3 : (FP.Core.fdiv (FP.Core.i2f x) (FP.Core.i2f y)).toNat &&& (0x7fffffff : UInt32).toNat = (FP.Core.fdiv (FP.Core.i2f x) (FP.Core.i2f y)).toNat % 2 ^ 31 := by
    show _ &&& (2 ^ 31 - 1) = _
    exact Nat.and_two_pow_sub_one_eq_mod _ _
  rw [h3]
  exact Nat.not_lt.mp h2
section FRET
variable {p : Program} {l : Launch} {e : Env} {R : Room} {s : State} {m : MethodId} {args : Array Value} {below : List Frame} {meth : Method} {c : Code} {H : Heap} {locs : List Loc} {cells slots : Nat}
variable {cc : ByteArray} {nL : Nat} {own : String} {pc : Nat} {ls : Array Slot} {D : va_G} {ids : Nat → ClassId} {cE : Nat → (Nat → Int32) → va_E} {ad : Nat → Nat} {n : Nat} {h : Hp}
theorem u_fret (C : CX p s m args meth c cc nL (some .float) own D ids) (hP : wp D cE ad n h H) (hS : va_S (inW ad n) s.heap H locs) {v : UInt32} (hdg : decode cc pc = .ok (.freturn, 1)) : W p l e R s m args below meth c H locs cells slots (MQ below (QW D cE ad n (some (.float v)) h) args s cells slots (inW ad n)) (F0 m pc ls [.float v]) := by
  obtain ⟨hx, hb, -, hr, hlocks, hown, hts, hK⟩ := C
  exact W.fret hx hb hr (fun t ht _ => ⟨rfl, by rw [ht]; exact hP, hS.F ht⟩) hS.2.2 hdg
end FRET
abbrev rm_X7_isWithin : Room := { frames := 0, cells := 0, slots := 0, locals := 0 }
abbrev rm_X7_isValueOfCaptain : Room := { frames := 1, cells := 0, slots := 0, locals := 23 }
abbrev rm_X7_isValueOfSetting : Room := { frames := 1, cells := 0, slots := 0, locals := 23 }
theorem within_in {N : Nat} {a : Int32} (hN : N < 2 ^ 31) (h1 : ¬ a < 0) (h2 : ¬ Int32.ofNat N ≤ a) : vp_in a N := by
  obtain ⟨j, hj, rfl⟩ := nI_of h1
  have h3 : ¬ nI N ≤ nI j := h2
  rw [nI_leI hN hj] at h3
  exact vp_in_nI (by omega) hN
set_option maxRecDepth 100000 in
set_option maxHeartbeats 4000000 in
theorem c_X7_isWithin (l : Launch) (D : va_G) (ids : Nat → ClassId) (ad tt : Nat → Nat) {t t2 N : Nat} {f g : Nat → Int32} (hN : N < 2 ^ 31) (hT : ∀ (U : State) (H : Heap), ExC tt ad U H → va_T .int t N (fun j => .int (f j)) (inW ad 59) U H ∧ va_T .int t2 N (fun j => .int (g j)) (inW ad 59) U H) {a1 a2 : Int32} {h : Hp} : Met l yX7_isWithin (ws_ yX7_isWithin cX7_isWithin 4 (some .boolean)) rm_X7_isWithin (va_Pc [.ref t, .ref t2, .int a1, .int a2] (WB D ids (cEC ids ad) ad 59 (ExC tt ad) h)) (QW D (cEC ids ad) ad 59 (some (.int (f_within N f g a1 a2))) h) 0 0 (inW ad 59) := by
  refine u_met (own := RX7) (by decide) rfl (Nat.le_of_ble_eq_true rfl) rfl (fun p e s m args below meth c H ls C hX hP hS hl => ?_)
  obtain ⟨hT1, hT2⟩ := hT s s.heap hX
  refine lv_iload_n C.1 C.2.1 dX7_isWithin_0 rfl (lv_at hl 2 rfl) ?_
  refine lv_if_lt (tgt := 34) C.1 C.2.1 dX7_isWithin_1 (by decide) (fun hc => ?_) (fun hc => ?_)
  · refine lv_iconst (v := 0) C.1 C.2.1 dX7_isWithin_34 (by decide) ?_
    rw [show f_within N f g a1 a2 = 0 from by unfold f_within; rw [if_pos hc]]
    exact u_zret C hP hS (by decide) dX7_isWithin_35
  · refine lv_iload_n C.1 C.2.1 dX7_isWithin_4 rfl (lv_at hl 2 rfl) ?_
    refine lv_aload_n C.1 C.2.1 dX7_isWithin_5 rfl (lv_at hl 0 rfl) ?_
    refine va_tlen C.1 C.2.1 hT1 hS rfl dX7_isWithin_6 ?_
    refine lv_icmp_ge (tgt := 34) C.1 C.2.1 dX7_isWithin_7 (by decide) (fun hc2 => ?_) (fun hc2 => ?_)
    · refine lv_iconst (v := 0) C.1 C.2.1 dX7_isWithin_34 (by decide) ?_
      rw [show f_within N f g a1 a2 = 0 from by unfold f_within; rw [if_neg hc, if_pos hc2]]
      exact u_zret C hP hS (by decide) dX7_isWithin_35
    · have hin := within_in hN hc hc2
      refine lv_iload_n C.1 C.2.1 dX7_isWithin_10 rfl (lv_at hl 2 rfl) ?_
      refine lv_aload_n C.1 C.2.1 dX7_isWithin_11 rfl (lv_at hl 1 rfl) ?_
      refine va_tlen C.1 C.2.1 hT2 hS rfl dX7_isWithin_12 ?_
      refine lv_icmp_ge (tgt := 34) C.1 C.2.1 dX7_isWithin_13 (by decide) (fun hc3 => absurd hc3 hc2) (fun hc3 => ?_)
      refine lv_iload_n C.1 C.2.1 dX7_isWithin_16 rfl (lv_at hl 3 rfl) ?_
      refine lv_aload_n C.1 C.2.1 dX7_isWithin_17 rfl (lv_at hl 0 rfl) ?_
      refine lv_iload_n C.1 C.2.1 dX7_isWithin_18 rfl (lv_at hl 2 rfl) ?_
      refine va_ti C.1 C.2.1 hT1 hS hin rfl dX7_isWithin_19 ?_
      refine lv_icmp_lt (tgt := 34) C.1 C.2.1 dX7_isWithin_20 (by decide) (fun hc4 => ?_) (fun hc4 => ?_)
      · refine lv_iconst (v := 0) C.1 C.2.1 dX7_isWithin_34 (by decide) ?_
        rw [show f_within N f g a1 a2 = 0 from by unfold f_within; rw [if_neg hc, if_neg hc2, if_pos hc4]]
        exact u_zret C hP hS (by decide) dX7_isWithin_35
      · refine lv_iload_n C.1 C.2.1 dX7_isWithin_23 rfl (lv_at hl 3 rfl) ?_
        refine lv_aload_n C.1 C.2.1 dX7_isWithin_24 rfl (lv_at hl 1 rfl) ?_
        refine lv_iload_n C.1 C.2.1 dX7_isWithin_25 rfl (lv_at hl 2 rfl) ?_
        refine va_ti C.1 C.2.1 hT2 hS hin rfl dX7_isWithin_26 ?_
        refine lv_icmp_gt (tgt := 34) C.1 C.2.1 dX7_isWithin_27 (by decide) (fun hc5 => ?_) (fun hc5 => ?_)
        · refine lv_iconst (v := 0) C.1 C.2.1 dX7_isWithin_34 (by decide) ?_
          rw [show f_within N f g a1 a2 = 0 from by unfold f_within; rw [if_neg hc, if_neg hc2, if_neg hc4, if_pos hc5]]
          exact u_zret C hP hS (by decide) dX7_isWithin_35
        · refine lv_iconst (v := 1) C.1 C.2.1 dX7_isWithin_30 (by decide) ?_
          refine lv_goto (tgt := 35) C.1 C.2.1 dX7_isWithin_31 (by decide) ?_
          rw [show f_within N f g a1 a2 = 1 from by unfold f_within; rw [if_neg hc, if_neg hc2, if_neg hc4, if_neg hc5]]
          exact u_zret C hP hS (by decide) dX7_isWithin_35
theorem within_b {N : Nat} {f g : Nat → Int32} {a1 a2 : Int32} : isb (f_within N f g a1 a2) = true := by
  unfold f_within isb
  repeat' split
  all_goals decide
set_option maxRecDepth 100000 in
set_option maxHeartbeats 4000000 in
theorem c_X7_isValueOfCaptain (l : Launch) (D : va_G) (ids : Nat → ClassId) (ad tt : Nat → Nat) (hA : adOk ad 59) {a1 a2 : Int32} {h : Hp} {rv : Int32 × Hp} (hf : f_X7_isValueOfCaptain h a1 a2 = some rv) : Met l yX7_isValueOfCaptain (ws_ yX7_isValueOfCaptain cX7_isValueOfCaptain 2 (some .boolean)) rm_X7_isValueOfCaptain (va_Pc [.int a1, .int a2] (WB D ids (cEC ids ad) ad 59 (ExC tt ad) h)) (QW D (cEC ids ad) ad 59 (some (.int rv.1)) rv.2) 0 0 (inW ad 59) := by
  cases hf
  refine u_met (own := RX7) (by decide) rfl (Nat.le_of_ble_eq_true rfl) rfl (fun p e s m args below meth c H ls C hX hP hS hl => ?_)
  refine va_gets C.1 C.2.1 hX.2.1.1 hS C.2.2.2.2.2.1 (C.2.2.2.2.2.2.1 _ q_232) (fun _ z => z) dX7_isValueOfCaptain_0 ?_
  refine va_gets C.1 C.2.1 hX.2.2.1.1 hS C.2.2.2.2.2.1 (C.2.2.2.2.2.2.1 _ q_233) (fun _ z => z) dX7_isValueOfCaptain_3 ?_
  refine lv_iload_n C.1 C.2.1 dX7_isValueOfCaptain_6 rfl (lv_at hl 0 rfl) ?_
  refine lv_iload_n C.1 C.2.1 dX7_isValueOfCaptain_7 rfl (lv_at hl 1 rfl) ?_
  refine u_callS (As := [.ref (tt 0), .ref (tt 1), .int a1, .int a2]) (rv := some (.int (f_within 4 sL0 sG0 a1 a2))) C (exC_ok hA) hX (c_X7_isWithin l D ids ad tt (by decide) (fun U H z => ⟨z.2.1.2, z.2.2.1.2⟩)) q_234 q_235 q_2 q_236 ⟨rfl, rfl⟩ (by refine ⟨by decide +kernel, by decide +kernel, ?_⟩; show _ = some 4; decide +kernel) ⟨Nat.le_of_ble_eq_true rfl, Nat.le_of_ble_eq_true rfl⟩ hP hS hl.1 (Nat.le_of_ble_eq_true rfl) rfl dX7_isValueOfCaptain_8 (fun H locs hP hS => ?_)
  exact u_zret C hP hS within_b dX7_isValueOfCaptain_11
set_option maxRecDepth 100000 in
set_option maxHeartbeats 4000000 in
theorem c_X7_isValueOfSetting (l : Launch) (D : va_G) (ids : Nat → ClassId) (ad tt : Nat → Nat) (hA : adOk ad 59) {a1 a2 : Int32} {h : Hp} {rv : Int32 × Hp} (hf : f_X7_isValueOfSetting h a1 a2 = some rv) : Met l yX7_isValueOfSetting (ws_ yX7_isValueOfSetting cX7_isValueOfSetting 2 (some .boolean)) rm_X7_isValueOfSetting (va_Pc [.int a1, .int a2] (WB D ids (cEC ids ad) ad 59 (ExC tt ad) h)) (QW D (cEC ids ad) ad 59 (some (.int rv.1)) rv.2) 0 0 (inW ad 59) := by
  cases hf
  refine u_met (own := RX7) (by decide) rfl (Nat.le_of_ble_eq_true rfl) rfl (fun p e s m args below meth c H ls C hX hP hS hl => ?_)
  refine va_gets C.1 C.2.1 hX.2.2.2.1.1 hS C.2.2.2.2.2.1 (C.2.2.2.2.2.2.1 _ q_264) (fun _ z => z) dX7_isValueOfSetting_0 ?_
  refine va_gets C.1 C.2.1 hX.2.2.2.2.1 hS C.2.2.2.2.2.1 (C.2.2.2.2.2.2.1 _ q_265) (fun _ z => z) dX7_isValueOfSetting_3 ?_
  refine lv_iload_n C.1 C.2.1 dX7_isValueOfSetting_6 rfl (lv_at hl 0 rfl) ?_
  refine lv_iload_n C.1 C.2.1 dX7_isValueOfSetting_7 rfl (lv_at hl 1 rfl) ?_
  refine u_callS (As := [.ref (tt 2), .ref (tt 3), .int a1, .int a2]) (rv := some (.int (f_within 2 sL1 sG1 a1 a2))) C (exC_ok hA) hX (c_X7_isWithin l D ids ad tt (by decide) (fun U H z => ⟨z.2.2.2.1.2, z.2.2.2.2.2⟩)) q_234 q_235 q_2 q_236 ⟨rfl, rfl⟩ (by refine ⟨by decide +kernel, by decide +kernel, ?_⟩; show _ = some 4; decide +kernel) ⟨Nat.le_of_ble_eq_true rfl, Nat.le_of_ble_eq_true rfl⟩ hP hS hl.1 (Nat.le_of_ble_eq_true rfl) rfl dX7_isValueOfSetting_8 (fun H locs hP hS => ?_)
  exact u_zret C hP hS within_b dX7_isValueOfSetting_11

