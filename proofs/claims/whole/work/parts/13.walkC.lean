abbrev rm_X0_whatOf : Room := { frames := 0, cells := 0, slots := 0, locals := 0 }
set_option maxRecDepth 100000 in
set_option maxHeartbeats 4000000 in
theorem w_X0_whatOf {p : Program} {l : Launch} {e : Env} {s : State} {m : MethodId} {args : Array Value} {below : List Frame} {meth : Method} {c : Code} {D : va_G} {ids : Nat → ClassId} {ad tt : Nat → Nat} {rv : Int32 × Hp} (hA : adOk ad 59) (C : CX p s m args meth c cX0_whatOf 1 (some .int) RX0 D ids) (hX : (ExC tt ad) s s.heap) : ∀ (h : Hp) (a1 : Int32) (H : Heap) (locs : List Loc) (ls : Array Slot), f_X0_whatOf h a1 = some rv → wp D (cEC ids ad) ad 59 h H → va_S (inW ad 59) s.heap H locs → lv_has ls 1 [(0, .int a1)] → W p l e rm_X0_whatOf s m args below meth c H locs 0 0 (MQ below (QW D (cEC ids ad) ad 59 (some (.int rv.1)) rv.2) args s 0 0 (inW ad 59)) (F0 m 0 ls []) := by
  intro h a1 H locs ls hf hP hS hl
  unfold f_X0_whatOf at hf
  refine lv_iload_n C.1 C.2.1 dX0_whatOf_0 rfl (lv_at hl 0 rfl) ?_
  by_cases hc100 : a1 = 100
  · have hf := g_t hc100 hf
    refine lv_lookup (off := 45) (tgt := 46) C.1 C.2.1 dX0_whatOf_1 (by decide) (by rw [hc100]; decide) (by decide) ?_
    refine lv_iconst (v := (1 : Int32)) C.1 C.2.1 dX0_whatOf_46 (by decide) ?_
    obtain rfl := Option.some.inj hf
    exact u_iret C hP hS dX0_whatOf_47
  · have hf := g_f hc100 hf
    by_cases hc102 : a1 = 102
    · have hf := g_t hc102 hf
      refine lv_lookup (off := 47) (tgt := 48) C.1 C.2.1 dX0_whatOf_1 (by decide) (by rw [hc102]; decide) (by decide) ?_
      refine lv_iconst (v := (2 : Int32)) C.1 C.2.1 dX0_whatOf_48 (by decide) ?_
      obtain rfl := Option.some.inj hf
      exact u_iret C hP hS dX0_whatOf_49
    · have hf := g_f hc102 hf
      by_cases hc104 : a1 = 104
      · have hf := g_t hc104 hf
        refine lv_lookup (off := 49) (tgt := 50) C.1 C.2.1 dX0_whatOf_1 (by decide) (by rw [hc104]; decide) (by decide) ?_
        refine lv_iconst (v := (3 : Int32)) C.1 C.2.1 dX0_whatOf_50 (by decide) ?_
        obtain rfl := Option.some.inj hf
        exact u_iret C hP hS dX0_whatOf_51
      · have hf := g_f hc104 hf
        by_cases hc112 : a1 = 112
        · have hf := g_t hc112 hf
          refine lv_lookup (off := 43) (tgt := 44) C.1 C.2.1 dX0_whatOf_1 (by decide) (by rw [hc112]; decide) (by decide) ?_
          refine lv_iconst (v := (0 : Int32)) C.1 C.2.1 dX0_whatOf_44 (by decide) ?_
          obtain rfl := Option.some.inj hf
          exact u_iret C hP hS dX0_whatOf_45
        · have hf := g_f hc112 hf
          refine lv_lookup (off := 51) (tgt := 52) C.1 C.2.1 dX0_whatOf_1 (by decide) (by show Op.lookupswitch.offset [(100, 45), (102, 47), (104, 49), (112, 43)] 51 (a1).toInt = _; rw [lv_osw hc100 (by decide), lv_osw hc102 (by decide), lv_osw hc104 (by decide), lv_osw hc112 (by decide)]; rfl) (by decide) ?_
          refine lv_bipush (v := (-5 : Int32)) C.1 C.2.1 dX0_whatOf_52 (by decide) ?_
          obtain rfl := Option.some.inj hf
          exact u_iret C hP hS dX0_whatOf_54
theorem c_X0_whatOf (l : Launch) (D : va_G) (ids : Nat → ClassId) (ad tt : Nat → Nat) (hA : adOk ad 59) {a1 : Int32} {h : Hp} {rv : Int32 × Hp} (hf : f_X0_whatOf h a1 = some rv) : Met l yX0_whatOf (ws_ yX0_whatOf cX0_whatOf 1 (some .int)) rm_X0_whatOf (va_Pc [.int a1] (WB D ids (cEC ids ad) ad 59 (ExC tt ad) h)) (QW D (cEC ids ad) ad 59 (some (.int rv.1)) rv.2) 0 0 (inW ad 59) :=
  u_met (own := RX0) (by decide) rfl (Nat.le_of_ble_eq_true rfl) rfl (fun p e s m args below meth c H ls C hX hP hS hl => w_X0_whatOf (tt := tt) hA C hX _ _ _ _ _ hf hP hS hl)
theorem cv_X0_59 {p : Program} {l : Launch} {e : Env} {R : Room} {s : State} {m : MethodId} {args : Array Value} {below : List Frame} {meth : Method} {c : Code} {H : Heap} {locs : List Loc} {Q : State → Prop} {cc : ByteArray} {nL : Nat} {ret : Option FieldType} {pc : Nat} {ls : Array Slot} {rest : List Value} {D : va_G} {ids : Nat → ClassId} {ad tt : Nat → Nat} {h : Hp} (hA : adOk ad 59) (C : CX p s m args meth c cc nL ret RX0 D ids) (hX : (ExC tt ad) s s.heap) (hP : wp D (cEC ids ad) ad 59 h H) (hS : va_S (inW ad 59) s.heap H locs) {a1 : Int32} {rv : Int32 × Hp} (hf : f_X0_whatOf h a1 = some rv) (hR : 0 + 1 ≤ R.frames ∧ 8 + (1 + 11) + 0 ≤ R.locals) (hsz : ls.size = nL) (hcat : (rest.map fun v => v.category).sum ≤ 8) (hdg : decode cc pc = .ok (.invokestatic 59, 3)) (kk : ∀ (H1 : Heap) (locs1 : List Loc), wp D (cEC ids ad) ad 59 rv.2 H1 → va_S (inW ad 59) s.heap H1 locs1 → W p l e R s m args below meth c H1 locs1 0 0 Q (F0 m (pc + 3) ls (.int rv.1 :: rest))) : W p l e R s m args below meth c H locs 0 0 Q (F0 m pc ls (.int a1 :: rest)) :=
  u_callS (As := [.int a1]) (rv := (some (.int rv.1))) C (exC_ok hA) hX (c_X0_whatOf l D ids ad tt hA hf) q_214 q_215 q_22 q_216 ⟨rfl, rfl⟩ (by refine ⟨by decide +kernel, by decide +kernel, ?_⟩; show _ = some 1; decide +kernel) hR hP hS hsz hcat rfl hdg kk
theorem pf_X0_28 {p : Program} {l : Launch} {e : Env} {R : Room} {s : State} {m : MethodId} {args : Array Value} {below : List Frame} {meth : Method} {c : Code} {H : Heap} {locs : List Loc} {cells slots : Nat} {Q : State → Prop} {cc : ByteArray} {nL : Nat} {ret : Option FieldType} {pc : Nat} {ls : Array Slot} {rest : List Value} {D : va_G} {ids : Nat → ClassId} {ad : Nat → Nat} {h : Hp} {x : Int32} (hA : adOk ad 59) (C : CX p s m args meth c cc nL ret RX0 D ids) (hP : wp D (cEC ids ad) ad 59 h H) (hS : va_S (inW ad 59) s.heap H locs) (hdg : decode cc pc = .ok (.putfield 28, 3)) (kk : ∀ (H1 : Heap) (locs1 : List Loc), wp D (cEC ids ad) ad 59 (hs h 37 5 x) H1 → va_S (inW ad 59) s.heap H1 locs1 → W p l e R s m args below meth c H1 locs1 cells slots Q (F0 m (pc + 3) ls rest)) : W p l e R s m args below meth c H locs cells slots Q (F0 m pc ls (.int x :: .ref (ad 37) :: rest)) :=
  u_put hA C hP hS (by decide) cE_X0 rfl inX0 tyX0 tyX0_ok nmX0 5 (by decide) rfl q_69 rfl (ty := .int) rfl rfl rfl hdg kk
theorem gf_X0_28 {p : Program} {l : Launch} {e : Env} {R : Room} {s : State} {m : MethodId} {args : Array Value} {below : List Frame} {meth : Method} {c : Code} {H : Heap} {locs : List Loc} {cells slots : Nat} {Q : State → Prop} {cc : ByteArray} {nL : Nat} {ret : Option FieldType} {pc : Nat} {ls : Array Slot} {rest : List Value} {D : va_G} {ids : Nat → ClassId} {ad : Nat → Nat} {h : Hp} (C : CX p s m args meth c cc nL ret RX0 D ids) (hP : wp D (cEC ids ad) ad 59 h H) (hdg : decode cc pc = .ok (.getfield 28, 3)) (kk : W p l e R s m args below meth c H locs cells slots Q (F0 m (pc + 3) ls (.int (h 37 5) :: rest))) : W p l e R s m args below meth c H locs cells slots Q (F0 m pc ls (.ref (ad 37) :: rest)) :=
  u_get C hP (by decide) cE_X0 rfl inX0 5 (by decide) rfl q_69 hdg kk
abbrev rm_X0_takesLetter : Room := { frames := 1, cells := 0, slots := 0, locals := 20 }
set_option maxRecDepth 100000 in
set_option maxHeartbeats 4000000 in
theorem w_X0_takesLetter_13 {p : Program} {l : Launch} {e : Env} {s : State} {m : MethodId} {args : Array Value} {below : List Frame} {meth : Method} {c : Code} {D : va_G} {ids : Nat → ClassId} {ad tt : Nat → Nat} {rv : Int32 × Hp} (hA : adOk ad 59) (C : CX p s m args meth c cX0_takesLetter 2 (some .boolean) RX0 D ids) (hX : (ExC tt ad) s s.heap) : ∀ (h : Hp) (H : Heap) (locs : List Loc) (ls : Array Slot), f_X0_takesLetter_13 h = some rv → wp D (cEC ids ad) ad 59 h H → va_S (inW ad 59) s.heap H locs → lv_has ls 2 [(0, .ref (ad 37))] → W p l e rm_X0_takesLetter s m args below meth c H locs 0 0 (MQ below (QW D (cEC ids ad) ad 59 (some (.int rv.1)) rv.2) args s 0 0 (inW ad 59)) (F0 m 13 ls []) := by
  intro h H locs ls hf hP hS hl
  unfold f_X0_takesLetter_13 at hf
  refine lv_aload_n C.1 C.2.1 dX0_takesLetter_13 rfl (lv_at hl 0 rfl) ?_
  refine gf_X0_28 C hP dX0_takesLetter_14 ?_
  refine lv_bipush (v := (-5 : Int32)) C.1 C.2.1 dX0_takesLetter_17 (by decide) ?_
  refine lv_icmp_eq (tgt := 26) C.1 C.2.1 dX0_takesLetter_19 (by decide) (fun hc => ?_) (fun hc => ?_)
  · have hf := g_t hc hf
    refine lv_iconst (v := (0 : Int32)) C.1 C.2.1 dX0_takesLetter_26 (by decide) ?_
    obtain rfl := Option.some.inj hf
    exact u_zret C hP hS isb_0 dX0_takesLetter_27
  · have hf := g_f hc hf
    refine lv_iconst (v := (1 : Int32)) C.1 C.2.1 dX0_takesLetter_22 (by decide) ?_
    refine lv_goto (tgt := 27) C.1 C.2.1 dX0_takesLetter_23 (by decide) ?_
    obtain rfl := Option.some.inj hf
    exact u_zret C hP hS isb_1 dX0_takesLetter_27
set_option maxRecDepth 100000 in
set_option maxHeartbeats 4000000 in
theorem w_X0_takesLetter {p : Program} {l : Launch} {e : Env} {s : State} {m : MethodId} {args : Array Value} {below : List Frame} {meth : Method} {c : Code} {D : va_G} {ids : Nat → ClassId} {ad tt : Nat → Nat} {rv : Int32 × Hp} (hA : adOk ad 59) (C : CX p s m args meth c cX0_takesLetter 2 (some .boolean) RX0 D ids) (hX : (ExC tt ad) s s.heap) : ∀ (h : Hp) (a1 : Int32) (H : Heap) (locs : List Loc) (ls : Array Slot), f_X0_takesLetter h a1 = some rv → wp D (cEC ids ad) ad 59 h H → va_S (inW ad 59) s.heap H locs → lv_has ls 2 [(0, .ref (ad 37)), (1, .int a1)] → W p l e rm_X0_takesLetter s m args below meth c H locs 0 0 (MQ below (QW D (cEC ids ad) ad 59 (some (.int rv.1)) rv.2) args s 0 0 (inW ad 59)) (F0 m 0 ls []) := by
  intro h a1 H locs ls hf hP hS hl
  unfold f_X0_takesLetter at hf
  refine lv_aload_n C.1 C.2.1 dX0_takesLetter_0 rfl (lv_at hl 0 rfl) ?_
  refine lv_iload_n C.1 C.2.1 dX0_takesLetter_1 rfl (lv_at hl 1 rfl) ?_
  obtain ⟨q1, eq1, hf⟩ := g_b hf
  refine cv_X0_59 hA C hX hP hS eq1 ⟨Nat.le_of_ble_eq_true rfl, Nat.le_of_ble_eq_true rfl⟩ hl.1 (Nat.le_of_ble_eq_true rfl) dX0_takesLetter_2 (fun H locs hP hS => ?_)
  refine pf_X0_28 hA C hP hS dX0_takesLetter_5 (fun H locs hP hS => ?_)
  refine lv_aload_n C.1 C.2.1 dX0_takesLetter_8 rfl (lv_at hl 0 rfl) ?_
  refine lv_iconst (v := (3 : Int32)) C.1 C.2.1 dX0_takesLetter_9 (by decide) ?_
  refine pf_X0_22 hA C hP hS dX0_takesLetter_10 (fun H locs hP hS => ?_)
  exact w_X0_takesLetter_13 hA C hX _ _ _ _ hf hP hS (lv_sub hl [0] rfl)
theorem c_X0_takesLetter (l : Launch) (D : va_G) (ids : Nat → ClassId) (ad tt : Nat → Nat) (hA : adOk ad 59) {a1 : Int32} {h : Hp} {rv : Int32 × Hp} (hf : f_X0_takesLetter h a1 = some rv) : Met l yX0_takesLetter (ws_ yX0_takesLetter cX0_takesLetter 2 (some .boolean)) rm_X0_takesLetter (va_Pc [.ref (ad 37), .int a1] (WB D ids (cEC ids ad) ad 59 (ExC tt ad) h)) (QW D (cEC ids ad) ad 59 (some (.int rv.1)) rv.2) 0 0 (inW ad 59) :=
  u_met (own := RX0) (by decide) rfl (Nat.le_of_ble_eq_true rfl) rfl (fun p e s m args below meth c H ls C hX hP hS hl => w_X0_takesLetter (tt := tt) hA C hX _ _ _ _ _ hf hP hS hl)
theorem gf_X0_31 {p : Program} {l : Launch} {e : Env} {R : Room} {s : State} {m : MethodId} {args : Array Value} {below : List Frame} {meth : Method} {c : Code} {H : Heap} {locs : List Loc} {cells slots : Nat} {Q : State → Prop} {cc : ByteArray} {nL : Nat} {ret : Option FieldType} {pc : Nat} {ls : Array Slot} {rest : List Value} {D : va_G} {ids : Nat → ClassId} {ad : Nat → Nat} {h : Hp} (C : CX p s m args meth c cc nL ret RX0 D ids) (hP : wp D (cEC ids ad) ad 59 h H) (hdg : decode cc pc = .ok (.getfield 31, 3)) (kk : W p l e R s m args below meth c H locs cells slots Q (F0 m (pc + 3) ls (.int (h 37 6) :: rest))) : W p l e R s m args below meth c H locs cells slots Q (F0 m pc ls (.ref (ad 37) :: rest)) :=
  u_get C hP (by decide) cE_X0 rfl inX0 6 (by decide) rfl q_70 hdg kk
theorem cv_X0_66 {p : Program} {l : Launch} {e : Env} {R : Room} {s : State} {m : MethodId} {args : Array Value} {below : List Frame} {meth : Method} {c : Code} {H : Heap} {locs : List Loc} {Q : State → Prop} {cc : ByteArray} {nL : Nat} {ret : Option FieldType} {pc : Nat} {ls : Array Slot} {rest : List Value} {D : va_G} {ids : Nat → ClassId} {ad tt : Nat → Nat} {h : Hp} (hA : adOk ad 59) (C : CX p s m args meth c cc nL ret RX0 D ids) (hX : (ExC tt ad) s s.heap) (hP : wp D (cEC ids ad) ad 59 h H) (hS : va_S (inW ad 59) s.heap H locs) {a1 : Int32} {a2 : Int32} {rv : Int32 × Hp} (hf : f_X7_isValueOfCaptain h a1 a2 = some rv) (hR : 1 + 1 ≤ R.frames ∧ 8 + (2 + 11) + 23 ≤ R.locals) (hsz : ls.size = nL) (hcat : (rest.map fun v => v.category).sum ≤ 8) (hdg : decode cc pc = .ok (.invokestatic 66, 3)) (kk : ∀ (H1 : Heap) (locs1 : List Loc), wp D (cEC ids ad) ad 59 rv.2 H1 → va_S (inW ad 59) s.heap H1 locs1 → W p l e R s m args below meth c H1 locs1 0 0 Q (F0 m (pc + 3) ls (.int rv.1 :: rest))) : W p l e R s m args below meth c H locs 0 0 Q (F0 m pc ls (.int a2 :: .int a1 :: rest)) :=
  u_callN (As := [.int a1, .int a2]) (rv := (some (.int rv.1))) C (exC_ok hA) hX (exC_n1 hX) (c_X7_isValueOfCaptain l D ids ad tt hA hf) q_138 q_2 q_139 ⟨rfl, rfl⟩ (by refine ⟨by decide +kernel, by decide +kernel, ?_⟩; show _ = some 2; decide +kernel) hR hP hS hsz hcat rfl hdg kk
theorem gf_X0_70 {p : Program} {l : Launch} {e : Env} {R : Room} {s : State} {m : MethodId} {args : Array Value} {below : List Frame} {meth : Method} {c : Code} {H : Heap} {locs : List Loc} {cells slots : Nat} {Q : State → Prop} {cc : ByteArray} {nL : Nat} {ret : Option FieldType} {pc : Nat} {ls : Array Slot} {rest : List Value} {D : va_G} {ids : Nat → ClassId} {ad : Nat → Nat} {h : Hp} (C : CX p s m args meth c cc nL ret RX0 D ids) {k : Nat} (hk : isX5 k) (hP : wp D (cEC ids ad) ad 59 h H) (hdg : decode cc pc = .ok (.getfield 70, 3)) (kk : W p l e R s m args below meth c H locs cells slots Q (F0 m (pc + 3) ls (.ref (ad (k + 1)) :: rest))) : W p l e R s m args below meth c H locs cells slots Q (F0 m pc ls (.ref (ad k) :: rest)) :=
  u_get C hP (lt_X5 hk) (cE_X5 hk) rfl inX5 0 (by decide) rfl q_225 hdg kk
theorem cv_X0_76 {p : Program} {l : Launch} {e : Env} {R : Room} {s : State} {m : MethodId} {args : Array Value} {below : List Frame} {meth : Method} {c : Code} {H : Heap} {locs : List Loc} {Q : State → Prop} {cc : ByteArray} {nL : Nat} {ret : Option FieldType} {pc : Nat} {ls : Array Slot} {rest : List Value} {D : va_G} {ids : Nat → ClassId} {ad tt : Nat → Nat} {h : Hp} (hA : adOk ad 59) (C : CX p s m args meth c cc nL ret RX0 D ids) (hX : (ExC tt ad) s s.heap) (hP : wp D (cEC ids ad) ad 59 h H) (hS : va_S (inW ad 59) s.heap H locs) {k : Nat} (hk : isX2 k) {a1 : Int32} {a2 : Int32} {rv : Hp} (hf : f_X2_change h k a1 a2 = some rv) (hR : 0 + 1 ≤ R.frames ∧ 8 + (3 + 11) + 0 ≤ R.locals) (hsz : ls.size = nL) (hcat : (rest.map fun v => v.category).sum ≤ 8) (hdg : decode cc pc = .ok (.invokevirtual 76, 3)) (kk : ∀ (H1 : Heap) (locs1 : List Loc), wp D (cEC ids ad) ad 59 rv H1 → va_S (inW ad 59) s.heap H1 locs1 → W p l e R s m args below meth c H1 locs1 0 0 Q (F0 m (pc + 3) ls (rest))) : W p l e R s m args below meth c H locs 0 0 Q (F0 m pc ls (.int a2 :: .int a1 :: .ref (ad k) :: rest)) :=
  u_callV (As := [.int a1, .int a2]) (rv := none) C (exC_ok hA) hX (c_X2_change l D ids ad tt hA hk hf) q_226 q_162 q_163 q_38 q_164 ⟨rfl, rfl⟩ (by refine ⟨by decide +kernel, by decide +kernel, ?_⟩; show _ = some 2; decide +kernel) hR (lt_X2 hk) (cE_X2 hk _) rfl hP hS hsz hcat rfl hdg kk
abbrev rm_X0_tellsNumber : Room := { frames := 2, cells := 0, slots := 0, locals := 44 }
set_option maxRecDepth 100000 in
set_option maxHeartbeats 4000000 in
theorem w_X0_tellsNumber {p : Program} {l : Launch} {e : Env} {s : State} {m : MethodId} {args : Array Value} {below : List Frame} {meth : Method} {c : Code} {D : va_G} {ids : Nat → ClassId} {ad tt : Nat → Nat} {rv : Int32 × Hp} (hA : adOk ad 59) (C : CX p s m args meth c cX0_tellsNumber 2 (some .boolean) RX0 D ids) (hX : (ExC tt ad) s s.heap) {k1 : Nat} (hk1 : isX5 k1) : ∀ (h : Hp) (H : Heap) (locs : List Loc) (ls : Array Slot), f_X0_tellsNumber h k1 = some rv → wp D (cEC ids ad) ad 59 h H → va_S (inW ad 59) s.heap H locs → lv_has ls 2 [(0, .ref (ad 37)), (1, .ref (ad k1))] → W p l e rm_X0_tellsNumber s m args below meth c H locs 0 0 (MQ below (QW D (cEC ids ad) ad 59 (some (.int rv.1)) rv.2) args s 0 0 (inW ad 59)) (F0 m 0 ls []) := by
  intro h H locs ls hf hP hS hl
  unfold f_X0_tellsNumber at hf
  refine lv_aload_n C.1 C.2.1 dX0_tellsNumber_0 rfl (lv_at hl 0 rfl) ?_
  refine gf_X0_25 C hP dX0_tellsNumber_1 ?_
  obtain ⟨q1, eq1, hf⟩ := g_b hf
  refine cv_X0_55 hA C hX hP hS eq1 ⟨Nat.le_of_ble_eq_true rfl, Nat.le_of_ble_eq_true rfl⟩ hl.1 (Nat.le_of_ble_eq_true rfl) dX0_tellsNumber_4 (fun H locs hP hS => ?_)
  refine lv_if_eq (tgt := 24) C.1 C.2.1 dX0_tellsNumber_7 (by decide) (fun hc => ?_) (fun hc => ?_)
  · have hf := g_t hc hf
    refine lv_iconst (v := (0 : Int32)) C.1 C.2.1 dX0_tellsNumber_24 (by decide) ?_
    obtain rfl := Option.some.inj hf
    exact u_zret C hP hS isb_0 dX0_tellsNumber_25
  · have hf := g_f hc hf
    refine lv_aload_n C.1 C.2.1 dX0_tellsNumber_10 rfl (lv_at hl 0 rfl) ?_
    refine gf_X0_28 C hP dX0_tellsNumber_11 ?_
    refine lv_aload_n C.1 C.2.1 dX0_tellsNumber_14 rfl (lv_at hl 0 rfl) ?_
    refine gf_X0_31 C hP dX0_tellsNumber_15 ?_
    obtain ⟨q2, eq2, hf⟩ := g_b hf
    refine cv_X0_66 hA C hX hP hS eq2 ⟨Nat.le_of_ble_eq_true rfl, Nat.le_of_ble_eq_true rfl⟩ hl.1 (Nat.le_of_ble_eq_true rfl) dX0_tellsNumber_18 (fun H locs hP hS => ?_)
    refine lv_if_ne (tgt := 26) C.1 C.2.1 dX0_tellsNumber_21 (by decide) (fun hc => ?_) (fun hc => ?_)
    · have hf := g_f hc hf
      refine lv_aload_n C.1 C.2.1 dX0_tellsNumber_26 rfl (lv_at hl 1 rfl) ?_
      refine gf_X0_70 C hk1 hP dX0_tellsNumber_27 ?_
      refine lv_aload_n C.1 C.2.1 dX0_tellsNumber_30 rfl (lv_at hl 0 rfl) ?_
      refine gf_X0_25 C hP dX0_tellsNumber_31 ?_
      obtain ⟨hg3, hf⟩ := g_if hf
      refine rl_aCap C (cap_of hk1) hP hg3 dX0_tellsNumber_34 ?_
      refine lv_aload_n C.1 C.2.1 dX0_tellsNumber_35 rfl (lv_at hl 0 rfl) ?_
      refine gf_X0_28 C hP dX0_tellsNumber_36 ?_
      refine lv_aload_n C.1 C.2.1 dX0_tellsNumber_39 rfl (lv_at hl 0 rfl) ?_
      refine gf_X0_31 C hP dX0_tellsNumber_40 ?_
      obtain ⟨q4, eq4, hf⟩ := g_b hf
      refine cv_X0_76 hA C hX hP hS (cp_el (cap_of hk1) hg3) eq4 ⟨Nat.le_of_ble_eq_true rfl, Nat.le_of_ble_eq_true rfl⟩ hl.1 (Nat.le_of_ble_eq_true rfl) dX0_tellsNumber_43 (fun H locs hP hS => ?_)
      refine lv_iconst (v := (1 : Int32)) C.1 C.2.1 dX0_tellsNumber_46 (by decide) ?_
      obtain rfl := Option.some.inj hf
      exact u_zret C hP hS isb_1 dX0_tellsNumber_47
    · have hf := g_t hc hf
      refine lv_iconst (v := (0 : Int32)) C.1 C.2.1 dX0_tellsNumber_24 (by decide) ?_
      obtain rfl := Option.some.inj hf
      exact u_zret C hP hS isb_0 dX0_tellsNumber_25
theorem c_X0_tellsNumber (l : Launch) (D : va_G) (ids : Nat → ClassId) (ad tt : Nat → Nat) (hA : adOk ad 59) {k1 : Nat} (hk1 : isX5 k1) {h : Hp} {rv : Int32 × Hp} (hf : f_X0_tellsNumber h k1 = some rv) : Met l yX0_tellsNumber (ws_ yX0_tellsNumber cX0_tellsNumber 2 (some .boolean)) rm_X0_tellsNumber (va_Pc [.ref (ad 37), .ref (ad k1)] (WB D ids (cEC ids ad) ad 59 (ExC tt ad) h)) (QW D (cEC ids ad) ad 59 (some (.int rv.1)) rv.2) 0 0 (inW ad 59) :=
  u_met (own := RX0) (by decide) rfl (Nat.le_of_ble_eq_true rfl) rfl (fun p e s m args below meth c H ls C hX hP hS hl => w_X0_tellsNumber (tt := tt) hA C hX hk1 _ _ _ _ hf hP hS hl)
theorem pf_X0_31 {p : Program} {l : Launch} {e : Env} {R : Room} {s : State} {m : MethodId} {args : Array Value} {below : List Frame} {meth : Method} {c : Code} {H : Heap} {locs : List Loc} {cells slots : Nat} {Q : State → Prop} {cc : ByteArray} {nL : Nat} {ret : Option FieldType} {pc : Nat} {ls : Array Slot} {rest : List Value} {D : va_G} {ids : Nat → ClassId} {ad : Nat → Nat} {h : Hp} {x : Int32} (hA : adOk ad 59) (C : CX p s m args meth c cc nL ret RX0 D ids) (hP : wp D (cEC ids ad) ad 59 h H) (hS : va_S (inW ad 59) s.heap H locs) (hdg : decode cc pc = .ok (.putfield 31, 3)) (kk : ∀ (H1 : Heap) (locs1 : List Loc), wp D (cEC ids ad) ad 59 (hs h 37 6 x) H1 → va_S (inW ad 59) s.heap H1 locs1 → W p l e R s m args below meth c H1 locs1 cells slots Q (F0 m (pc + 3) ls rest)) : W p l e R s m args below meth c H locs cells slots Q (F0 m pc ls (.int x :: .ref (ad 37) :: rest)) :=
  u_put hA C hP hS (by decide) cE_X0 rfl inX0 tyX0 tyX0_ok nmX0 6 (by decide) rfl q_70 rfl (ty := .int) rfl rfl rfl hdg kk
theorem cv_X0_62 {p : Program} {l : Launch} {e : Env} {R : Room} {s : State} {m : MethodId} {args : Array Value} {below : List Frame} {meth : Method} {c : Code} {H : Heap} {locs : List Loc} {Q : State → Prop} {cc : ByteArray} {nL : Nat} {ret : Option FieldType} {pc : Nat} {ls : Array Slot} {rest : List Value} {D : va_G} {ids : Nat → ClassId} {ad tt : Nat → Nat} {h : Hp} (hA : adOk ad 59) (C : CX p s m args meth c cc nL ret RX0 D ids) (hX : (ExC tt ad) s s.heap) (hP : wp D (cEC ids ad) ad 59 h H) (hS : va_S (inW ad 59) s.heap H locs) {k1 : Nat} (hk1 : isX5 k1) {rv : Int32 × Hp} (hf : f_X0_tellsNumber h k1 = some rv) (hR : 2 + 1 ≤ R.frames ∧ 8 + (2 + 11) + 44 ≤ R.locals) (hsz : ls.size = nL) (hcat : (rest.map fun v => v.category).sum ≤ 8) (hdg : decode cc pc = .ok (.invokevirtual 62, 3)) (kk : ∀ (H1 : Heap) (locs1 : List Loc), wp D (cEC ids ad) ad 59 rv.2 H1 → va_S (inW ad 59) s.heap H1 locs1 → W p l e R s m args below meth c H1 locs1 0 0 Q (F0 m (pc + 3) ls (.int rv.1 :: rest))) : W p l e R s m args below meth c H locs 0 0 Q (F0 m pc ls (.ref (ad k1) :: .ref (ad 37) :: rest)) :=
  u_callV (As := [.ref (ad k1)]) (rv := (some (.int rv.1))) C (exC_ok hA) hX (c_X0_tellsNumber l D ids ad tt hA hk1 hf) q_221 q_222 q_223 q_22 q_224 ⟨rfl, rfl⟩ (by refine ⟨by decide +kernel, by decide +kernel, ?_⟩; show _ = some 1; decide +kernel) hR (by decide) (cE_X0 _) rfl hP hS hsz hcat rfl hdg kk
abbrev rm_X0_takesFirstDigit : Room := { frames := 3, cells := 0, slots := 0, locals := 65 }
set_option maxRecDepth 100000 in
set_option maxHeartbeats 4000000 in
theorem w_X0_takesFirstDigit_13 {p : Program} {l : Launch} {e : Env} {s : State} {m : MethodId} {args : Array Value} {below : List Frame} {meth : Method} {c : Code} {D : va_G} {ids : Nat → ClassId} {ad tt : Nat → Nat} {rv : Int32 × Hp} (hA : adOk ad 59) (C : CX p s m args meth c cX0_takesFirstDigit 3 (some .boolean) RX0 D ids) (hX : (ExC tt ad) s s.heap) {k2 : Nat} (hk2 : isX5 k2) : ∀ (h : Hp) (H : Heap) (locs : List Loc) (ls : Array Slot), f_X0_takesFirstDigit_13 k2 h = some rv → wp D (cEC ids ad) ad 59 h H → va_S (inW ad 59) s.heap H locs → lv_has ls 3 [(0, .ref (ad 37)), (2, .ref (ad k2))] → W p l e rm_X0_takesFirstDigit s m args below meth c H locs 0 0 (MQ below (QW D (cEC ids ad) ad 59 (some (.int rv.1)) rv.2) args s 0 0 (inW ad 59)) (F0 m 13 ls []) := by
  intro h H locs ls hf hP hS hl
  unfold f_X0_takesFirstDigit_13 at hf
  refine lv_aload_n C.1 C.2.1 dX0_takesFirstDigit_13 rfl (lv_at hl 0 rfl) ?_
  refine lv_aload_n C.1 C.2.1 dX0_takesFirstDigit_14 rfl (lv_at hl 1 rfl) ?_
  obtain ⟨q1, eq1, hf⟩ := g_b hf
  refine cv_X0_62 hA C hX hP hS hk2 eq1 ⟨Nat.le_of_ble_eq_true rfl, Nat.le_of_ble_eq_true rfl⟩ hl.1 (Nat.le_of_ble_eq_true rfl) dX0_takesFirstDigit_15 (fun H locs hP hS => ?_)
  obtain ⟨hg, hf⟩ := g_if hf
  obtain rfl := Option.some.inj hf
  exact u_zret C hP hS hg dX0_takesFirstDigit_18
set_option maxRecDepth 100000 in
set_option maxHeartbeats 4000000 in
theorem w_X0_takesFirstDigit {p : Program} {l : Launch} {e : Env} {s : State} {m : MethodId} {args : Array Value} {below : List Frame} {meth : Method} {c : Code} {D : va_G} {ids : Nat → ClassId} {ad tt : Nat → Nat} {rv : Int32 × Hp} (hA : adOk ad 59) (C : CX p s m args meth c cX0_takesFirstDigit 3 (some .boolean) RX0 D ids) (hX : (ExC tt ad) s s.heap) {k2 : Nat} (hk2 : isX5 k2) : ∀ (h : Hp) (a1 : Int32) (H : Heap) (locs : List Loc) (ls : Array Slot), f_X0_takesFirstDigit h k2 a1 = some rv → wp D (cEC ids ad) ad 59 h H → va_S (inW ad 59) s.heap H locs → lv_has ls 3 [(0, .ref (ad 37)), (1, .int a1), (2, .ref (ad k2))] → W p l e rm_X0_takesFirstDigit s m args below meth c H locs 0 0 (MQ below (QW D (cEC ids ad) ad 59 (some (.int rv.1)) rv.2) args s 0 0 (inW ad 59)) (F0 m 0 ls []) := by
  intro h a1 H locs ls hf hP hS hl
  unfold f_X0_takesFirstDigit at hf
  refine lv_aload_n C.1 C.2.1 dX0_takesFirstDigit_0 rfl (lv_at hl 0 rfl) ?_
  refine lv_iload_n C.1 C.2.1 dX0_takesFirstDigit_1 rfl (lv_at hl 1 rfl) ?_
  obtain ⟨q1, eq1, hf⟩ := g_b hf
  refine cv_X0_51 hA C hX hP hS eq1 ⟨Nat.le_of_ble_eq_true rfl, Nat.le_of_ble_eq_true rfl⟩ hl.1 (Nat.le_of_ble_eq_true rfl) dX0_takesFirstDigit_2 (fun H locs hP hS => ?_)
  refine pf_X0_31 hA C hP hS dX0_takesFirstDigit_5 (fun H locs hP hS => ?_)
  refine lv_aload_n C.1 C.2.1 dX0_takesFirstDigit_8 rfl (lv_at hl 0 rfl) ?_
  refine lv_iconst (v := (4 : Int32)) C.1 C.2.1 dX0_takesFirstDigit_9 (by decide) ?_
  refine pf_X0_22 hA C hP hS dX0_takesFirstDigit_10 (fun H locs hP hS => ?_)
  exact w_X0_takesFirstDigit_13 hA C hX hk2 _ _ _ _ hf hP hS (lv_sub hl [0, 2] rfl)
theorem c_X0_takesFirstDigit (l : Launch) (D : va_G) (ids : Nat → ClassId) (ad tt : Nat → Nat) (hA : adOk ad 59) {k2 : Nat} (hk2 : isX5 k2) {a1 : Int32} {h : Hp} {rv : Int32 × Hp} (hf : f_X0_takesFirstDigit h k2 a1 = some rv) : Met l yX0_takesFirstDigit (ws_ yX0_takesFirstDigit cX0_takesFirstDigit 3 (some .boolean)) rm_X0_takesFirstDigit (va_Pc [.ref (ad 37), .int a1, .ref (ad k2)] (WB D ids (cEC ids ad) ad 59 (ExC tt ad) h)) (QW D (cEC ids ad) ad 59 (some (.int rv.1)) rv.2) 0 0 (inW ad 59) :=
  u_met (own := RX0) (by decide) rfl (Nat.le_of_ble_eq_true rfl) rfl (fun p e s m args below meth c H ls C hX hP hS hl => w_X0_takesFirstDigit (tt := tt) hA C hX hk2 _ _ _ _ _ hf hP hS hl)
theorem cv_X0_42 {p : Program} {l : Launch} {e : Env} {R : Room} {s : State} {m : MethodId} {args : Array Value} {below : List Frame} {meth : Method} {c : Code} {H : Heap} {locs : List Loc} {Q : State → Prop} {cc : ByteArray} {nL : Nat} {ret : Option FieldType} {pc : Nat} {ls : Array Slot} {rest : List Value} {D : va_G} {ids : Nat → ClassId} {ad tt : Nat → Nat} {h : Hp} (hA : adOk ad 59) (C : CX p s m args meth c cc nL ret RX0 D ids) (hX : (ExC tt ad) s s.heap) (hP : wp D (cEC ids ad) ad 59 h H) (hS : va_S (inW ad 59) s.heap H locs) {a1 : Int32} {rv : Int32 × Hp} (hf : f_X0_takesLetter h a1 = some rv) (hR : 1 + 1 ≤ R.frames ∧ 8 + (2 + 11) + 20 ≤ R.locals) (hsz : ls.size = nL) (hcat : (rest.map fun v => v.category).sum ≤ 8) (hdg : decode cc pc = .ok (.invokevirtual 42, 3)) (kk : ∀ (H1 : Heap) (locs1 : List Loc), wp D (cEC ids ad) ad 59 rv.2 H1 → va_S (inW ad 59) s.heap H1 locs1 → W p l e R s m args below meth c H1 locs1 0 0 Q (F0 m (pc + 3) ls (.int rv.1 :: rest))) : W p l e R s m args below meth c H locs 0 0 Q (F0 m pc ls (.int a1 :: .ref (ad 37) :: rest)) :=
  u_callV (As := [.int a1]) (rv := (some (.int rv.1))) C (exC_ok hA) hX (c_X0_takesLetter l D ids ad tt hA hf) q_210 q_211 q_212 q_22 q_213 ⟨rfl, rfl⟩ (by refine ⟨by decide +kernel, by decide +kernel, ?_⟩; show _ = some 1; decide +kernel) hR (by decide) (cE_X0 _) rfl hP hS hsz hcat rfl hdg kk
abbrev rm_X0_takesBehindDigit : Room := { frames := 3, cells := 0, slots := 0, locals := 65 }
set_option maxRecDepth 100000 in
set_option maxHeartbeats 4000000 in
theorem w_X0_takesBehindDigit {p : Program} {l : Launch} {e : Env} {s : State} {m : MethodId} {args : Array Value} {below : List Frame} {meth : Method} {c : Code} {D : va_G} {ids : Nat → ClassId} {ad tt : Nat → Nat} {rv : Int32 × Hp} (hA : adOk ad 59) (C : CX p s m args meth c cX0_takesBehindDigit 4 (some .boolean) RX0 D ids) (hX : (ExC tt ad) s s.heap) {k2 : Nat} (hk2 : isX5 k2) : ∀ (h : Hp) (a1 : Int32) (H : Heap) (locs : List Loc) (ls : Array Slot), f_X0_takesBehindDigit h k2 a1 = some rv → wp D (cEC ids ad) ad 59 h H → va_S (inW ad 59) s.heap H locs → lv_has ls 4 [(0, .ref (ad 37)), (1, .int a1), (2, .ref (ad k2))] → W p l e rm_X0_takesBehindDigit s m args below meth c H locs 0 0 (MQ below (QW D (cEC ids ad) ad 59 (some (.int rv.1)) rv.2) args s 0 0 (inW ad 59)) (F0 m 0 ls []) := by
  intro h a1 H locs ls hf hP hS hl
  unfold f_X0_takesBehindDigit at hf
  refine lv_iload_n C.1 C.2.1 dX0_takesBehindDigit_0 rfl (lv_at hl 1 rfl) ?_
  refine lv_bipush (v := (59 : Int32)) C.1 C.2.1 dX0_takesBehindDigit_1 (by decide) ?_
  refine lv_icmp_ne (tgt := 13) C.1 C.2.1 dX0_takesBehindDigit_3 (by decide) (fun hc => ?_) (fun hc => ?_)
  · have hf := g_f hc hf
    refine lv_iload_n C.1 C.2.1 dX0_takesBehindDigit_13 rfl (lv_at hl 1 rfl) ?_
    obtain ⟨q1, eq1, hf⟩ := g_b hf
    refine cv_X0_51 hA C hX hP hS eq1 ⟨Nat.le_of_ble_eq_true rfl, Nat.le_of_ble_eq_true rfl⟩ hl.1 (Nat.le_of_ble_eq_true rfl) dX0_takesBehindDigit_14 (fun H locs hP hS => ?_)
    refine lv_istore_n (lv' := [(3, .int q1.1), (0, .ref (ad 37)), (1, .int a1), (2, .ref (ad k2))]) C.1 C.2.1 dX0_takesBehindDigit_17 rfl hl (by decide) rfl (fun ls hl => ?_)
    refine lv_iload_n C.1 C.2.1 dX0_takesBehindDigit_18 rfl (lv_at hl 0 rfl) ?_
    refine lv_bipush (v := (-5 : Int32)) C.1 C.2.1 dX0_takesBehindDigit_19 (by decide) ?_
    refine lv_icmp_ne (tgt := 30) C.1 C.2.1 dX0_takesBehindDigit_21 (by decide) (fun hc => ?_) (fun hc => ?_)
    · have hf := g_f hc hf
      refine lv_aload_n C.1 C.2.1 dX0_takesBehindDigit_30 rfl (lv_at hl 1 rfl) ?_
      refine gf_X0_31 C hP dX0_takesBehindDigit_31 ?_
      refine lv_if_ne (tgt := 39) C.1 C.2.1 dX0_takesBehindDigit_34 (by decide) (fun hc => ?_) (fun hc => ?_)
      · have hf := g_f hc hf
        refine lv_aload_n C.1 C.2.1 dX0_takesBehindDigit_39 rfl (lv_at hl 1 rfl) ?_
        refine lv_aload_n C.1 C.2.1 dX0_takesBehindDigit_40 rfl (lv_at hl 1 rfl) ?_
        refine gf_X0_31 C hP dX0_takesBehindDigit_41 ?_
        refine lv_bipush (v := (10 : Int32)) C.1 C.2.1 dX0_takesBehindDigit_44 (by decide) ?_
        refine lv_imul C.1 C.2.1 dX0_takesBehindDigit_46 ?_
        refine lv_iload_n C.1 C.2.1 dX0_takesBehindDigit_47 rfl (lv_at hl 0 rfl) ?_
        refine lv_iadd C.1 C.2.1 dX0_takesBehindDigit_48 ?_
        refine pf_X0_31 hA C hP hS dX0_takesBehindDigit_49 (fun H locs hP hS => ?_)
        refine lv_aload_n C.1 C.2.1 dX0_takesBehindDigit_52 rfl (lv_at hl 1 rfl) ?_
        refine lv_aload_n C.1 C.2.1 dX0_takesBehindDigit_53 rfl (lv_at hl 3 rfl) ?_
        obtain ⟨q2, eq2, hf⟩ := g_b hf
        refine cv_X0_62 hA C hX hP hS hk2 eq2 ⟨Nat.le_of_ble_eq_true rfl, Nat.le_of_ble_eq_true rfl⟩ hl.1 (Nat.le_of_ble_eq_true rfl) dX0_takesBehindDigit_54 (fun H locs hP hS => ?_)
        obtain ⟨hg, hf⟩ := g_if hf
        obtain rfl := Option.some.inj hf
        exact u_zret C hP hS hg dX0_takesBehindDigit_57
      · have hf := g_t hc hf
        refine lv_iconst (v := (0 : Int32)) C.1 C.2.1 dX0_takesBehindDigit_37 (by decide) ?_
        obtain rfl := Option.some.inj hf
        exact u_zret C hP hS isb_0 dX0_takesBehindDigit_38
    · have hf := g_t hc hf
      refine lv_aload_n C.1 C.2.1 dX0_takesBehindDigit_24 rfl (lv_at hl 1 rfl) ?_
      refine lv_iload_n C.1 C.2.1 dX0_takesBehindDigit_25 rfl (lv_at hl 2 rfl) ?_
      obtain ⟨q3, eq3, hf⟩ := g_b hf
      refine cv_X0_42 hA C hX hP hS eq3 ⟨Nat.le_of_ble_eq_true rfl, Nat.le_of_ble_eq_true rfl⟩ hl.1 (Nat.le_of_ble_eq_true rfl) dX0_takesBehindDigit_26 (fun H locs hP hS => ?_)
      obtain ⟨hg, hf⟩ := g_if hf
      obtain rfl := Option.some.inj hf
      exact u_zret C hP hS hg dX0_takesBehindDigit_29
  · have hf := g_t hc hf
    refine lv_aload_n C.1 C.2.1 dX0_takesBehindDigit_6 rfl (lv_at hl 0 rfl) ?_
    refine lv_iconst (v := (0 : Int32)) C.1 C.2.1 dX0_takesBehindDigit_7 (by decide) ?_
    refine pf_X0_22 hA C hP hS dX0_takesBehindDigit_8 (fun H locs hP hS => ?_)
    refine lv_iconst (v := (1 : Int32)) C.1 C.2.1 dX0_takesBehindDigit_11 (by decide) ?_
    obtain rfl := Option.some.inj hf
    exact u_zret C hP hS isb_1 dX0_takesBehindDigit_12
theorem c_X0_takesBehindDigit (l : Launch) (D : va_G) (ids : Nat → ClassId) (ad tt : Nat → Nat) (hA : adOk ad 59) {k2 : Nat} (hk2 : isX5 k2) {a1 : Int32} {h : Hp} {rv : Int32 × Hp} (hf : f_X0_takesBehindDigit h k2 a1 = some rv) : Met l yX0_takesBehindDigit (ws_ yX0_takesBehindDigit cX0_takesBehindDigit 4 (some .boolean)) rm_X0_takesBehindDigit (va_Pc [.ref (ad 37), .int a1, .ref (ad k2)] (WB D ids (cEC ids ad) ad 59 (ExC tt ad) h)) (QW D (cEC ids ad) ad 59 (some (.int rv.1)) rv.2) 0 0 (inW ad 59) :=
  u_met (own := RX0) (by decide) rfl (Nat.le_of_ble_eq_true rfl) rfl (fun p e s m args below meth c H ls C hX hP hS hl => w_X0_takesBehindDigit (tt := tt) hA C hX hk2 _ _ _ _ _ hf hP hS hl)
theorem gf_X0_22 {p : Program} {l : Launch} {e : Env} {R : Room} {s : State} {m : MethodId} {args : Array Value} {below : List Frame} {meth : Method} {c : Code} {H : Heap} {locs : List Loc} {cells slots : Nat} {Q : State → Prop} {cc : ByteArray} {nL : Nat} {ret : Option FieldType} {pc : Nat} {ls : Array Slot} {rest : List Value} {D : va_G} {ids : Nat → ClassId} {ad : Nat → Nat} {h : Hp} (C : CX p s m args meth c cc nL ret RX0 D ids) (hP : wp D (cEC ids ad) ad 59 h H) (hdg : decode cc pc = .ok (.getfield 22, 3)) (kk : W p l e R s m args below meth c H locs cells slots Q (F0 m (pc + 3) ls (.int (h 37 3) :: rest))) : W p l e R s m args below meth c H locs cells slots Q (F0 m pc ls (.ref (ad 37) :: rest)) :=
  u_get C hP (by decide) cE_X0 rfl inX0 3 (by decide) rfl q_67 hdg kk
theorem cv_X0_38 {p : Program} {l : Launch} {e : Env} {R : Room} {s : State} {m : MethodId} {args : Array Value} {below : List Frame} {meth : Method} {c : Code} {H : Heap} {locs : List Loc} {Q : State → Prop} {cc : ByteArray} {nL : Nat} {ret : Option FieldType} {pc : Nat} {ls : Array Slot} {rest : List Value} {D : va_G} {ids : Nat → ClassId} {ad tt : Nat → Nat} {h : Hp} (hA : adOk ad 59) (C : CX p s m args meth c cc nL ret RX0 D ids) (hX : (ExC tt ad) s s.heap) (hP : wp D (cEC ids ad) ad 59 h H) (hS : va_S (inW ad 59) s.heap H locs) {a1 : Int32} {rv : Int32 × Hp} (hf : f_X0_takesCaptain h a1 = some rv) (hR : 1 + 1 ≤ R.frames ∧ 8 + (2 + 11) + 20 ≤ R.locals) (hsz : ls.size = nL) (hcat : (rest.map fun v => v.category).sum ≤ 8) (hdg : decode cc pc = .ok (.invokevirtual 38, 3)) (kk : ∀ (H1 : Heap) (locs1 : List Loc), wp D (cEC ids ad) ad 59 rv.2 H1 → va_S (inW ad 59) s.heap H1 locs1 → W p l e R s m args below meth c H1 locs1 0 0 Q (F0 m (pc + 3) ls (.int rv.1 :: rest))) : W p l e R s m args below meth c H locs 0 0 Q (F0 m pc ls (.int a1 :: .ref (ad 37) :: rest)) :=
  u_callV (As := [.int a1]) (rv := (some (.int rv.1))) C (exC_ok hA) hX (c_X0_takesCaptain l D ids ad tt hA hf) q_203 q_204 q_205 q_22 q_206 ⟨rfl, rfl⟩ (by refine ⟨by decide +kernel, by decide +kernel, ?_⟩; show _ = some 1; decide +kernel) hR (by decide) (cE_X0 _) rfl hP hS hsz hcat rfl hdg kk
theorem cv_X0_45 {p : Program} {l : Launch} {e : Env} {R : Room} {s : State} {m : MethodId} {args : Array Value} {below : List Frame} {meth : Method} {c : Code} {H : Heap} {locs : List Loc} {Q : State → Prop} {cc : ByteArray} {nL : Nat} {ret : Option FieldType} {pc : Nat} {ls : Array Slot} {rest : List Value} {D : va_G} {ids : Nat → ClassId} {ad tt : Nat → Nat} {h : Hp} (hA : adOk ad 59) (C : CX p s m args meth c cc nL ret RX0 D ids) (hX : (ExC tt ad) s s.heap) (hP : wp D (cEC ids ad) ad 59 h H) (hS : va_S (inW ad 59) s.heap H locs) {k2 : Nat} (hk2 : isX5 k2) {a1 : Int32} {rv : Int32 × Hp} (hf : f_X0_takesFirstDigit h k2 a1 = some rv) (hR : 3 + 1 ≤ R.frames ∧ 8 + (3 + 11) + 65 ≤ R.locals) (hsz : ls.size = nL) (hcat : (rest.map fun v => v.category).sum ≤ 8) (hdg : decode cc pc = .ok (.invokevirtual 45, 3)) (kk : ∀ (H1 : Heap) (locs1 : List Loc), wp D (cEC ids ad) ad 59 rv.2 H1 → va_S (inW ad 59) s.heap H1 locs1 → W p l e R s m args below meth c H1 locs1 0 0 Q (F0 m (pc + 3) ls (.int rv.1 :: rest))) : W p l e R s m args below meth c H locs 0 0 Q (F0 m pc ls (.ref (ad k2) :: .int a1 :: .ref (ad 37) :: rest)) :=
  u_callV (As := [.int a1, .ref (ad k2)]) (rv := (some (.int rv.1))) C (exC_ok hA) hX (c_X0_takesFirstDigit l D ids ad tt hA hk2 hf) q_217 q_218 q_219 q_22 q_220 ⟨rfl, rfl⟩ (by refine ⟨by decide +kernel, by decide +kernel, ?_⟩; show _ = some 2; decide +kernel) hR (by decide) (cE_X0 _) rfl hP hS hsz hcat rfl hdg kk
theorem cv_X0_48 {p : Program} {l : Launch} {e : Env} {R : Room} {s : State} {m : MethodId} {args : Array Value} {below : List Frame} {meth : Method} {c : Code} {H : Heap} {locs : List Loc} {Q : State → Prop} {cc : ByteArray} {nL : Nat} {ret : Option FieldType} {pc : Nat} {ls : Array Slot} {rest : List Value} {D : va_G} {ids : Nat → ClassId} {ad tt : Nat → Nat} {h : Hp} (hA : adOk ad 59) (C : CX p s m args meth c cc nL ret RX0 D ids) (hX : (ExC tt ad) s s.heap) (hP : wp D (cEC ids ad) ad 59 h H) (hS : va_S (inW ad 59) s.heap H locs) {k2 : Nat} (hk2 : isX5 k2) {a1 : Int32} {rv : Int32 × Hp} (hf : f_X0_takesBehindDigit h k2 a1 = some rv) (hR : 3 + 1 ≤ R.frames ∧ 8 + (4 + 11) + 65 ≤ R.locals) (hsz : ls.size = nL) (hcat : (rest.map fun v => v.category).sum ≤ 8) (hdg : decode cc pc = .ok (.invokevirtual 48, 3)) (kk : ∀ (H1 : Heap) (locs1 : List Loc), wp D (cEC ids ad) ad 59 rv.2 H1 → va_S (inW ad 59) s.heap H1 locs1 → W p l e R s m args below meth c H1 locs1 0 0 Q (F0 m (pc + 3) ls (.int rv.1 :: rest))) : W p l e R s m args below meth c H locs 0 0 Q (F0 m pc ls (.ref (ad k2) :: .int a1 :: .ref (ad 37) :: rest)) :=
  u_callV (As := [.int a1, .ref (ad k2)]) (rv := (some (.int rv.1))) C (exC_ok hA) hX (c_X0_takesBehindDigit l D ids ad tt hA hk2 hf) q_227 q_228 q_229 q_22 q_230 ⟨rfl, rfl⟩ (by refine ⟨by decide +kernel, by decide +kernel, ?_⟩; show _ = some 2; decide +kernel) hR (by decide) (cE_X0 _) rfl hP hS hsz hcat rfl hdg kk
abbrev rm_X0_takes : Room := { frames := 4, cells := 0, slots := 0, locals := 88 }
set_option maxRecDepth 100000 in
set_option maxHeartbeats 4000000 in
theorem w_X0_takes {p : Program} {l : Launch} {e : Env} {s : State} {m : MethodId} {args : Array Value} {below : List Frame} {meth : Method} {c : Code} {D : va_G} {ids : Nat → ClassId} {ad tt : Nat → Nat} {rv : Int32 × Hp} (hA : adOk ad 59) (C : CX p s m args meth c cX0_takes 3 (some .boolean) RX0 D ids) (hX : (ExC tt ad) s s.heap) {k2 : Nat} (hk2 : isX5 k2) : ∀ (h : Hp) (a1 : Int32) (H : Heap) (locs : List Loc) (ls : Array Slot), f_X0_takes h k2 a1 = some rv → wp D (cEC ids ad) ad 59 h H → va_S (inW ad 59) s.heap H locs → lv_has ls 3 [(0, .ref (ad 37)), (1, .int a1), (2, .ref (ad k2))] → W p l e rm_X0_takes s m args below meth c H locs 0 0 (MQ below (QW D (cEC ids ad) ad 59 (some (.int rv.1)) rv.2) args s 0 0 (inW ad 59)) (F0 m 0 ls []) := by
  intro h a1 H locs ls hf hP hS hl
  unfold f_X0_takes at hf
  refine lv_aload_n C.1 C.2.1 dX0_takes_0 rfl (lv_at hl 0 rfl) ?_
  refine gf_X0_22 C hP dX0_takes_1 ?_
  by_cases hc0 : (h 37 3) = 0
  · have hf := g_t hc0 hf
    refine lv_tableIn (off := 32) (tgt := 36) C.1 C.2.1 dX0_takes_4 (by rw [hc0]; decide) (by rw [hc0]; decide) (by rw [hc0]; rfl) (by decide) ?_
    refine lv_aload_n C.1 C.2.1 dX0_takes_36 rfl (lv_at hl 0 rfl) ?_
    refine lv_iload_n C.1 C.2.1 dX0_takes_37 rfl (lv_at hl 1 rfl) ?_
    obtain ⟨q1, eq1, hf⟩ := g_b hf
    refine cv_X0_38 hA C hX hP hS eq1 ⟨Nat.le_of_ble_eq_true rfl, Nat.le_of_ble_eq_true rfl⟩ hl.1 (Nat.le_of_ble_eq_true rfl) dX0_takes_38 (fun H locs hP hS => ?_)
    obtain ⟨hg, hf⟩ := g_if hf
    obtain rfl := Option.some.inj hf
    exact u_zret C hP hS hg dX0_takes_41
  · have hf := g_f hc0 hf
    by_cases hc1 : (h 37 3) = 1
    · have hf := g_t hc1 hf
      refine lv_tableIn (off := 38) (tgt := 42) C.1 C.2.1 dX0_takes_4 (by rw [hc1]; decide) (by rw [hc1]; decide) (by rw [hc1]; rfl) (by decide) ?_
      refine lv_aload_n C.1 C.2.1 dX0_takes_42 rfl (lv_at hl 0 rfl) ?_
      refine lv_iconst (v := (2 : Int32)) C.1 C.2.1 dX0_takes_43 (by decide) ?_
      refine pf_X0_22 hA C hP hS dX0_takes_44 (fun H locs hP hS => ?_)
      refine lv_iload_n C.1 C.2.1 dX0_takes_47 rfl (lv_at hl 1 rfl) ?_
      refine lv_bipush (v := (58 : Int32)) C.1 C.2.1 dX0_takes_48 (by decide) ?_
      refine lv_icmp_ne (tgt := 57) C.1 C.2.1 dX0_takes_50 (by decide) (fun hc => ?_) (fun hc => ?_)
      · have hf := g_f hc hf
        refine lv_iconst (v := (0 : Int32)) C.1 C.2.1 dX0_takes_57 (by decide) ?_
        obtain rfl := Option.some.inj hf
        exact u_zret C hP hS isb_0 dX0_takes_58
      · have hf := g_t hc hf
        refine lv_iconst (v := (1 : Int32)) C.1 C.2.1 dX0_takes_53 (by decide) ?_
        refine lv_goto (tgt := 58) C.1 C.2.1 dX0_takes_54 (by decide) ?_
        obtain rfl := Option.some.inj hf
        exact u_zret C hP hS isb_1 dX0_takes_58
    · have hf := g_f hc1 hf
      by_cases hc2 : (h 37 3) = 2
      · have hf := g_t hc2 hf
        refine lv_tableIn (off := 55) (tgt := 59) C.1 C.2.1 dX0_takes_4 (by rw [hc2]; decide) (by rw [hc2]; decide) (by rw [hc2]; rfl) (by decide) ?_
        refine lv_aload_n C.1 C.2.1 dX0_takes_59 rfl (lv_at hl 0 rfl) ?_
        refine lv_iload_n C.1 C.2.1 dX0_takes_60 rfl (lv_at hl 1 rfl) ?_
        obtain ⟨q2, eq2, hf⟩ := g_b hf
        refine cv_X0_42 hA C hX hP hS eq2 ⟨Nat.le_of_ble_eq_true rfl, Nat.le_of_ble_eq_true rfl⟩ hl.1 (Nat.le_of_ble_eq_true rfl) dX0_takes_61 (fun H locs hP hS => ?_)
        obtain ⟨hg, hf⟩ := g_if hf
        obtain rfl := Option.some.inj hf
        exact u_zret C hP hS hg dX0_takes_64
      · have hf := g_f hc2 hf
        by_cases hc3 : (h 37 3) = 3
        · have hf := g_t hc3 hf
          refine lv_tableIn (off := 61) (tgt := 65) C.1 C.2.1 dX0_takes_4 (by rw [hc3]; decide) (by rw [hc3]; decide) (by rw [hc3]; rfl) (by decide) ?_
          refine lv_aload_n C.1 C.2.1 dX0_takes_65 rfl (lv_at hl 0 rfl) ?_
          refine lv_iload_n C.1 C.2.1 dX0_takes_66 rfl (lv_at hl 1 rfl) ?_
          refine lv_aload_n C.1 C.2.1 dX0_takes_67 rfl (lv_at hl 2 rfl) ?_
          obtain ⟨q3, eq3, hf⟩ := g_b hf
          refine cv_X0_45 hA C hX hP hS hk2 eq3 ⟨Nat.le_of_ble_eq_true rfl, Nat.le_of_ble_eq_true rfl⟩ hl.1 (Nat.le_of_ble_eq_true rfl) dX0_takes_68 (fun H locs hP hS => ?_)
          obtain ⟨hg, hf⟩ := g_if hf
          obtain rfl := Option.some.inj hf
          exact u_zret C hP hS hg dX0_takes_71
        · have hf := g_f hc3 hf
          have hsw : (h 37 3).toInt < 0 ∨ 3 < (h 37 3).toInt := by
            have zhc0 := lv_neT hc0 (show (0 : Int32).toInt = 0 by decide)
            have zhc1 := lv_neT hc1 (show (1 : Int32).toInt = 1 by decide)
            have zhc2 := lv_neT hc2 (show (2 : Int32).toInt = 2 by decide)
            have zhc3 := lv_neT hc3 (show (3 : Int32).toInt = 3 by decide)
            omega
          refine lv_tableOut (tgt := 72) C.1 C.2.1 dX0_takes_4 hsw (by decide) ?_
          refine lv_aload_n C.1 C.2.1 dX0_takes_72 rfl (lv_at hl 0 rfl) ?_
          refine lv_iload_n C.1 C.2.1 dX0_takes_73 rfl (lv_at hl 1 rfl) ?_
          refine lv_aload_n C.1 C.2.1 dX0_takes_74 rfl (lv_at hl 2 rfl) ?_
          obtain ⟨q4, eq4, hf⟩ := g_b hf
          refine cv_X0_48 hA C hX hP hS hk2 eq4 ⟨Nat.le_of_ble_eq_true rfl, Nat.le_of_ble_eq_true rfl⟩ hl.1 (Nat.le_of_ble_eq_true rfl) dX0_takes_75 (fun H locs hP hS => ?_)
          obtain ⟨hg, hf⟩ := g_if hf
          obtain rfl := Option.some.inj hf
          exact u_zret C hP hS hg dX0_takes_78
theorem c_X0_takes (l : Launch) (D : va_G) (ids : Nat → ClassId) (ad tt : Nat → Nat) (hA : adOk ad 59) {k2 : Nat} (hk2 : isX5 k2) {a1 : Int32} {h : Hp} {rv : Int32 × Hp} (hf : f_X0_takes h k2 a1 = some rv) : Met l yX0_takes (ws_ yX0_takes cX0_takes 3 (some .boolean)) rm_X0_takes (va_Pc [.ref (ad 37), .int a1, .ref (ad k2)] (WB D ids (cEC ids ad) ad 59 (ExC tt ad) h)) (QW D (cEC ids ad) ad 59 (some (.int rv.1)) rv.2) 0 0 (inW ad 59) :=
  u_met (own := RX0) (by decide) rfl (Nat.le_of_ble_eq_true rfl) rfl (fun p e s m args below meth c H ls C hX hP hS hl => w_X0_takes (tt := tt) hA C hX hk2 _ _ _ _ _ hf hP hS hl)
theorem gf_X0_15 {p : Program} {l : Launch} {e : Env} {R : Room} {s : State} {m : MethodId} {args : Array Value} {below : List Frame} {meth : Method} {c : Code} {H : Heap} {locs : List Loc} {cells slots : Nat} {Q : State → Prop} {cc : ByteArray} {nL : Nat} {ret : Option FieldType} {pc : Nat} {ls : Array Slot} {rest : List Value} {D : va_G} {ids : Nat → ClassId} {ad : Nat → Nat} {h : Hp} (C : CX p s m args meth c cc nL ret RX0 D ids) (hP : wp D (cEC ids ad) ad 59 h H) (hdg : decode cc pc = .ok (.getfield 15, 3)) (kk : W p l e R s m args below meth c H locs cells slots Q (F0 m (pc + 3) ls (.int (h 37 1) :: rest))) : W p l e R s m args below meth c H locs cells slots Q (F0 m pc ls (.ref (ad 37) :: rest)) :=
  u_get C hP (by decide) cE_X0 rfl inX0 1 (by decide) rfl q_65 hdg kk
theorem gf_X0_9 {p : Program} {l : Launch} {e : Env} {R : Room} {s : State} {m : MethodId} {args : Array Value} {below : List Frame} {meth : Method} {c : Code} {H : Heap} {locs : List Loc} {cells slots : Nat} {Q : State → Prop} {cc : ByteArray} {nL : Nat} {ret : Option FieldType} {pc : Nat} {ls : Array Slot} {rest : List Value} {D : va_G} {ids : Nat → ClassId} {ad : Nat → Nat} {h : Hp} (C : CX p s m args meth c cc nL ret RX0 D ids) (hP : wp D (cEC ids ad) ad 59 h H) (hdg : decode cc pc = .ok (.getfield 9, 3)) (kk : W p l e R s m args below meth c H locs cells slots Q (F0 m (pc + 3) ls (.ref (ad 38) :: rest))) : W p l e R s m args below meth c H locs cells slots Q (F0 m pc ls (.ref (ad 37) :: rest)) :=
  u_get C hP (by decide) cE_X0 rfl inX0 0 (by decide) rfl q_64 hdg kk
theorem ln_aC {p : Program} {l : Launch} {e : Env} {R : Room} {s : State} {m : MethodId} {args : Array Value} {below : List Frame} {meth : Method} {c : Code} {H : Heap} {locs : List Loc} {cells slots : Nat} {Q : State → Prop} {cc : ByteArray} {nL : Nat} {ret : Option FieldType} {own : String} {pc : Nat} {ls : Array Slot} {rest : List Value} {D : va_G} {ids : Nat → ClassId} {ad : Nat → Nat} {h : Hp} (C : CX p s m args meth c cc nL ret own D ids) (hP : wp D (cEC ids ad) ad 59 h H) (hdg : decode cc pc = .ok (.arraylength, 1)) (kk : W p l e R s m args below meth c H locs cells slots Q (F0 m (pc + 1) ls (.int (60 : Int32) :: rest))) : W p l e R s m args below meth c H locs cells slots Q (F0 m pc ls (.ref (ad 38) :: rest)) :=
  u_alen C hP 0 rfl (by decide) (cE_aC _) rfl hdg kk
theorem al_aC {p : Program} {l : Launch} {e : Env} {R : Room} {s : State} {m : MethodId} {args : Array Value} {below : List Frame} {meth : Method} {c : Code} {H : Heap} {locs : List Loc} {cells slots : Nat} {Q : State → Prop} {cc : ByteArray} {nL : Nat} {ret : Option FieldType} {own : String} {pc : Nat} {ls : Array Slot} {rest : List Value} {D : va_G} {ids : Nat → ClassId} {ad : Nat → Nat} {h : Hp} (C : CX p s m args meth c cc nL ret own D ids) (hP : wp D (cEC ids ad) ad 59 h H) {i : Int32} (hg : inb i 60 = true) (hdg : decode cc pc = .ok (.caload, 1)) (kk : W p l e R s m args below meth c H locs cells slots Q (F0 m (pc + 1) ls (.int (h 38 i.toNatClampNeg) :: rest))) : W p l e R s m args below meth c H locs cells slots Q (F0 m pc ls (.int i :: .ref (ad 38) :: rest)) :=
  u_cald C hP (by decide) cE_aC hg hdg kk
theorem cv_X0_34 {p : Program} {l : Launch} {e : Env} {R : Room} {s : State} {m : MethodId} {args : Array Value} {below : List Frame} {meth : Method} {c : Code} {H : Heap} {locs : List Loc} {Q : State → Prop} {cc : ByteArray} {nL : Nat} {ret : Option FieldType} {pc : Nat} {ls : Array Slot} {rest : List Value} {D : va_G} {ids : Nat → ClassId} {ad tt : Nat → Nat} {h : Hp} (hA : adOk ad 59) (C : CX p s m args meth c cc nL ret RX0 D ids) (hX : (ExC tt ad) s s.heap) (hP : wp D (cEC ids ad) ad 59 h H) (hS : va_S (inW ad 59) s.heap H locs) {k2 : Nat} (hk2 : isX5 k2) {a1 : Int32} {rv : Int32 × Hp} (hf : f_X0_takes h k2 a1 = some rv) (hR : 4 + 1 ≤ R.frames ∧ 8 + (3 + 11) + 88 ≤ R.locals) (hsz : ls.size = nL) (hcat : (rest.map fun v => v.category).sum ≤ 8) (hdg : decode cc pc = .ok (.invokevirtual 34, 3)) (kk : ∀ (H1 : Heap) (locs1 : List Loc), wp D (cEC ids ad) ad 59 rv.2 H1 → va_S (inW ad 59) s.heap H1 locs1 → W p l e R s m args below meth c H1 locs1 0 0 Q (F0 m (pc + 3) ls (.int rv.1 :: rest))) : W p l e R s m args below meth c H locs 0 0 Q (F0 m pc ls (.ref (ad k2) :: .int a1 :: .ref (ad 37) :: rest)) :=
  u_callV (As := [.int a1, .ref (ad k2)]) (rv := (some (.int rv.1))) C (exC_ok hA) hX (c_X0_takes l D ids ad tt hA hk2 hf) q_199 q_200 q_201 q_22 q_202 ⟨rfl, rfl⟩ (by refine ⟨by decide +kernel, by decide +kernel, ?_⟩; show _ = some 2; decide +kernel) hR (by decide) (cE_X0 _) rfl hP hS hsz hcat rfl hdg kk
abbrev rm_X0_readInto : Room := { frames := 5, cells := 0, slots := 0, locals := 110 }
set_option maxRecDepth 100000 in
set_option maxHeartbeats 4000000 in
theorem w_X0_readInto_51 {p : Program} {l : Launch} {e : Env} {s : State} {m : MethodId} {args : Array Value} {below : List Frame} {meth : Method} {c : Code} {D : va_G} {ids : Nat → ClassId} {ad tt : Nat → Nat} {rv : Int32 × Hp} (hA : adOk ad 59) (C : CX p s m args meth c cX0_readInto 3 (some .int) RX0 D ids) (hX : (ExC tt ad) s s.heap) {k1 : Nat} (hk1 : isX5 k1) : ∀ (h : Hp) (H : Heap) (locs : List Loc) (ls : Array Slot), f_X0_readInto_51 k1 h = some rv → wp D (cEC ids ad) ad 59 h H → va_S (inW ad 59) s.heap H locs → lv_has ls 3 [(0, .ref (ad 37))] → W p l e rm_X0_readInto s m args below meth c H locs 0 0 (MQ below (QW D (cEC ids ad) ad 59 (some (.int rv.1)) rv.2) args s 0 0 (inW ad 59)) (F0 m 51 ls []) := by
  intro h H locs ls hf hP hS hl
  unfold f_X0_readInto_51 at hf
  refine lv_aload_n C.1 C.2.1 dX0_readInto_51 rfl (lv_at hl 0 rfl) ?_
  refine gf_X0_22 C hP dX0_readInto_52 ?_
  refine lv_iconst (v := (4 : Int32)) C.1 C.2.1 dX0_readInto_55 (by decide) ?_
  refine lv_icmp_ne (tgt := 64) C.1 C.2.1 dX0_readInto_56 (by decide) (fun hc => ?_) (fun hc => ?_)
  · have hf := g_f hc hf
    refine lv_aload_n C.1 C.2.1 dX0_readInto_64 rfl (lv_at hl 0 rfl) ?_
    refine gf_X0_15 C hP dX0_readInto_65 ?_
    obtain rfl := Option.some.inj hf
    exact u_iret C hP hS dX0_readInto_68
  · have hf := g_t hc hf
    refine lv_bipush (v := (-5 : Int32)) C.1 C.2.1 dX0_readInto_59 (by decide) ?_
    refine lv_goto (tgt := 68) C.1 C.2.1 dX0_readInto_61 (by decide) ?_
    obtain rfl := Option.some.inj hf
    exact u_iret C hP hS dX0_readInto_68
set_option maxRecDepth 100000 in
set_option maxHeartbeats 4000000 in
theorem w_X0_readInto_12 {p : Program} {l : Launch} {e : Env} {s : State} {m : MethodId} {args : Array Value} {below : List Frame} {meth : Method} {c : Code} {D : va_G} {ids : Nat → ClassId} {ad tt : Nat → Nat} {rv : Int32 × Hp} (hA : adOk ad 59) (C : CX p s m args meth c cX0_readInto 3 (some .int) RX0 D ids) (hX : (ExC tt ad) s s.heap) {k1 : Nat} (hk1 : isX5 k1) : ∀ (fu : Nat), ∀ (h : Hp) (x2 : Int32) (H : Heap) (locs : List Loc) (ls : Array Slot), f_X0_readInto_12 k1 fu h x2 = some rv → wp D (cEC ids ad) ad 59 h H → va_S (inW ad 59) s.heap H locs → lv_has ls 3 [(0, .ref (ad 37)), (1, .ref (ad k1)), (2, .int x2)] → W p l e rm_X0_readInto s m args below meth c H locs 0 0 (MQ below (QW D (cEC ids ad) ad 59 (some (.int rv.1)) rv.2) args s 0 0 (inW ad 59)) (F0 m 12 ls []) := by
  intro fu
  induction fu with
  | zero =>
    intro h x2 H locs ls hf hP hS hl
    cases hf
  | succ fu ih =>
    intro h x2 H locs ls hf hP hS hl
    rw [f_X0_readInto_12_s] at hf
    refine lv_iload_n C.1 C.2.1 dX0_readInto_12 rfl (lv_at hl 2 rfl) ?_
    refine lv_aload_n C.1 C.2.1 dX0_readInto_13 rfl (lv_at hl 0 rfl) ?_
    refine gf_X0_15 C hP dX0_readInto_14 ?_
    refine lv_icmp_ge (tgt := 51) C.1 C.2.1 dX0_readInto_17 (by decide) (fun hc => ?_) (fun hc => ?_)
    · have hf := g_t hc hf
      exact w_X0_readInto_51 hA C hX hk1 _ _ _ _ hf hP hS (lv_sub hl [0] rfl)
    · have hf := g_f hc hf
      refine lv_iload_n C.1 C.2.1 dX0_readInto_20 rfl (lv_at hl 2 rfl) ?_
      refine lv_aload_n C.1 C.2.1 dX0_readInto_21 rfl (lv_at hl 0 rfl) ?_
      refine gf_X0_9 C hP dX0_readInto_22 ?_
      refine ln_aC C hP dX0_readInto_25 ?_
      refine lv_icmp_ge (tgt := 51) C.1 C.2.1 dX0_readInto_26 (by decide) (fun hc => ?_) (fun hc => ?_)
      · have hf := g_t hc hf
        exact w_X0_readInto_51 hA C hX hk1 _ _ _ _ hf hP hS (lv_sub hl [0] rfl)
      · have hf := g_f hc hf
        refine lv_aload_n C.1 C.2.1 dX0_readInto_29 rfl (lv_at hl 0 rfl) ?_
        refine lv_aload_n C.1 C.2.1 dX0_readInto_30 rfl (lv_at hl 0 rfl) ?_
        refine gf_X0_9 C hP dX0_readInto_31 ?_
        refine lv_iload_n C.1 C.2.1 dX0_readInto_34 rfl (lv_at hl 2 rfl) ?_
        obtain ⟨hg, hf⟩ := g_if hf
        refine al_aC C hP hg dX0_readInto_35 ?_
        refine lv_aload_n C.1 C.2.1 dX0_readInto_36 rfl (lv_at hl 1 rfl) ?_
        obtain ⟨q1, eq1, hf⟩ := g_b hf
        refine cv_X0_34 hA C hX hP hS hk1 eq1 ⟨Nat.le_of_ble_eq_true rfl, Nat.le_of_ble_eq_true rfl⟩ hl.1 (Nat.le_of_ble_eq_true rfl) dX0_readInto_37 (fun H locs hP hS => ?_)
        refine lv_if_ne (tgt := 45) C.1 C.2.1 dX0_readInto_40 (by decide) (fun hc => ?_) (fun hc => ?_)
        · have hf := g_f hc hf
          refine lv_iinc (v := (x2 + 1)) (lv' := [(2, .int (x2 + 1)), (0, .ref (ad 37)), (1, .ref (ad k1))]) C.1 C.2.1 dX0_readInto_45 hl (k := 2) rfl (by rfl) (by decide) rfl (fun ls hl => ?_)
          refine lv_goto (tgt := 12) C.1 C.2.1 dX0_readInto_48 (by decide) ?_
          exact ih _ _ _ _ _ hf hP hS (lv_sub hl [1, 2, 0] rfl)
        · have hf := g_t hc hf
          refine lv_iload_n C.1 C.2.1 dX0_readInto_43 rfl (lv_at hl 2 rfl) ?_
          obtain rfl := Option.some.inj hf
          exact u_iret C hP hS dX0_readInto_44
set_option maxRecDepth 100000 in
set_option maxHeartbeats 4000000 in
theorem w_X0_readInto_10 {p : Program} {l : Launch} {e : Env} {s : State} {m : MethodId} {args : Array Value} {below : List Frame} {meth : Method} {c : Code} {D : va_G} {ids : Nat → ClassId} {ad tt : Nat → Nat} {rv : Int32 × Hp} (hA : adOk ad 59) (C : CX p s m args meth c cX0_readInto 3 (some .int) RX0 D ids) (hX : (ExC tt ad) s s.heap) {k1 : Nat} (hk1 : isX5 k1) : ∀ (h : Hp) (H : Heap) (locs : List Loc) (ls : Array Slot), f_X0_readInto_10 k1 h = some rv → wp D (cEC ids ad) ad 59 h H → va_S (inW ad 59) s.heap H locs → lv_has ls 3 [(0, .ref (ad 37)), (1, .ref (ad k1))] → W p l e rm_X0_readInto s m args below meth c H locs 0 0 (MQ below (QW D (cEC ids ad) ad 59 (some (.int rv.1)) rv.2) args s 0 0 (inW ad 59)) (F0 m 10 ls []) := by
  intro h H locs ls hf hP hS hl
  unfold f_X0_readInto_10 at hf
  refine lv_iconst (v := (0 : Int32)) C.1 C.2.1 dX0_readInto_10 (by decide) ?_
  refine lv_istore_n (lv' := [(2, .int (0 : Int32)), (0, .ref (ad 37)), (1, .ref (ad k1))]) C.1 C.2.1 dX0_readInto_11 rfl hl (by decide) rfl (fun ls hl => ?_)
  exact w_X0_readInto_12 hA C hX hk1 _ _ _ _ _ _ hf hP hS (lv_sub hl [1, 2, 0] rfl)
set_option maxRecDepth 100000 in
set_option maxHeartbeats 4000000 in
theorem w_X0_readInto {p : Program} {l : Launch} {e : Env} {s : State} {m : MethodId} {args : Array Value} {below : List Frame} {meth : Method} {c : Code} {D : va_G} {ids : Nat → ClassId} {ad tt : Nat → Nat} {rv : Int32 × Hp} (hA : adOk ad 59) (C : CX p s m args meth c cX0_readInto 3 (some .int) RX0 D ids) (hX : (ExC tt ad) s s.heap) {k1 : Nat} (hk1 : isX5 k1) : ∀ (h : Hp) (H : Heap) (locs : List Loc) (ls : Array Slot), f_X0_readInto h k1 = some rv → wp D (cEC ids ad) ad 59 h H → va_S (inW ad 59) s.heap H locs → lv_has ls 3 [(0, .ref (ad 37)), (1, .ref (ad k1))] → W p l e rm_X0_readInto s m args below meth c H locs 0 0 (MQ below (QW D (cEC ids ad) ad 59 (some (.int rv.1)) rv.2) args s 0 0 (inW ad 59)) (F0 m 0 ls []) := by
  intro h H locs ls hf hP hS hl
  unfold f_X0_readInto at hf
  refine lv_aload_n C.1 C.2.1 dX0_readInto_0 rfl (lv_at hl 0 rfl) ?_
  refine lv_iconst (v := (0 : Int32)) C.1 C.2.1 dX0_readInto_1 (by decide) ?_
  refine pf_X0_22 hA C hP hS dX0_readInto_2 (fun H locs hP hS => ?_)
  refine lv_aload_n C.1 C.2.1 dX0_readInto_5 rfl (lv_at hl 0 rfl) ?_
  refine lv_iconst (v := (0 : Int32)) C.1 C.2.1 dX0_readInto_6 (by decide) ?_
  refine pf_X0_19 hA C hP hS dX0_readInto_7 (fun H locs hP hS => ?_)
  exact w_X0_readInto_10 hA C hX hk1 _ _ _ _ hf hP hS (lv_sub hl [0, 1] rfl)
theorem c_X0_readInto (l : Launch) (D : va_G) (ids : Nat → ClassId) (ad tt : Nat → Nat) (hA : adOk ad 59) {k1 : Nat} (hk1 : isX5 k1) {h : Hp} {rv : Int32 × Hp} (hf : f_X0_readInto h k1 = some rv) : Met l yX0_readInto (ws_ yX0_readInto cX0_readInto 3 (some .int)) rm_X0_readInto (va_Pc [.ref (ad 37), .ref (ad k1)] (WB D ids (cEC ids ad) ad 59 (ExC tt ad) h)) (QW D (cEC ids ad) ad 59 (some (.int rv.1)) rv.2) 0 0 (inW ad 59) :=
  u_met (own := RX0) (by decide) rfl (Nat.le_of_ble_eq_true rfl) rfl (fun p e s m args below meth c H ls C hX hP hS hl => w_X0_readInto (tt := tt) hA C hX hk1 _ _ _ _ hf hP hS hl)
theorem gf_X7_38 {p : Program} {l : Launch} {e : Env} {R : Room} {s : State} {m : MethodId} {args : Array Value} {below : List Frame} {meth : Method} {c : Code} {H : Heap} {locs : List Loc} {cells slots : Nat} {Q : State → Prop} {cc : ByteArray} {nL : Nat} {ret : Option FieldType} {pc : Nat} {ls : Array Slot} {rest : List Value} {D : va_G} {ids : Nat → ClassId} {ad : Nat → Nat} {h : Hp} (C : CX p s m args meth c cc nL ret RX7 D ids) (hP : wp D (cEC ids ad) ad 59 h H) (hdg : decode cc pc = .ok (.getfield 38, 3)) (kk : W p l e R s m args below meth c H locs cells slots Q (F0 m (pc + 3) ls (.ref (ad 31) :: rest))) : W p l e R s m args below meth c H locs cells slots Q (F0 m pc ls (.ref (ad 0) :: rest)) :=
  u_get C hP (by decide) cE_X7 rfl inX7 6 (by decide) rfl q_24 hdg kk
theorem gf_X7_34 {p : Program} {l : Launch} {e : Env} {R : Room} {s : State} {m : MethodId} {args : Array Value} {below : List Frame} {meth : Method} {c : Code} {H : Heap} {locs : List Loc} {cells slots : Nat} {Q : State → Prop} {cc : ByteArray} {nL : Nat} {ret : Option FieldType} {pc : Nat} {ls : Array Slot} {rest : List Value} {D : va_G} {ids : Nat → ClassId} {ad : Nat → Nat} {h : Hp} (C : CX p s m args meth c cc nL ret RX7 D ids) (hP : wp D (cEC ids ad) ad 59 h H) (hdg : decode cc pc = .ok (.getfield 34, 3)) (kk : W p l e R s m args below meth c H locs cells slots Q (F0 m (pc + 3) ls (.ref (ad 37) :: rest))) : W p l e R s m args below meth c H locs cells slots Q (F0 m pc ls (.ref (ad 0) :: rest)) :=
  u_get C hP (by decide) cE_X7 rfl inX7 5 (by decide) rfl q_23 hdg kk
theorem cv_X7_84 {p : Program} {l : Launch} {e : Env} {R : Room} {s : State} {m : MethodId} {args : Array Value} {below : List Frame} {meth : Method} {c : Code} {H : Heap} {locs : List Loc} {Q : State → Prop} {cc : ByteArray} {nL : Nat} {ret : Option FieldType} {pc : Nat} {ls : Array Slot} {rest : List Value} {D : va_G} {ids : Nat → ClassId} {ad tt : Nat → Nat} {h : Hp} (hA : adOk ad 59) (C : CX p s m args meth c cc nL ret RX7 D ids) (hX : (ExC tt ad) s s.heap) (hP : wp D (cEC ids ad) ad 59 h H) (hS : va_S (inW ad 59) s.heap H locs) {k1 : Nat} (hk1 : isX5 k1) {rv : Int32 × Hp} (hf : f_X0_readInto h k1 = some rv) (hR : 5 + 1 ≤ R.frames ∧ 8 + (3 + 11) + 110 ≤ R.locals) (hsz : ls.size = nL) (hcat : (rest.map fun v => v.category).sum ≤ 8) (hdg : decode cc pc = .ok (.invokevirtual 84, 3)) (kk : ∀ (H1 : Heap) (locs1 : List Loc), wp D (cEC ids ad) ad 59 rv.2 H1 → va_S (inW ad 59) s.heap H1 locs1 → W p l e R s m args below meth c H1 locs1 0 0 Q (F0 m (pc + 3) ls (.int rv.1 :: rest))) : W p l e R s m args below meth c H locs 0 0 Q (F0 m pc ls (.ref (ad k1) :: .ref (ad 37) :: rest)) :=
  u_callV (As := [.ref (ad k1)]) (rv := (some (.int rv.1))) C (exC_ok hA) hX (c_X0_readInto l D ids ad tt hA hk1 hf) q_195 q_196 q_197 q_22 q_198 ⟨rfl, rfl⟩ (by refine ⟨by decide +kernel, by decide +kernel, ?_⟩; show _ = some 1; decide +kernel) hR (by decide) (cE_X0 _) rfl hP hS hsz hcat rfl hdg kk
theorem gf_X7_88 {p : Program} {l : Launch} {e : Env} {R : Room} {s : State} {m : MethodId} {args : Array Value} {below : List Frame} {meth : Method} {c : Code} {H : Heap} {locs : List Loc} {cells slots : Nat} {Q : State → Prop} {cc : ByteArray} {nL : Nat} {ret : Option FieldType} {pc : Nat} {ls : Array Slot} {rest : List Value} {D : va_G} {ids : Nat → ClassId} {ad : Nat → Nat} {h : Hp} (C : CX p s m args meth c cc nL ret RX7 D ids) (hP : wp D (cEC ids ad) ad 59 h H) (hdg : decode cc pc = .ok (.getfield 88, 3)) (kk : W p l e R s m args below meth c H locs cells slots Q (F0 m (pc + 3) ls (.int (h 37 2) :: rest))) : W p l e R s m args below meth c H locs cells slots Q (F0 m pc ls (.ref (ad 37) :: rest)) :=
  u_get C hP (by decide) cE_X0 rfl inX0 2 (by decide) rfl q_194 hdg kk
abbrev rm_X7_captains : Room := { frames := 6, cells := 0, slots := 0, locals := 132 }
set_option maxRecDepth 100000 in
set_option maxHeartbeats 4000000 in
theorem w_X7_captains {p : Program} {l : Launch} {e : Env} {s : State} {m : MethodId} {args : Array Value} {below : List Frame} {meth : Method} {c : Code} {D : va_G} {ids : Nat → ClassId} {ad tt : Nat → Nat} {rv : Int32 × Hp} (hA : adOk ad 59) (C : CX p s m args meth c cX7_captains 2 (some .int) RX7 D ids) (hX : (ExC tt ad) s s.heap) : ∀ (h : Hp) (H : Heap) (locs : List Loc) (ls : Array Slot), f_X7_captains h = some rv → wp D (cEC ids ad) ad 59 h H → va_S (inW ad 59) s.heap H locs → lv_has ls 2 [(0, .ref (ad 0))] → W p l e rm_X7_captains s m args below meth c H locs 0 0 (MQ below (QW D (cEC ids ad) ad 59 (some (.int rv.1)) rv.2) args s 0 0 (inW ad 59)) (F0 m 0 ls []) := by
  intro h H locs ls hf hP hS hl
  unfold f_X7_captains at hf
  refine lv_aload_n C.1 C.2.1 dX7_captains_0 rfl (lv_at hl 0 rfl) ?_
  refine gf_X7_38 C hP dX7_captains_1 ?_
  refine lv_aload_n C.1 C.2.1 dX7_captains_4 rfl (lv_at hl 0 rfl) ?_
  refine gf_X7_12 C hP dX7_captains_5 ?_
  obtain ⟨q1, eq1, hf⟩ := g_b hf
  refine cv_X7_80 hA C hX hP hS pX5_31 pX5_1 eq1 ⟨Nat.le_of_ble_eq_true rfl, Nat.le_of_ble_eq_true rfl⟩ hl.1 (Nat.le_of_ble_eq_true rfl) dX7_captains_8 (fun H locs hP hS => ?_)
  refine lv_aload_n C.1 C.2.1 dX7_captains_11 rfl (lv_at hl 0 rfl) ?_
  refine gf_X7_34 C hP dX7_captains_12 ?_
  refine lv_aload_n C.1 C.2.1 dX7_captains_15 rfl (lv_at hl 0 rfl) ?_
  refine gf_X7_38 C hP dX7_captains_16 ?_
  obtain ⟨q2, eq2, hf⟩ := g_b hf
  refine cv_X7_84 hA C hX hP hS pX5_31 eq2 ⟨Nat.le_of_ble_eq_true rfl, Nat.le_of_ble_eq_true rfl⟩ hl.1 (Nat.le_of_ble_eq_true rfl) dX7_captains_19 (fun H locs hP hS => ?_)
  refine lv_istore_n (lv' := [(1, .int q2.1), (0, .ref (ad 0))]) C.1 C.2.1 dX7_captains_22 rfl hl (by decide) rfl (fun ls hl => ?_)
  refine lv_iload_n C.1 C.2.1 dX7_captains_23 rfl (lv_at hl 0 rfl) ?_
  refine lv_bipush (v := (-5 : Int32)) C.1 C.2.1 dX7_captains_24 (by decide) ?_
  refine lv_icmp_eq (tgt := 34) C.1 C.2.1 dX7_captains_26 (by decide) (fun hc => ?_) (fun hc => ?_)
  · have hf := g_t hc hf
    refine lv_aload_n C.1 C.2.1 dX7_captains_34 rfl (lv_at hl 1 rfl) ?_
    obtain ⟨q3, eq3, hf⟩ := g_b hf
    refine cv_X7_73 hA C hX hP hS eq3 ⟨Nat.le_of_ble_eq_true rfl, Nat.le_of_ble_eq_true rfl⟩ hl.1 (Nat.le_of_ble_eq_true rfl) dX7_captains_35 (fun H locs hP hS => ?_)
    refine lv_aload_n C.1 C.2.1 dX7_captains_38 rfl (lv_at hl 1 rfl) ?_
    refine gf_X7_12 C hP dX7_captains_39 ?_
    refine lv_aload_n C.1 C.2.1 dX7_captains_42 rfl (lv_at hl 1 rfl) ?_
    refine gf_X7_38 C hP dX7_captains_43 ?_
    obtain ⟨q4, eq4, hf⟩ := g_b hf
    refine cv_X7_80 hA C hX hP hS pX5_1 pX5_31 eq4 ⟨Nat.le_of_ble_eq_true rfl, Nat.le_of_ble_eq_true rfl⟩ hl.1 (Nat.le_of_ble_eq_true rfl) dX7_captains_46 (fun H locs hP hS => ?_)
    refine lv_aload_n C.1 C.2.1 dX7_captains_49 rfl (lv_at hl 1 rfl) ?_
    refine gf_X7_34 C hP dX7_captains_50 ?_
    refine gf_X7_88 C hP dX7_captains_53 ?_
    obtain rfl := Option.some.inj hf
    exact u_iret C hP hS dX7_captains_56
  · have hf := g_f hc hf
    refine lv_bipush (v := (-100 : Int32)) C.1 C.2.1 dX7_captains_29 (by decide) ?_
    refine lv_iload_n C.1 C.2.1 dX7_captains_31 rfl (lv_at hl 0 rfl) ?_
    refine lv_isub C.1 C.2.1 dX7_captains_32 ?_
    obtain rfl := Option.some.inj hf
    exact u_iret C hP hS dX7_captains_33
theorem c_X7_captains (l : Launch) (D : va_G) (ids : Nat → ClassId) (ad tt : Nat → Nat) (hA : adOk ad 59) {h : Hp} {rv : Int32 × Hp} (hf : f_X7_captains h = some rv) : Met l yX7_captains (ws_ yX7_captains cX7_captains 2 (some .int)) rm_X7_captains (va_Pc [.ref (ad 0)] (WB D ids (cEC ids ad) ad 59 (ExC tt ad) h)) (QW D (cEC ids ad) ad 59 (some (.int rv.1)) rv.2) 0 0 (inW ad 59) :=
  u_met (own := RX7) (by decide) rfl (Nat.le_of_ble_eq_true rfl) rfl (fun p e s m args below meth c H ls C hX hP hS hl => w_X7_captains (tt := tt) hA C hX _ _ _ _ hf hP hS hl)
theorem gf_X7_91 {p : Program} {l : Launch} {e : Env} {R : Room} {s : State} {m : MethodId} {args : Array Value} {below : List Frame} {meth : Method} {c : Code} {H : Heap} {locs : List Loc} {cells slots : Nat} {Q : State → Prop} {cc : ByteArray} {nL : Nat} {ret : Option FieldType} {pc : Nat} {ls : Array Slot} {rest : List Value} {D : va_G} {ids : Nat → ClassId} {ad : Nat → Nat} {h : Hp} (C : CX p s m args meth c cc nL ret RX7 D ids) {k : Nat} (hk : isX5 k) (hP : wp D (cEC ids ad) ad 59 h H) (hdg : decode cc pc = .ok (.getfield 91, 3)) (kk : W p l e R s m args below meth c H locs cells slots Q (F0 m (pc + 3) ls (.int (h k 3) :: rest))) : W p l e R s m args below meth c H locs cells slots Q (F0 m pc ls (.ref (ad k) :: rest)) :=
  u_get C hP (lt_X5 hk) (cE_X5 hk) rfl inX5 3 (by decide) rfl q_265 hdg kk
theorem pf_X7_91 {p : Program} {l : Launch} {e : Env} {R : Room} {s : State} {m : MethodId} {args : Array Value} {below : List Frame} {meth : Method} {c : Code} {H : Heap} {locs : List Loc} {cells slots : Nat} {Q : State → Prop} {cc : ByteArray} {nL : Nat} {ret : Option FieldType} {pc : Nat} {ls : Array Slot} {rest : List Value} {D : va_G} {ids : Nat → ClassId} {ad : Nat → Nat} {h : Hp} {x : Int32} (hA : adOk ad 59) (C : CX p s m args meth c cc nL ret RX7 D ids) {k : Nat} (hk : isX5 k) (hP : wp D (cEC ids ad) ad 59 h H) (hS : va_S (inW ad 59) s.heap H locs) (hdg : decode cc pc = .ok (.putfield 91, 3)) (kk : ∀ (H1 : Heap) (locs1 : List Loc), wp D (cEC ids ad) ad 59 (hs h k 3 x) H1 → va_S (inW ad 59) s.heap H1 locs1 → W p l e R s m args below meth c H1 locs1 cells slots Q (F0 m (pc + 3) ls rest)) : W p l e R s m args below meth c H locs cells slots Q (F0 m pc ls (.int x :: .ref (ad k) :: rest)) :=
  u_put hA C hP hS (lt_X5 hk) (cE_X5 hk) rfl inX5 tyX5 tyX5_ok nmX5 3 (by decide) rfl q_265 rfl (ty := .int) rfl rfl rfl hdg kk
abbrev rm_X7_truth : Room := { frames := 3, cells := 0, slots := 0, locals := 65 }
set_option maxRecDepth 100000 in
set_option maxHeartbeats 4000000 in
theorem w_X7_truth {p : Program} {l : Launch} {e : Env} {s : State} {m : MethodId} {args : Array Value} {below : List Frame} {meth : Method} {c : Code} {D : va_G} {ids : Nat → ClassId} {ad tt : Nat → Nat} {rv : Int32 × Hp} (hA : adOk ad 59) (C : CX p s m args meth c cX7_truth 3 (some .int) RX7 D ids) (hX : (ExC tt ad) s s.heap) : ∀ (h : Hp) (a1 : Int32) (H : Heap) (locs : List Loc) (ls : Array Slot), f_X7_truth h a1 = some rv → wp D (cEC ids ad) ad 59 h H → va_S (inW ad 59) s.heap H locs → lv_has ls 3 [(0, .ref (ad 0)), (1, .int a1)] → W p l e rm_X7_truth s m args below meth c H locs 0 0 (MQ below (QW D (cEC ids ad) ad 59 (some (.int rv.1)) rv.2) args s 0 0 (inW ad 59)) (F0 m 0 ls []) := by
  intro h a1 H locs ls hf hP hS hl
  unfold f_X7_truth at hf
  refine lv_iload_n C.1 C.2.1 dX7_truth_0 rfl (lv_at hl 1 rfl) ?_
  refine lv_if_lt (tgt := 10) C.1 C.2.1 dX7_truth_1 (by decide) (fun hc => ?_) (fun hc => ?_)
  · have hf := g_t hc hf
    refine lv_bipush (v := (-2 : Int32)) C.1 C.2.1 dX7_truth_10 (by decide) ?_
    obtain rfl := Option.some.inj hf
    exact u_iret C hP hS dX7_truth_12
  · have hf := g_f hc hf
    refine lv_iload_n C.1 C.2.1 dX7_truth_4 rfl (lv_at hl 1 rfl) ?_
    refine lv_bipush (v := (12 : Int32)) C.1 C.2.1 dX7_truth_5 (by decide) ?_
    refine lv_icmp_lt (tgt := 13) C.1 C.2.1 dX7_truth_7 (by decide) (fun hc => ?_) (fun hc => ?_)
    · have hf := g_t hc hf
      refine lv_aload_n C.1 C.2.1 dX7_truth_13 rfl (lv_at hl 0 rfl) ?_
      refine gf_X7_12 C hP dX7_truth_14 ?_
      refine gf_X7_91 C pX5_1 hP dX7_truth_17 ?_
      refine lv_istore_n (lv' := [(2, .int (h 1 3)), (0, .ref (ad 0)), (1, .int a1)]) C.1 C.2.1 dX7_truth_20 rfl hl (by decide) rfl (fun ls hl => ?_)
      refine lv_iload_n C.1 C.2.1 dX7_truth_21 rfl (lv_at hl 0 rfl) ?_
      refine lv_iload_n C.1 C.2.1 dX7_truth_22 rfl (lv_at hl 2 rfl) ?_
      refine lv_icmp_ne (tgt := 29) C.1 C.2.1 dX7_truth_23 (by decide) (fun hc => ?_) (fun hc => ?_)
      · have hf := g_f hc hf
        refine lv_aload_n C.1 C.2.1 dX7_truth_29 rfl (lv_at hl 1 rfl) ?_
        obtain ⟨q1, eq1, hf⟩ := g_b hf
        refine cv_X7_73 hA C hX hP hS eq1 ⟨Nat.le_of_ble_eq_true rfl, Nat.le_of_ble_eq_true rfl⟩ hl.1 (Nat.le_of_ble_eq_true rfl) dX7_truth_30 (fun H locs hP hS => ?_)
        refine lv_aload_n C.1 C.2.1 dX7_truth_33 rfl (lv_at hl 1 rfl) ?_
        refine gf_X7_12 C hP dX7_truth_34 ?_
        refine lv_iload_n C.1 C.2.1 dX7_truth_37 rfl (lv_at hl 2 rfl) ?_
        refine pf_X7_91 hA C pX5_1 hP hS dX7_truth_38 (fun H locs hP hS => ?_)
        refine lv_iload_n C.1 C.2.1 dX7_truth_41 rfl (lv_at hl 0 rfl) ?_
        obtain rfl := Option.some.inj hf
        exact u_iret C hP hS dX7_truth_42
      · have hf := g_t hc hf
        refine lv_bipush (v := (-5 : Int32)) C.1 C.2.1 dX7_truth_26 (by decide) ?_
        obtain rfl := Option.some.inj hf
        exact u_iret C hP hS dX7_truth_28
    · have hf := g_f hc hf
      refine lv_bipush (v := (-2 : Int32)) C.1 C.2.1 dX7_truth_10 (by decide) ?_
      obtain rfl := Option.some.inj hf
      exact u_iret C hP hS dX7_truth_12
theorem c_X7_truth (l : Launch) (D : va_G) (ids : Nat → ClassId) (ad tt : Nat → Nat) (hA : adOk ad 59) {a1 : Int32} {h : Hp} {rv : Int32 × Hp} (hf : f_X7_truth h a1 = some rv) : Met l yX7_truth (ws_ yX7_truth cX7_truth 3 (some .int)) rm_X7_truth (va_Pc [.ref (ad 0), .int a1] (WB D ids (cEC ids ad) ad 59 (ExC tt ad) h)) (QW D (cEC ids ad) ad 59 (some (.int rv.1)) rv.2) 0 0 (inW ad 59) :=
  u_met (own := RX7) (by decide) rfl (Nat.le_of_ble_eq_true rfl) rfl (fun p e s m args below meth c H ls C hX hP hS hl => w_X7_truth (tt := tt) hA C hX _ _ _ _ _ hf hP hS hl)
abbrev rm_X5_tellSetting : Room := { frames := 0, cells := 0, slots := 0, locals := 0 }
set_option maxRecDepth 100000 in
set_option maxHeartbeats 4000000 in
theorem w_X5_tellSetting {p : Program} {l : Launch} {e : Env} {s : State} {m : MethodId} {args : Array Value} {below : List Frame} {meth : Method} {c : Code} {D : va_G} {ids : Nat → ClassId} {ad tt : Nat → Nat} {rv : Int32 × Hp} (hA : adOk ad 59) (C : CX p s m args meth c cX5_tellSetting 2 (some .int) RX5 D ids) (hX : (ExC tt ad) s s.heap) {k : Nat} (hk : isX5 k) : ∀ (h : Hp) (a1 : Int32) (H : Heap) (locs : List Loc) (ls : Array Slot), f_X5_tellSetting h k a1 = some rv → wp D (cEC ids ad) ad 59 h H → va_S (inW ad 59) s.heap H locs → lv_has ls 2 [(0, .ref (ad k)), (1, .int a1)] → W p l e rm_X5_tellSetting s m args below meth c H locs 0 0 (MQ below (QW D (cEC ids ad) ad 59 (some (.int rv.1)) rv.2) args s 0 0 (inW ad 59)) (F0 m 0 ls []) := by
  intro h a1 H locs ls hf hP hS hl
  unfold f_X5_tellSetting at hf
  refine lv_iload_n C.1 C.2.1 dX5_tellSetting_0 rfl (lv_at hl 1 rfl) ?_
  refine lv_if_ne (tgt := 11) C.1 C.2.1 dX5_tellSetting_1 (by decide) (fun hc => ?_) (fun hc => ?_)
  · have hf := g_f hc hf
    refine lv_aload_n C.1 C.2.1 dX5_tellSetting_11 rfl (lv_at hl 0 rfl) ?_
    refine gf_X5_24 C hk hP dX5_tellSetting_12 ?_
    obtain rfl := Option.some.inj hf
    exact u_iret C hP hS dX5_tellSetting_15
  · have hf := g_t hc hf
    refine lv_aload_n C.1 C.2.1 dX5_tellSetting_4 rfl (lv_at hl 0 rfl) ?_
    refine gf_X5_20 C hk hP dX5_tellSetting_5 ?_
    refine lv_goto (tgt := 15) C.1 C.2.1 dX5_tellSetting_8 (by decide) ?_
    obtain rfl := Option.some.inj hf
    exact u_iret C hP hS dX5_tellSetting_15
theorem c_X5_tellSetting (l : Launch) (D : va_G) (ids : Nat → ClassId) (ad tt : Nat → Nat) (hA : adOk ad 59) {k : Nat} (hk : isX5 k) {a1 : Int32} {h : Hp} {rv : Int32 × Hp} (hf : f_X5_tellSetting h k a1 = some rv) : Met l yX5_tellSetting (ws_ yX5_tellSetting cX5_tellSetting 2 (some .int)) rm_X5_tellSetting (va_Pc [.ref (ad k), .int a1] (WB D ids (cEC ids ad) ad 59 (ExC tt ad) h)) (QW D (cEC ids ad) ad 59 (some (.int rv.1)) rv.2) 0 0 (inW ad 59) :=
  u_met (own := RX5) (by decide) rfl (Nat.le_of_ble_eq_true rfl) rfl (fun p e s m args below meth c H ls C hX hP hS hl => w_X5_tellSetting (tt := tt) hA C hX hk _ _ _ _ _ hf hP hS hl)
abbrev rm_X5_changeSetting : Room := { frames := 0, cells := 0, slots := 0, locals := 0 }
set_option maxRecDepth 100000 in
set_option maxHeartbeats 4000000 in
theorem w_X5_changeSetting {p : Program} {l : Launch} {e : Env} {s : State} {m : MethodId} {args : Array Value} {below : List Frame} {meth : Method} {c : Code} {D : va_G} {ids : Nat → ClassId} {ad tt : Nat → Nat} {rv : Hp} (hA : adOk ad 59) (C : CX p s m args meth c cX5_changeSetting 3 none RX5 D ids) (hX : (ExC tt ad) s s.heap) {k : Nat} (hk : isX5 k) : ∀ (h : Hp) (a1 : Int32) (a2 : Int32) (H : Heap) (locs : List Loc) (ls : Array Slot), f_X5_changeSetting h k a1 a2 = some rv → wp D (cEC ids ad) ad 59 h H → va_S (inW ad 59) s.heap H locs → lv_has ls 3 [(0, .ref (ad k)), (1, .int a1), (2, .int a2)] → W p l e rm_X5_changeSetting s m args below meth c H locs 0 0 (MQ below (QW D (cEC ids ad) ad 59 none rv) args s 0 0 (inW ad 59)) (F0 m 0 ls []) := by
  intro h a1 a2 H locs ls hf hP hS hl
  unfold f_X5_changeSetting at hf
  refine lv_iload_n C.1 C.2.1 dX5_changeSetting_0 rfl (lv_at hl 1 rfl) ?_
  refine lv_if_ne (tgt := 12) C.1 C.2.1 dX5_changeSetting_1 (by decide) (fun hc => ?_) (fun hc => ?_)
  · have hf := g_f hc hf
    refine lv_aload_n C.1 C.2.1 dX5_changeSetting_12 rfl (lv_at hl 0 rfl) ?_
    refine lv_iload_n C.1 C.2.1 dX5_changeSetting_13 rfl (lv_at hl 2 rfl) ?_
    refine pf_X5_24 hA C hk hP hS dX5_changeSetting_14 (fun H locs hP hS => ?_)
    obtain rfl := Option.some.inj hf
    exact u_vret C hP hS dX5_changeSetting_17
  · have hf := g_t hc hf
    refine lv_aload_n C.1 C.2.1 dX5_changeSetting_4 rfl (lv_at hl 0 rfl) ?_
    refine lv_iload_n C.1 C.2.1 dX5_changeSetting_5 rfl (lv_at hl 2 rfl) ?_
    refine pf_X5_20 hA C hk hP hS dX5_changeSetting_6 (fun H locs hP hS => ?_)
    refine lv_goto (tgt := 17) C.1 C.2.1 dX5_changeSetting_9 (by decide) ?_
    obtain rfl := Option.some.inj hf
    exact u_vret C hP hS dX5_changeSetting_17
theorem c_X5_changeSetting (l : Launch) (D : va_G) (ids : Nat → ClassId) (ad tt : Nat → Nat) (hA : adOk ad 59) {k : Nat} (hk : isX5 k) {a1 : Int32} {a2 : Int32} {h : Hp} {rv : Hp} (hf : f_X5_changeSetting h k a1 a2 = some rv) : Met l yX5_changeSetting (ws_ yX5_changeSetting cX5_changeSetting 3 none) rm_X5_changeSetting (va_Pc [.ref (ad k), .int a1, .int a2] (WB D ids (cEC ids ad) ad 59 (ExC tt ad) h)) (QW D (cEC ids ad) ad 59 none rv) 0 0 (inW ad 59) :=
  u_met (own := RX5) (by decide) rfl (Nat.le_of_ble_eq_true rfl) rfl (fun p e s m args below meth c H ls C hX hP hS hl => w_X5_changeSetting (tt := tt) hA C hX hk _ _ _ _ _ _ hf hP hS hl)
theorem cv_X7_94 {p : Program} {l : Launch} {e : Env} {R : Room} {s : State} {m : MethodId} {args : Array Value} {below : List Frame} {meth : Method} {c : Code} {H : Heap} {locs : List Loc} {Q : State → Prop} {cc : ByteArray} {nL : Nat} {ret : Option FieldType} {pc : Nat} {ls : Array Slot} {rest : List Value} {D : va_G} {ids : Nat → ClassId} {ad tt : Nat → Nat} {h : Hp} (hA : adOk ad 59) (C : CX p s m args meth c cc nL ret RX7 D ids) (hX : (ExC tt ad) s s.heap) (hP : wp D (cEC ids ad) ad 59 h H) (hS : va_S (inW ad 59) s.heap H locs) {a1 : Int32} {a2 : Int32} {rv : Int32 × Hp} (hf : f_X7_isValueOfSetting h a1 a2 = some rv) (hR : 1 + 1 ≤ R.frames ∧ 8 + (2 + 11) + 23 ≤ R.locals) (hsz : ls.size = nL) (hcat : (rest.map fun v => v.category).sum ≤ 8) (hdg : decode cc pc = .ok (.invokestatic 94, 3)) (kk : ∀ (H1 : Heap) (locs1 : List Loc), wp D (cEC ids ad) ad 59 rv.2 H1 → va_S (inW ad 59) s.heap H1 locs1 → W p l e R s m args below meth c H1 locs1 0 0 Q (F0 m (pc + 3) ls (.int rv.1 :: rest))) : W p l e R s m args below meth c H locs 0 0 Q (F0 m pc ls (.int a2 :: .int a1 :: rest)) :=
  u_callS (As := [.int a1, .int a2]) (rv := (some (.int rv.1))) C (exC_ok hA) hX (c_X7_isValueOfSetting l D ids ad tt hA hf) q_278 q_279 q_2 q_280 ⟨rfl, rfl⟩ (by refine ⟨by decide +kernel, by decide +kernel, ?_⟩; show _ = some 2; decide +kernel) hR hP hS hsz hcat rfl hdg kk
theorem cv_X7_97 {p : Program} {l : Launch} {e : Env} {R : Room} {s : State} {m : MethodId} {args : Array Value} {below : List Frame} {meth : Method} {c : Code} {H : Heap} {locs : List Loc} {Q : State → Prop} {cc : ByteArray} {nL : Nat} {ret : Option FieldType} {pc : Nat} {ls : Array Slot} {rest : List Value} {D : va_G} {ids : Nat → ClassId} {ad tt : Nat → Nat} {h : Hp} (hA : adOk ad 59) (C : CX p s m args meth c cc nL ret RX7 D ids) (hX : (ExC tt ad) s s.heap) (hP : wp D (cEC ids ad) ad 59 h H) (hS : va_S (inW ad 59) s.heap H locs) {k : Nat} (hk : isX5 k) {a1 : Int32} {rv : Int32 × Hp} (hf : f_X5_tellSetting h k a1 = some rv) (hR : 0 + 1 ≤ R.frames ∧ 8 + (2 + 11) + 0 ≤ R.locals) (hsz : ls.size = nL) (hcat : (rest.map fun v => v.category).sum ≤ 8) (hdg : decode cc pc = .ok (.invokevirtual 97, 3)) (kk : ∀ (H1 : Heap) (locs1 : List Loc), wp D (cEC ids ad) ad 59 rv.2 H1 → va_S (inW ad 59) s.heap H1 locs1 → W p l e R s m args below meth c H1 locs1 0 0 Q (F0 m (pc + 3) ls (.int rv.1 :: rest))) : W p l e R s m args below meth c H locs 0 0 Q (F0 m pc ls (.int a1 :: .ref (ad k) :: rest)) :=
  u_callV (As := [.int a1]) (rv := (some (.int rv.1))) C (exC_ok hA) hX (c_X5_tellSetting l D ids ad tt hA hk hf) q_283 q_284 q_285 q_14 q_286 ⟨rfl, rfl⟩ (by refine ⟨by decide +kernel, by decide +kernel, ?_⟩; show _ = some 1; decide +kernel) hR (lt_X5 hk) (cE_X5 hk _) rfl hP hS hsz hcat rfl hdg kk
theorem cv_X7_100 {p : Program} {l : Launch} {e : Env} {R : Room} {s : State} {m : MethodId} {args : Array Value} {below : List Frame} {meth : Method} {c : Code} {H : Heap} {locs : List Loc} {Q : State → Prop} {cc : ByteArray} {nL : Nat} {ret : Option FieldType} {pc : Nat} {ls : Array Slot} {rest : List Value} {D : va_G} {ids : Nat → ClassId} {ad tt : Nat → Nat} {h : Hp} (hA : adOk ad 59) (C : CX p s m args meth c cc nL ret RX7 D ids) (hX : (ExC tt ad) s s.heap) (hP : wp D (cEC ids ad) ad 59 h H) (hS : va_S (inW ad 59) s.heap H locs) {k : Nat} (hk : isX5 k) {a1 : Int32} {a2 : Int32} {rv : Hp} (hf : f_X5_changeSetting h k a1 a2 = some rv) (hR : 0 + 1 ≤ R.frames ∧ 8 + (3 + 11) + 0 ≤ R.locals) (hsz : ls.size = nL) (hcat : (rest.map fun v => v.category).sum ≤ 8) (hdg : decode cc pc = .ok (.invokevirtual 100, 3)) (kk : ∀ (H1 : Heap) (locs1 : List Loc), wp D (cEC ids ad) ad 59 rv H1 → va_S (inW ad 59) s.heap H1 locs1 → W p l e R s m args below meth c H1 locs1 0 0 Q (F0 m (pc + 3) ls (rest))) : W p l e R s m args below meth c H locs 0 0 Q (F0 m pc ls (.int a2 :: .int a1 :: .ref (ad k) :: rest)) :=
  u_callV (As := [.int a1, .int a2]) (rv := none) C (exC_ok hA) hX (c_X5_changeSetting l D ids ad tt hA hk hf) q_287 q_288 q_289 q_14 q_290 ⟨rfl, rfl⟩ (by refine ⟨by decide +kernel, by decide +kernel, ?_⟩; show _ = some 2; decide +kernel) hR (lt_X5 hk) (cE_X5 hk _) rfl hP hS hsz hcat rfl hdg kk
abbrev rm_X7_set : Room := { frames := 3, cells := 0, slots := 0, locals := 65 }
set_option maxRecDepth 100000 in
set_option maxHeartbeats 4000000 in
theorem w_X7_set {p : Program} {l : Launch} {e : Env} {s : State} {m : MethodId} {args : Array Value} {below : List Frame} {meth : Method} {c : Code} {D : va_G} {ids : Nat → ClassId} {ad tt : Nat → Nat} {rv : Int32 × Hp} (hA : adOk ad 59) (C : CX p s m args meth c cX7_set 4 (some .int) RX7 D ids) (hX : (ExC tt ad) s s.heap) : ∀ (h : Hp) (a1 : Int32) (a2 : Int32) (H : Heap) (locs : List Loc) (ls : Array Slot), f_X7_set h a1 a2 = some rv → wp D (cEC ids ad) ad 59 h H → va_S (inW ad 59) s.heap H locs → lv_has ls 4 [(0, .ref (ad 0)), (1, .int a1), (2, .int a2)] → W p l e rm_X7_set s m args below meth c H locs 0 0 (MQ below (QW D (cEC ids ad) ad 59 (some (.int rv.1)) rv.2) args s 0 0 (inW ad 59)) (F0 m 0 ls []) := by
  intro h a1 a2 H locs ls hf hP hS hl
  unfold f_X7_set at hf
  refine lv_iload_n C.1 C.2.1 dX7_set_0 rfl (lv_at hl 1 rfl) ?_
  refine lv_iload_n C.1 C.2.1 dX7_set_1 rfl (lv_at hl 2 rfl) ?_
  obtain ⟨q1, eq1, hf⟩ := g_b hf
  refine cv_X7_94 hA C hX hP hS eq1 ⟨Nat.le_of_ble_eq_true rfl, Nat.le_of_ble_eq_true rfl⟩ hl.1 (Nat.le_of_ble_eq_true rfl) dX7_set_2 (fun H locs hP hS => ?_)
  refine lv_if_ne (tgt := 11) C.1 C.2.1 dX7_set_5 (by decide) (fun hc => ?_) (fun hc => ?_)
  · have hf := g_f hc hf
    refine lv_aload_n C.1 C.2.1 dX7_set_11 rfl (lv_at hl 0 rfl) ?_
    refine gf_X7_12 C hP dX7_set_12 ?_
    refine lv_iload_n C.1 C.2.1 dX7_set_15 rfl (lv_at hl 1 rfl) ?_
    obtain ⟨q2, eq2, hf⟩ := g_b hf
    refine cv_X7_97 hA C hX hP hS pX5_1 eq2 ⟨Nat.le_of_ble_eq_true rfl, Nat.le_of_ble_eq_true rfl⟩ hl.1 (Nat.le_of_ble_eq_true rfl) dX7_set_16 (fun H locs hP hS => ?_)
    refine lv_istore_n (lv' := [(3, .int q2.1), (0, .ref (ad 0)), (1, .int a1), (2, .int a2)]) C.1 C.2.1 dX7_set_19 rfl hl (by decide) rfl (fun ls hl => ?_)
    refine lv_iload_n C.1 C.2.1 dX7_set_20 rfl (lv_at hl 0 rfl) ?_
    refine lv_iload_n C.1 C.2.1 dX7_set_21 rfl (lv_at hl 3 rfl) ?_
    refine lv_icmp_ne (tgt := 28) C.1 C.2.1 dX7_set_22 (by decide) (fun hc => ?_) (fun hc => ?_)
    · have hf := g_f hc hf
      refine lv_aload_n C.1 C.2.1 dX7_set_28 rfl (lv_at hl 1 rfl) ?_
      obtain ⟨q3, eq3, hf⟩ := g_b hf
      refine cv_X7_73 hA C hX hP hS eq3 ⟨Nat.le_of_ble_eq_true rfl, Nat.le_of_ble_eq_true rfl⟩ hl.1 (Nat.le_of_ble_eq_true rfl) dX7_set_29 (fun H locs hP hS => ?_)
      refine lv_aload_n C.1 C.2.1 dX7_set_32 rfl (lv_at hl 1 rfl) ?_
      refine gf_X7_12 C hP dX7_set_33 ?_
      refine lv_iload_n C.1 C.2.1 dX7_set_36 rfl (lv_at hl 2 rfl) ?_
      refine lv_iload_n C.1 C.2.1 dX7_set_37 rfl (lv_at hl 3 rfl) ?_
      obtain ⟨q4, eq4, hf⟩ := g_b hf
      refine cv_X7_100 hA C hX hP hS pX5_1 eq4 ⟨Nat.le_of_ble_eq_true rfl, Nat.le_of_ble_eq_true rfl⟩ hl.1 (Nat.le_of_ble_eq_true rfl) dX7_set_38 (fun H locs hP hS => ?_)
      refine lv_iload_n C.1 C.2.1 dX7_set_41 rfl (lv_at hl 0 rfl) ?_
      obtain rfl := Option.some.inj hf
      exact u_iret C hP hS dX7_set_42
    · have hf := g_t hc hf
      refine lv_bipush (v := (-5 : Int32)) C.1 C.2.1 dX7_set_25 (by decide) ?_
      obtain rfl := Option.some.inj hf
      exact u_iret C hP hS dX7_set_27
  · have hf := g_t hc hf
    refine lv_bipush (v := (-2 : Int32)) C.1 C.2.1 dX7_set_8 (by decide) ?_
    obtain rfl := Option.some.inj hf
    exact u_iret C hP hS dX7_set_10
theorem c_X7_set (l : Launch) (D : va_G) (ids : Nat → ClassId) (ad tt : Nat → Nat) (hA : adOk ad 59) {a1 : Int32} {a2 : Int32} {h : Hp} {rv : Int32 × Hp} (hf : f_X7_set h a1 a2 = some rv) : Met l yX7_set (ws_ yX7_set cX7_set 4 (some .int)) rm_X7_set (va_Pc [.ref (ad 0), .int a1, .int a2] (WB D ids (cEC ids ad) ad 59 (ExC tt ad) h)) (QW D (cEC ids ad) ad 59 (some (.int rv.1)) rv.2) 0 0 (inW ad 59) :=
  u_met (own := RX7) (by decide) rfl (Nat.le_of_ble_eq_true rfl) rfl (fun p e s m args below meth c H ls C hX hP hS hl => w_X7_set (tt := tt) hA C hX _ _ _ _ _ _ hf hP hS hl)
theorem gf_X7_104 {p : Program} {l : Launch} {e : Env} {R : Room} {s : State} {m : MethodId} {args : Array Value} {below : List Frame} {meth : Method} {c : Code} {H : Heap} {locs : List Loc} {cells slots : Nat} {Q : State → Prop} {cc : ByteArray} {nL : Nat} {ret : Option FieldType} {pc : Nat} {ls : Array Slot} {rest : List Value} {D : va_G} {ids : Nat → ClassId} {ad : Nat → Nat} {h : Hp} (C : CX p s m args meth c cc nL ret RX7 D ids) {k : Nat} (hk : isX5 k) (hP : wp D (cEC ids ad) ad 59 h H) (hdg : decode cc pc = .ok (.getfield 104, 3)) (kk : W p l e R s m args below meth c H locs cells slots Q (F0 m (pc + 3) ls (.int (h k 4) :: rest))) : W p l e R s m args below meth c H locs cells slots Q (F0 m pc ls (.ref (ad k) :: rest)) :=
  u_get C hP (lt_X5 hk) (cE_X5 hk) rfl inX5 4 (by decide) rfl q_300 hdg kk
theorem pf_X7_104 {p : Program} {l : Launch} {e : Env} {R : Room} {s : State} {m : MethodId} {args : Array Value} {below : List Frame} {meth : Method} {c : Code} {H : Heap} {locs : List Loc} {cells slots : Nat} {Q : State → Prop} {cc : ByteArray} {nL : Nat} {ret : Option FieldType} {pc : Nat} {ls : Array Slot} {rest : List Value} {D : va_G} {ids : Nat → ClassId} {ad : Nat → Nat} {h : Hp} {x : Int32} (hA : adOk ad 59) (C : CX p s m args meth c cc nL ret RX7 D ids) {k : Nat} (hk : isX5 k) (hP : wp D (cEC ids ad) ad 59 h H) (hS : va_S (inW ad 59) s.heap H locs) (hdg : decode cc pc = .ok (.putfield 104, 3)) (kk : ∀ (H1 : Heap) (locs1 : List Loc), wp D (cEC ids ad) ad 59 (hs h k 4 x) H1 → va_S (inW ad 59) s.heap H1 locs1 → W p l e R s m args below meth c H1 locs1 cells slots Q (F0 m (pc + 3) ls rest)) : W p l e R s m args below meth c H locs cells slots Q (F0 m pc ls (.int x :: .ref (ad k) :: rest)) :=
  u_put hA C hP hS (lt_X5 hk) (cE_X5 hk) rfl inX5 tyX5 tyX5_ok nmX5 4 (by decide) rfl q_300 rfl (ty := .int) rfl rfl rfl hdg kk
abbrev rm_X7_lot : Room := { frames := 3, cells := 0, slots := 0, locals := 65 }
set_option maxRecDepth 100000 in
set_option maxHeartbeats 4000000 in
theorem w_X7_lot {p : Program} {l : Launch} {e : Env} {s : State} {m : MethodId} {args : Array Value} {below : List Frame} {meth : Method} {c : Code} {D : va_G} {ids : Nat → ClassId} {ad tt : Nat → Nat} {rv : Int32 × Hp} (hA : adOk ad 59) (C : CX p s m args meth c cX7_lot 3 (some .int) RX7 D ids) (hX : (ExC tt ad) s s.heap) : ∀ (h : Hp) (a1 : Int32) (H : Heap) (locs : List Loc) (ls : Array Slot), f_X7_lot h a1 = some rv → wp D (cEC ids ad) ad 59 h H → va_S (inW ad 59) s.heap H locs → lv_has ls 3 [(0, .ref (ad 0)), (1, .int a1)] → W p l e rm_X7_lot s m args below meth c H locs 0 0 (MQ below (QW D (cEC ids ad) ad 59 (some (.int rv.1)) rv.2) args s 0 0 (inW ad 59)) (F0 m 0 ls []) := by
  intro h a1 H locs ls hf hP hS hl
  unfold f_X7_lot at hf
  refine lv_iload_n C.1 C.2.1 dX7_lot_0 rfl (lv_at hl 1 rfl) ?_
  refine lv_if_lt (tgt := 10) C.1 C.2.1 dX7_lot_1 (by decide) (fun hc => ?_) (fun hc => ?_)
  · have hf := g_t hc hf
    refine lv_bipush (v := (-2 : Int32)) C.1 C.2.1 dX7_lot_10 (by decide) ?_
    obtain rfl := Option.some.inj hf
    exact u_iret C hP hS dX7_lot_12
  · have hf := g_f hc hf
    refine lv_iload_n C.1 C.2.1 dX7_lot_4 rfl (lv_at hl 1 rfl) ?_
    refine lv_ldc (v := (65537 : Int32)) C.1 C.2.1 C.2.2.2.2.2.1 (C.2.2.2.2.2.2.1 _ q_299) dX7_lot_5 ?_
    refine lv_icmp_lt (tgt := 13) C.1 C.2.1 dX7_lot_7 (by decide) (fun hc => ?_) (fun hc => ?_)
    · have hf := g_t hc hf
      refine lv_aload_n C.1 C.2.1 dX7_lot_13 rfl (lv_at hl 0 rfl) ?_
      refine gf_X7_12 C hP dX7_lot_14 ?_
      refine gf_X7_104 C pX5_1 hP dX7_lot_17 ?_
      refine lv_istore_n (lv' := [(2, .int (h 1 4)), (0, .ref (ad 0)), (1, .int a1)]) C.1 C.2.1 dX7_lot_20 rfl hl (by decide) rfl (fun ls hl => ?_)
      refine lv_iload_n C.1 C.2.1 dX7_lot_21 rfl (lv_at hl 0 rfl) ?_
      refine lv_iload_n C.1 C.2.1 dX7_lot_22 rfl (lv_at hl 2 rfl) ?_
      refine lv_icmp_ne (tgt := 29) C.1 C.2.1 dX7_lot_23 (by decide) (fun hc => ?_) (fun hc => ?_)
      · have hf := g_f hc hf
        refine lv_aload_n C.1 C.2.1 dX7_lot_29 rfl (lv_at hl 1 rfl) ?_
        obtain ⟨q1, eq1, hf⟩ := g_b hf
        refine cv_X7_73 hA C hX hP hS eq1 ⟨Nat.le_of_ble_eq_true rfl, Nat.le_of_ble_eq_true rfl⟩ hl.1 (Nat.le_of_ble_eq_true rfl) dX7_lot_30 (fun H locs hP hS => ?_)
        refine lv_aload_n C.1 C.2.1 dX7_lot_33 rfl (lv_at hl 1 rfl) ?_
        refine gf_X7_12 C hP dX7_lot_34 ?_
        refine lv_iload_n C.1 C.2.1 dX7_lot_37 rfl (lv_at hl 2 rfl) ?_
        refine pf_X7_104 hA C pX5_1 hP hS dX7_lot_38 (fun H locs hP hS => ?_)
        refine lv_iload_n C.1 C.2.1 dX7_lot_41 rfl (lv_at hl 0 rfl) ?_
        obtain rfl := Option.some.inj hf
        exact u_iret C hP hS dX7_lot_42
      · have hf := g_t hc hf
        refine lv_bipush (v := (-5 : Int32)) C.1 C.2.1 dX7_lot_26 (by decide) ?_
        obtain rfl := Option.some.inj hf
        exact u_iret C hP hS dX7_lot_28
    · have hf := g_f hc hf
      refine lv_bipush (v := (-2 : Int32)) C.1 C.2.1 dX7_lot_10 (by decide) ?_
      obtain rfl := Option.some.inj hf
      exact u_iret C hP hS dX7_lot_12
theorem c_X7_lot (l : Launch) (D : va_G) (ids : Nat → ClassId) (ad tt : Nat → Nat) (hA : adOk ad 59) {a1 : Int32} {h : Hp} {rv : Int32 × Hp} (hf : f_X7_lot h a1 = some rv) : Met l yX7_lot (ws_ yX7_lot cX7_lot 3 (some .int)) rm_X7_lot (va_Pc [.ref (ad 0), .int a1] (WB D ids (cEC ids ad) ad 59 (ExC tt ad) h)) (QW D (cEC ids ad) ad 59 (some (.int rv.1)) rv.2) 0 0 (inW ad 59) :=
  u_met (own := RX7) (by decide) rfl (Nat.le_of_ble_eq_true rfl) rfl (fun p e s m args below meth c H ls C hX hP hS hl => w_X7_lot (tt := tt) hA C hX _ _ _ _ _ hf hP hS hl)
abbrev rm_X7_levelAt : Room := { frames := 1, cells := 0, slots := 0, locals := 21 }
set_option maxRecDepth 100000 in
set_option maxHeartbeats 4000000 in
theorem w_X7_levelAt {p : Program} {l : Launch} {e : Env} {s : State} {m : MethodId} {args : Array Value} {below : List Frame} {meth : Method} {c : Code} {D : va_G} {ids : Nat → ClassId} {ad tt : Nat → Nat} {rv : Int32 × Hp} (hA : adOk ad 59) (C : CX p s m args meth c cX7_levelAt 2 (some .int) RX7 D ids) (hX : (ExC tt ad) s s.heap) : ∀ (h : Hp) (a1 : Int32) (a2 : Int32) (H : Heap) (locs : List Loc) (ls : Array Slot), f_X7_levelAt h a1 a2 = some rv → wp D (cEC ids ad) ad 59 h H → va_S (inW ad 59) s.heap H locs → lv_has ls 2 [(0, .int a1), (1, .int a2)] → W p l e rm_X7_levelAt s m args below meth c H locs 0 0 (MQ below (QW D (cEC ids ad) ad 59 (some (.int rv.1)) rv.2) args s 0 0 (inW ad 59)) (F0 m 0 ls []) := by
  intro h a1 a2 H locs ls hf hP hS hl
  unfold f_X7_levelAt at hf
  refine lv_iload_n C.1 C.2.1 dX7_levelAt_0 rfl (lv_at hl 1 rfl) ?_
  refine lv_iload_n C.1 C.2.1 dX7_levelAt_1 rfl (lv_at hl 0 rfl) ?_
  refine lv_iadd C.1 C.2.1 dX7_levelAt_2 ?_
  refine lv_bipush (v := (12 : Int32)) C.1 C.2.1 dX7_levelAt_3 (by decide) ?_
  refine lv_irem C.1 C.2.1 dX7_levelAt_5 (by decide) ?_
  refine lv_bipush (v := (6 : Int32)) C.1 C.2.1 dX7_levelAt_6 (by decide) ?_
  refine lv_isub C.1 C.2.1 dX7_levelAt_8 ?_
  refine va_mabs C.1 C.2.1 (C.2.2.1.trans hl.1.symm) C.2.2.2.2.2.1 (C.2.2.2.2.2.2.1 _ q_334) (C.2.2.2.2.2.2.1 _ q_335) (C.2.2.2.2.2.2.1 _ q_336) (C.2.2.2.2.2.2.1 _ q_337) (Nat.le_of_ble_eq_true rfl) (Nat.le_of_ble_eq_true rfl) (Nat.zero_le _) (Nat.zero_le _) dX7_levelAt_9 ?_
  obtain rfl := Option.some.inj hf
  exact u_iret C hP hS dX7_levelAt_12
theorem c_X7_levelAt (l : Launch) (D : va_G) (ids : Nat → ClassId) (ad tt : Nat → Nat) (hA : adOk ad 59) {a1 : Int32} {a2 : Int32} {h : Hp} {rv : Int32 × Hp} (hf : f_X7_levelAt h a1 a2 = some rv) : Met l yX7_levelAt (ws_ yX7_levelAt cX7_levelAt 2 (some .int)) rm_X7_levelAt (va_Pc [.int a1, .int a2] (WB D ids (cEC ids ad) ad 59 (ExC tt ad) h)) (QW D (cEC ids ad) ad 59 (some (.int rv.1)) rv.2) 0 0 (inW ad 59) :=
  u_met (own := RX7) (by decide) rfl (Nat.le_of_ble_eq_true rfl) rfl (fun p e s m args below meth c H ls C hX hP hS hl => w_X7_levelAt (tt := tt) hA C hX _ _ _ _ _ _ hf hP hS hl)
