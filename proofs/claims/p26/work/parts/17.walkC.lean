theorem gf_X7_145 {p : Program} {l : Launch} {e : Env} {R : Room} {s : State} {m : MethodId} {args : Array Value} {below : List Frame} {meth : Method} {c : Code} {H : Heap} {locs : List Loc} {cells slots : Nat} {Q : State → Prop} {cc : ByteArray} {nL : Nat} {ret : Option FieldType} {pc : Nat} {ls : Array Slot} {rest : List Value} {D : va_G} {ids : Nat → ClassId} {ad : Nat → Nat} {h : Hp} (C : CX p s m args meth c cc nL ret RX7 D ids) {k : Nat} (hk : isX2 k) (hP : wp D (cEC ids ad) ad 59 h H) (hdg : decode cc pc = .ok (.getfield 145, 3)) (kk : W p l e R s m args below meth c H locs cells slots Q (F0 m (pc + 3) ls (.int (h k 0) :: rest))) : W p l e R s m args below meth c H locs cells slots Q (F0 m pc ls (.ref (ad k) :: rest)) :=
  u_get C hP (lt_X2 hk) (cE_X2 hk) rfl inX2 0 (by decide) rfl q_382 hdg kk
theorem gf_X7_167 {p : Program} {l : Launch} {e : Env} {R : Room} {s : State} {m : MethodId} {args : Array Value} {below : List Frame} {meth : Method} {c : Code} {H : Heap} {locs : List Loc} {cells slots : Nat} {Q : State → Prop} {cc : ByteArray} {nL : Nat} {ret : Option FieldType} {pc : Nat} {ls : Array Slot} {rest : List Value} {D : va_G} {ids : Nat → ClassId} {ad : Nat → Nat} {h : Hp} (C : CX p s m args meth c cc nL ret RX7 D ids) {k : Nat} (hk : isX2 k) (hP : wp D (cEC ids ad) ad 59 h H) (hdg : decode cc pc = .ok (.getfield 167, 3)) (kk : W p l e R s m args below meth c H locs cells slots Q (F0 m (pc + 3) ls (.int (h k 1) :: rest))) : W p l e R s m args below meth c H locs cells slots Q (F0 m pc ls (.ref (ad k) :: rest)) :=
  u_get C hP (lt_X2 hk) (cE_X2 hk) rfl inX2 1 (by decide) rfl q_383 hdg kk
theorem cv_X7_170 {p : Program} {l : Launch} {e : Env} {R : Room} {s : State} {m : MethodId} {args : Array Value} {below : List Frame} {meth : Method} {c : Code} {H : Heap} {locs : List Loc} {Q : State → Prop} {cc : ByteArray} {nL : Nat} {ret : Option FieldType} {pc : Nat} {ls : Array Slot} {rest : List Value} {D : va_G} {ids : Nat → ClassId} {ad tt : Nat → Nat} {h : Hp} (hA : adOk ad 59) (C : CX p s m args meth c cc nL ret RX7 D ids) (hX : (ExC tt ad) s s.heap) (hP : wp D (cEC ids ad) ad 59 h H) (hS : va_S (inW ad 59) s.heap H locs) {a1 : Int32} {a2 : Int32} {rv : Int32 × Hp} (hf : f_X7_hoursWithWater h a1 a2 = some rv) (hR : 2 + 1 ≤ R.frames ∧ 8 + (4 + 11) + 42 ≤ R.locals) (hsz : ls.size = nL) (hcat : (rest.map fun v => v.category).sum ≤ 8) (hdg : decode cc pc = .ok (.invokestatic 170, 3)) (kk : ∀ (H1 : Heap) (locs1 : List Loc), wp D (cEC ids ad) ad 59 rv.2 H1 → va_S (inW ad 59) s.heap H1 locs1 → W p l e R s m args below meth c H1 locs1 0 0 Q (F0 m (pc + 3) ls (.int rv.1 :: rest))) : W p l e R s m args below meth c H locs 0 0 Q (F0 m pc ls (.int a2 :: .int a1 :: rest)) :=
  u_callS (As := [.int a1, .int a2]) (rv := (some (.int rv.1))) C (exC_ok hA) hX (c_X7_hoursWithWater l D ids ad tt hA hf) q_384 q_385 q_2 q_386 ⟨rfl, rfl⟩ (by refine ⟨by decide +kernel, by decide +kernel, ?_⟩; show _ = some 2; decide +kernel) hR hP hS hsz hcat rfl hdg kk
abbrev rm_X7_hours : Room := { frames := 3, cells := 0, slots := 0, locals := 65 }
set_option maxRecDepth 100000 in
set_option maxHeartbeats 4000000 in
theorem w_X7_hours {p : Program} {l : Launch} {e : Env} {s : State} {m : MethodId} {args : Array Value} {below : List Frame} {meth : Method} {c : Code} {D : va_G} {ids : Nat → ClassId} {ad tt : Nat → Nat} {rv : Int32 × Hp} (hA : adOk ad 59) (C : CX p s m args meth c cX7_hours 6 (some .int) RX7 D ids) (hX : (ExC tt ad) s s.heap) : ∀ (h : Hp) (a1 : Int32) (a2 : Int32) (H : Heap) (locs : List Loc) (ls : Array Slot), f_X7_hours h a1 a2 = some rv → wp D (cEC ids ad) ad 59 h H → va_S (inW ad 59) s.heap H locs → lv_has ls 6 [(0, .ref (ad 0)), (1, .int a1), (2, .int a2)] → W p l e rm_X7_hours s m args below meth c H locs 0 0 (MQ below (QW D (cEC ids ad) ad 59 (some (.int rv.1)) rv.2) args s 0 0 (inW ad 59)) (F0 m 0 ls []) := by
  intro h a1 a2 H locs ls hf hP hS hl
  unfold f_X7_hours at hf
  refine lv_iload_n C.1 C.2.1 dX7_hours_0 rfl (lv_at hl 1 rfl) ?_
  obtain ⟨q1, eq1, hf⟩ := g_b hf
  refine cv_X7_55 hA C hX hP hS eq1 ⟨Nat.le_of_ble_eq_true rfl, Nat.le_of_ble_eq_true rfl⟩ hl.1 (Nat.le_of_ble_eq_true rfl) dX7_hours_1 (fun H locs hP hS => ?_)
  refine lv_if_ne (tgt := 9) C.1 C.2.1 dX7_hours_4 (by decide) (fun hc => ?_) (fun hc => ?_)
  · have hf := g_f hc hf
    refine lv_aload_n C.1 C.2.1 dX7_hours_9 rfl (lv_at hl 0 rfl) ?_
    refine gf_X7_12 C hP dX7_hours_10 ?_
    refine gf_X7_63 C pX5_1 hP dX7_hours_13 ?_
    refine lv_iload_n C.1 C.2.1 dX7_hours_16 rfl (lv_at hl 1 rfl) ?_
    obtain ⟨hg2, hf⟩ := g_if hf
    refine rl_aCap C (cap_of pX5_1) hP hg2 dX7_hours_17 ?_
    refine lv_astore_n (lv' := [(3, .ref (ad ((1 + 1) + 1 + a1.toNatClampNeg))), (0, .ref (ad 0)), (1, .int a1), (2, .int a2)]) C.1 C.2.1 dX7_hours_18 rfl hl (by decide) rfl (fun ls hl => ?_)
    refine lv_aload_n C.1 C.2.1 dX7_hours_19 rfl (lv_at hl 0 rfl) ?_
    refine gf_X7_145 C (cp_el (cap_of pX5_1) hg2) hP dX7_hours_20 ?_
    refine lv_aload_n C.1 C.2.1 dX7_hours_23 rfl (lv_at hl 0 rfl) ?_
    refine gf_X7_167 C (cp_el (cap_of pX5_1) hg2) hP dX7_hours_24 ?_
    obtain ⟨q3, eq3, hf⟩ := g_b hf
    refine cv_X7_170 hA C hX hP hS eq3 ⟨Nat.le_of_ble_eq_true rfl, Nat.le_of_ble_eq_true rfl⟩ hl.1 (Nat.le_of_ble_eq_true rfl) dX7_hours_27 (fun H locs hP hS => ?_)
    refine lv_istore (lv' := [(4, .int q3.1), (3, .ref (ad ((1 + 1) + 1 + a1.toNatClampNeg))), (0, .ref (ad 0)), (1, .int a1), (2, .int a2)]) C.1 C.2.1 dX7_hours_30 hl (by decide) rfl (fun ls hl => ?_)
    refine lv_aload_n C.1 C.2.1 dX7_hours_32 rfl (lv_at hl 2 rfl) ?_
    refine gf_X7_12 C hP dX7_hours_33 ?_
    refine gf_X7_91 C pX5_1 hP dX7_hours_36 ?_
    refine lv_aload_n C.1 C.2.1 dX7_hours_39 rfl (lv_at hl 1 rfl) ?_
    refine gf_X7_167 C (cp_el (cap_of pX5_1) hg2) hP dX7_hours_40 ?_
    obtain ⟨q4, eq4, hf⟩ := g_b hf
    refine cv_X7_170 hA C hX hP hS eq4 ⟨Nat.le_of_ble_eq_true rfl, Nat.le_of_ble_eq_true rfl⟩ hl.1 (Nat.le_of_ble_eq_true rfl) dX7_hours_43 (fun H locs hP hS => ?_)
    refine lv_istore (lv' := [(5, .int q4.1), (4, .int q3.1), (3, .ref (ad ((1 + 1) + 1 + a1.toNatClampNeg))), (0, .ref (ad 0)), (1, .int a1), (2, .int a2)]) C.1 C.2.1 dX7_hours_46 hl (by decide) rfl (fun ls hl => ?_)
    refine lv_iload_n C.1 C.2.1 dX7_hours_48 rfl (lv_at hl 5 rfl) ?_
    by_cases hc0 : a2 = 0
    · have hf := g_t hc0 hf
      refine lv_tableIn (off := 27) (tgt := 76) C.1 C.2.1 dX7_hours_49 (by rw [hc0]; decide) (by rw [hc0]; decide) (by rw [hc0]; rfl) (by decide) ?_
      refine lv_iload C.1 C.2.1 dX7_hours_76 (lv_at hl 1 rfl) ?_
      obtain rfl := Option.some.inj hf
      exact u_iret C hP hS dX7_hours_78
    · have hf := g_f hc0 hf
      by_cases hc1 : a2 = 1
      · have hf := g_t hc1 hf
        refine lv_tableIn (off := 30) (tgt := 79) C.1 C.2.1 dX7_hours_49 (by rw [hc1]; decide) (by rw [hc1]; decide) (by rw [hc1]; rfl) (by decide) ?_
        refine lv_iload C.1 C.2.1 dX7_hours_79 (lv_at hl 0 rfl) ?_
        obtain rfl := Option.some.inj hf
        exact u_iret C hP hS dX7_hours_81
      · have hf := g_f hc1 hf
        by_cases hc2 : a2 = 2
        · have hf := g_t hc2 hf
          refine lv_tableIn (off := 33) (tgt := 82) C.1 C.2.1 dX7_hours_49 (by rw [hc2]; decide) (by rw [hc2]; decide) (by rw [hc2]; rfl) (by decide) ?_
          refine lv_iload C.1 C.2.1 dX7_hours_82 (lv_at hl 1 rfl) ?_
          refine lv_iload C.1 C.2.1 dX7_hours_84 (lv_at hl 0 rfl) ?_
          refine lv_ixor C.1 C.2.1 dX7_hours_86 ?_
          obtain rfl := Option.some.inj hf
          exact u_iret C hP hS dX7_hours_87
        · have hf := g_f hc2 hf
          have hsw : a2.toInt < 0 ∨ 2 < a2.toInt := by
            have zhc0 := lv_neT hc0 (show (0 : Int32).toInt = 0 by decide)
            have zhc1 := lv_neT hc1 (show (1 : Int32).toInt = 1 by decide)
            have zhc2 := lv_neT hc2 (show (2 : Int32).toInt = 2 by decide)
            omega
          refine lv_tableOut (tgt := 88) C.1 C.2.1 dX7_hours_49 hsw (by decide) ?_
          refine lv_bipush (v := (-2 : Int32)) C.1 C.2.1 dX7_hours_88 (by decide) ?_
          obtain rfl := Option.some.inj hf
          exact u_iret C hP hS dX7_hours_90
  · have hf := g_t hc hf
    refine lv_iconst (v := (-1 : Int32)) C.1 C.2.1 dX7_hours_7 (by decide) ?_
    obtain rfl := Option.some.inj hf
    exact u_iret C hP hS dX7_hours_8
theorem c_X7_hours (l : Launch) (D : va_G) (ids : Nat → ClassId) (ad tt : Nat → Nat) (hA : adOk ad 59) {a1 : Int32} {a2 : Int32} {h : Hp} {rv : Int32 × Hp} (hf : f_X7_hours h a1 a2 = some rv) : Met l yX7_hours (ws_ yX7_hours cX7_hours 6 (some .int)) rm_X7_hours (va_Pc [.ref (ad 0), .int a1, .int a2] (WB D ids (cEC ids ad) ad 59 (ExC tt ad) h)) (QW D (cEC ids ad) ad 59 (some (.int rv.1)) rv.2) 0 0 (inW ad 59) :=
  u_met (own := RX7) (by decide) rfl (Nat.le_of_ble_eq_true rfl) rfl (fun p e s m args below meth c H ls C hX hP hS hl => w_X7_hours (tt := tt) hA C hX _ _ _ _ _ _ hf hP hS hl)
theorem cv_X7_158 {p : Program} {l : Launch} {e : Env} {R : Room} {s : State} {m : MethodId} {args : Array Value} {below : List Frame} {meth : Method} {c : Code} {H : Heap} {locs : List Loc} {Q : State → Prop} {cc : ByteArray} {nL : Nat} {ret : Option FieldType} {pc : Nat} {ls : Array Slot} {rest : List Value} {D : va_G} {ids : Nat → ClassId} {ad tt : Nat → Nat} {h : Hp} (hA : adOk ad 59) (C : CX p s m args meth c cc nL ret RX7 D ids) (hX : (ExC tt ad) s s.heap) (hP : wp D (cEC ids ad) ad 59 h H) (hS : va_S (inW ad 59) s.heap H locs) {a1 : Int32} {a2 : Int32} {rv : Int32 × Hp} (hf : f_X1_placeOf h a1 a2 = some rv) (hR : 0 + 1 ≤ R.frames ∧ 8 + (2 + 11) + 0 ≤ R.locals) (hsz : ls.size = nL) (hcat : (rest.map fun v => v.category).sum ≤ 8) (hdg : decode cc pc = .ok (.invokestatic 158, 3)) (kk : ∀ (H1 : Heap) (locs1 : List Loc), wp D (cEC ids ad) ad 59 rv.2 H1 → va_S (inW ad 59) s.heap H1 locs1 → W p l e R s m args below meth c H1 locs1 0 0 Q (F0 m (pc + 3) ls (.int rv.1 :: rest))) : W p l e R s m args below meth c H locs 0 0 Q (F0 m pc ls (.int a2 :: .int a1 :: rest)) :=
  u_callS (As := [.int a1, .int a2]) (rv := (some (.int rv.1))) C (exC_ok hA) hX (c_X1_placeOf l D ids ad tt hA hf) q_392 q_161 q_24 q_162 ⟨rfl, rfl⟩ (by refine ⟨by decide +kernel, by decide +kernel, ?_⟩; show _ = some 2; decide +kernel) hR hP hS hsz hcat rfl hdg kk
theorem cv_X7_161 {p : Program} {l : Launch} {e : Env} {R : Room} {s : State} {m : MethodId} {args : Array Value} {below : List Frame} {meth : Method} {c : Code} {H : Heap} {locs : List Loc} {Q : State → Prop} {cc : ByteArray} {nL : Nat} {ret : Option FieldType} {pc : Nat} {ls : Array Slot} {rest : List Value} {D : va_G} {ids : Nat → ClassId} {ad tt : Nat → Nat} {h : Hp} (hA : adOk ad 59) (C : CX p s m args meth c cc nL ret RX7 D ids) (hX : (ExC tt ad) s s.heap) (hP : wp D (cEC ids ad) ad 59 h H) (hS : va_S (inW ad 59) s.heap H locs) {a1 : Int32} {rv : Int32 × Hp} (hf : f_X1_usersAt h a1 = some rv) (hR : 0 + 1 ≤ R.frames ∧ 8 + (2 + 11) + 0 ≤ R.locals) (hsz : ls.size = nL) (hcat : (rest.map fun v => v.category).sum ≤ 8) (hdg : decode cc pc = .ok (.invokevirtual 161, 3)) (kk : ∀ (H1 : Heap) (locs1 : List Loc), wp D (cEC ids ad) ad 59 rv.2 H1 → va_S (inW ad 59) s.heap H1 locs1 → W p l e R s m args below meth c H1 locs1 0 0 Q (F0 m (pc + 3) ls (.int rv.1 :: rest))) : W p l e R s m args below meth c H locs 0 0 Q (F0 m pc ls (.int a1 :: .ref (ad 39) :: rest)) :=
  u_callV (As := [.int a1]) (rv := (some (.int rv.1))) C (exC_ok hA) hX (c_X1_usersAt l D ids ad tt hA hf) q_393 q_176 q_177 q_24 q_178 ⟨rfl, rfl⟩ (by refine ⟨by decide +kernel, by decide +kernel, ?_⟩; show _ = some 1; decide +kernel) hR (by decide) (cE_X1 _) rfl hP hS hsz hcat rfl hdg kk
abbrev rm_X7_uses : Room := { frames := 4, cells := 0, slots := 0, locals := 88 }
set_option maxRecDepth 100000 in
set_option maxHeartbeats 4000000 in
theorem w_X7_uses {p : Program} {l : Launch} {e : Env} {s : State} {m : MethodId} {args : Array Value} {below : List Frame} {meth : Method} {c : Code} {D : va_G} {ids : Nat → ClassId} {ad tt : Nat → Nat} {rv : Int32 × Hp} (hA : adOk ad 59) (C : CX p s m args meth c cX7_uses 3 (some .int) RX7 D ids) (hX : (ExC tt ad) s s.heap) : ∀ (h : Hp) (a1 : Int32) (a2 : Int32) (H : Heap) (locs : List Loc) (ls : Array Slot), f_X7_uses h a1 a2 = some rv → wp D (cEC ids ad) ad 59 h H → va_S (inW ad 59) s.heap H locs → lv_has ls 3 [(0, .ref (ad 0)), (1, .int a1), (2, .int a2)] → W p l e rm_X7_uses s m args below meth c H locs 0 0 (MQ below (QW D (cEC ids ad) ad 59 (some (.int rv.1)) rv.2) args s 0 0 (inW ad 59)) (F0 m 0 ls []) := by
  intro h a1 a2 H locs ls hf hP hS hl
  unfold f_X7_uses at hf
  refine lv_iload_n C.1 C.2.1 dX7_uses_0 rfl (lv_at hl 1 rfl) ?_
  refine lv_if_lt (tgt := 19) C.1 C.2.1 dX7_uses_1 (by decide) (fun hc => ?_) (fun hc => ?_)
  · have hf := g_t hc hf
    refine lv_iconst (v := (-1 : Int32)) C.1 C.2.1 dX7_uses_19 (by decide) ?_
    obtain rfl := Option.some.inj hf
    exact u_iret C hP hS dX7_uses_20
  · have hf := g_f hc hf
    refine lv_iload_n C.1 C.2.1 dX7_uses_4 rfl (lv_at hl 1 rfl) ?_
    refine lv_iconst (v := (2 : Int32)) C.1 C.2.1 dX7_uses_5 (by decide) ?_
    refine lv_icmp_ge (tgt := 19) C.1 C.2.1 dX7_uses_6 (by decide) (fun hc => ?_) (fun hc => ?_)
    · have hf := g_t hc hf
      refine lv_iconst (v := (-1 : Int32)) C.1 C.2.1 dX7_uses_19 (by decide) ?_
      obtain rfl := Option.some.inj hf
      exact u_iret C hP hS dX7_uses_20
    · have hf := g_f hc hf
      refine lv_iload_n C.1 C.2.1 dX7_uses_9 rfl (lv_at hl 2 rfl) ?_
      refine lv_if_lt (tgt := 19) C.1 C.2.1 dX7_uses_10 (by decide) (fun hc => ?_) (fun hc => ?_)
      · have hf := g_t hc hf
        refine lv_iconst (v := (-1 : Int32)) C.1 C.2.1 dX7_uses_19 (by decide) ?_
        obtain rfl := Option.some.inj hf
        exact u_iret C hP hS dX7_uses_20
      · have hf := g_f hc hf
        refine lv_iload_n C.1 C.2.1 dX7_uses_13 rfl (lv_at hl 2 rfl) ?_
        refine lv_bipush (v := (24 : Int32)) C.1 C.2.1 dX7_uses_14 (by decide) ?_
        refine lv_icmp_lt (tgt := 21) C.1 C.2.1 dX7_uses_16 (by decide) (fun hc => ?_) (fun hc => ?_)
        · have hf := g_t hc hf
          refine lv_aload_n C.1 C.2.1 dX7_uses_21 rfl (lv_at hl 0 rfl) ?_
          refine gf_X7_44 C hP dX7_uses_22 ?_
          refine lv_aload_n C.1 C.2.1 dX7_uses_25 rfl (lv_at hl 0 rfl) ?_
          refine gf_X7_12 C hP dX7_uses_26 ?_
          obtain ⟨q1, eq1, hf⟩ := g_b hf
          refine cv_X7_155 hA C hX hP hS pX5_1 eq1 ⟨Nat.le_of_ble_eq_true rfl, Nat.le_of_ble_eq_true rfl⟩ hl.1 (Nat.le_of_ble_eq_true rfl) dX7_uses_29 (fun H locs hP hS => ?_)
          refine lv_aload_n C.1 C.2.1 dX7_uses_32 rfl (lv_at hl 0 rfl) ?_
          refine gf_X7_44 C hP dX7_uses_33 ?_
          refine lv_iload_n C.1 C.2.1 dX7_uses_36 rfl (lv_at hl 2 rfl) ?_
          refine lv_iload_n C.1 C.2.1 dX7_uses_37 rfl (lv_at hl 1 rfl) ?_
          obtain ⟨q2, eq2, hf⟩ := g_b hf
          refine cv_X7_158 hA C hX hP hS eq2 ⟨Nat.le_of_ble_eq_true rfl, Nat.le_of_ble_eq_true rfl⟩ hl.1 (Nat.le_of_ble_eq_true rfl) dX7_uses_38 (fun H locs hP hS => ?_)
          obtain ⟨q3, eq3, hf⟩ := g_b hf
          refine cv_X7_161 hA C hX hP hS eq3 ⟨Nat.le_of_ble_eq_true rfl, Nat.le_of_ble_eq_true rfl⟩ hl.1 (Nat.le_of_ble_eq_true rfl) dX7_uses_41 (fun H locs hP hS => ?_)
          obtain rfl := Option.some.inj hf
          exact u_iret C hP hS dX7_uses_44
        · have hf := g_f hc hf
          refine lv_iconst (v := (-1 : Int32)) C.1 C.2.1 dX7_uses_19 (by decide) ?_
          obtain rfl := Option.some.inj hf
          exact u_iret C hP hS dX7_uses_20
theorem c_X7_uses (l : Launch) (D : va_G) (ids : Nat → ClassId) (ad tt : Nat → Nat) (hA : adOk ad 59) {a1 : Int32} {a2 : Int32} {h : Hp} {rv : Int32 × Hp} (hf : f_X7_uses h a1 a2 = some rv) : Met l yX7_uses (ws_ yX7_uses cX7_uses 3 (some .int)) rm_X7_uses (va_Pc [.ref (ad 0), .int a1, .int a2] (WB D ids (cEC ids ad) ad 59 (ExC tt ad) h)) (QW D (cEC ids ad) ad 59 (some (.int rv.1)) rv.2) 0 0 (inW ad 59) :=
  u_met (own := RX7) (by decide) rfl (Nat.le_of_ble_eq_true rfl) rfl (fun p e s m args below meth c H ls C hX hP hS hl => w_X7_uses (tt := tt) hA C hX _ _ _ _ _ _ hf hP hS hl)
theorem cv_L_9 {p : Program} {l : Launch} {e : Env} {R : Room} {s : State} {m : MethodId} {args : Array Value} {below : List Frame} {meth : Method} {c : Code} {H : Heap} {locs : List Loc} {Q : State → Prop} {cc : ByteArray} {nL : Nat} {ret : Option FieldType} {pc : Nat} {ls : Array Slot} {rest : List Value} {D : va_G} {ids : Nat → ClassId} {ad tt : Nat → Nat} {h : Hp} (hA : adOk ad 59) (C : CX p s m args meth c cc nL ret RL D ids) (hX : (ExC tt ad) s s.heap) (hP : wp D (cEC ids ad) ad 59 h H) (hS : va_S (inW ad 59) s.heap H locs) {a1 : Int32} {rv : Int32 × Hp} (hf : f_X7_count h a1 = some rv) (hR : 4 + 1 ≤ R.frames ∧ 8 + (2 + 11) + 88 ≤ R.locals) (hsz : ls.size = nL) (hcat : (rest.map fun v => v.category).sum ≤ 8) (hdg : decode cc pc = .ok (.invokevirtual 9, 3)) (kk : ∀ (H1 : Heap) (locs1 : List Loc), wp D (cEC ids ad) ad 59 rv.2 H1 → va_S (inW ad 59) s.heap H1 locs1 → W p l e R s m args below meth c H1 locs1 0 0 Q (F0 m (pc + 3) ls (.int rv.1 :: rest))) : W p l e R s m args below meth c H locs 0 0 Q (F0 m pc ls (.int a1 :: .ref (ad 0) :: rest)) :=
  u_callV (As := [.int a1]) (rv := (some (.int rv.1))) C (exC_ok hA) hX (c_X7_count l D ids ad tt hA hf) q_115 q_116 q_117 q_2 q_118 ⟨rfl, rfl⟩ (by refine ⟨by decide +kernel, by decide +kernel, ?_⟩; show _ = some 1; decide +kernel) hR (by decide) (cE_X7 _) rfl hP hS hsz hcat rfl hdg kk
theorem cv_L_15 {p : Program} {l : Launch} {e : Env} {R : Room} {s : State} {m : MethodId} {args : Array Value} {below : List Frame} {meth : Method} {c : Code} {H : Heap} {locs : List Loc} {Q : State → Prop} {cc : ByteArray} {nL : Nat} {ret : Option FieldType} {pc : Nat} {ls : Array Slot} {rest : List Value} {D : va_G} {ids : Nat → ClassId} {ad tt : Nat → Nat} {h : Hp} (hA : adOk ad 59) (C : CX p s m args meth c cc nL ret RL D ids) (hX : (ExC tt ad) s s.heap) (hP : wp D (cEC ids ad) ad 59 h H) (hS : va_S (inW ad 59) s.heap H locs) {a1 : Int32} {a2 : Int32} {rv : Int32 × Hp} (hf : f_X7_captainOf h a1 a2 = some rv) (hR : 5 + 1 ≤ R.frames ∧ 8 + (3 + 11) + 109 ≤ R.locals) (hsz : ls.size = nL) (hcat : (rest.map fun v => v.category).sum ≤ 8) (hdg : decode cc pc = .ok (.invokevirtual 15, 3)) (kk : ∀ (H1 : Heap) (locs1 : List Loc), wp D (cEC ids ad) ad 59 rv.2 H1 → va_S (inW ad 59) s.heap H1 locs1 → W p l e R s m args below meth c H1 locs1 0 0 Q (F0 m (pc + 3) ls (.int rv.1 :: rest))) : W p l e R s m args below meth c H locs 0 0 Q (F0 m pc ls (.int a2 :: .int a1 :: .ref (ad 0) :: rest)) :=
  u_callV (As := [.int a1, .int a2]) (rv := (some (.int rv.1))) C (exC_ok hA) hX (c_X7_captainOf l D ids ad tt hA hf) q_202 q_203 q_204 q_2 q_205 ⟨rfl, rfl⟩ (by refine ⟨by decide +kernel, by decide +kernel, ?_⟩; show _ = some 2; decide +kernel) hR (by decide) (cE_X7 _) rfl hP hS hsz hcat rfl hdg kk
theorem cv_L_26 {p : Program} {l : Launch} {e : Env} {R : Room} {s : State} {m : MethodId} {args : Array Value} {below : List Frame} {meth : Method} {c : Code} {H : Heap} {locs : List Loc} {Q : State → Prop} {cc : ByteArray} {nL : Nat} {ret : Option FieldType} {pc : Nat} {ls : Array Slot} {rest : List Value} {D : va_G} {ids : Nat → ClassId} {ad tt : Nat → Nat} {h : Hp} (hA : adOk ad 59) (C : CX p s m args meth c cc nL ret RL D ids) (hX : (ExC tt ad) s s.heap) (hP : wp D (cEC ids ad) ad 59 h H) (hS : va_S (inW ad 59) s.heap H locs) {a1 : Int32} {a2 : Int32} {rv : Int32 × Hp} (hf : f_X7_hours h a1 a2 = some rv) (hR : 3 + 1 ≤ R.frames ∧ 8 + (6 + 11) + 65 ≤ R.locals) (hsz : ls.size = nL) (hcat : (rest.map fun v => v.category).sum ≤ 8) (hdg : decode cc pc = .ok (.invokevirtual 26, 3)) (kk : ∀ (H1 : Heap) (locs1 : List Loc), wp D (cEC ids ad) ad 59 rv.2 H1 → va_S (inW ad 59) s.heap H1 locs1 → W p l e R s m args below meth c H1 locs1 0 0 Q (F0 m (pc + 3) ls (.int rv.1 :: rest))) : W p l e R s m args below meth c H locs 0 0 Q (F0 m pc ls (.int a2 :: .int a1 :: .ref (ad 0) :: rest)) :=
  u_callV (As := [.int a1, .int a2]) (rv := (some (.int rv.1))) C (exC_ok hA) hX (c_X7_hours l D ids ad tt hA hf) q_378 q_379 q_380 q_2 q_381 ⟨rfl, rfl⟩ (by refine ⟨by decide +kernel, by decide +kernel, ?_⟩; show _ = some 2; decide +kernel) hR (by decide) (cE_X7 _) rfl hP hS hsz hcat rfl hdg kk
theorem cv_L_23 {p : Program} {l : Launch} {e : Env} {R : Room} {s : State} {m : MethodId} {args : Array Value} {below : List Frame} {meth : Method} {c : Code} {H : Heap} {locs : List Loc} {Q : State → Prop} {cc : ByteArray} {nL : Nat} {ret : Option FieldType} {pc : Nat} {ls : Array Slot} {rest : List Value} {D : va_G} {ids : Nat → ClassId} {ad tt : Nat → Nat} {h : Hp} (hA : adOk ad 59) (C : CX p s m args meth c cc nL ret RL D ids) (hX : (ExC tt ad) s s.heap) (hP : wp D (cEC ids ad) ad 59 h H) (hS : va_S (inW ad 59) s.heap H locs) {a1 : Int32} {a2 : Int32} {a3 : Int32} {rv : Int32 × Hp} (hf : f_X7_printed h a1 a2 a3 = some rv) (hR : 5 + 1 ≤ R.frames ∧ 8 + (5 + 11) + 109 ≤ R.locals) (hsz : ls.size = nL) (hcat : (rest.map fun v => v.category).sum ≤ 8) (hdg : decode cc pc = .ok (.invokevirtual 23, 3)) (kk : ∀ (H1 : Heap) (locs1 : List Loc), wp D (cEC ids ad) ad 59 rv.2 H1 → va_S (inW ad 59) s.heap H1 locs1 → W p l e R s m args below meth c H1 locs1 0 0 Q (F0 m (pc + 3) ls (.int rv.1 :: rest))) : W p l e R s m args below meth c H locs 0 0 Q (F0 m pc ls (.int a3 :: .int a2 :: .int a1 :: .ref (ad 0) :: rest)) :=
  u_callV (As := [.int a1, .int a2, .int a3]) (rv := (some (.int rv.1))) C (exC_ok hA) hX (c_X7_printed l D ids ad tt hA hf) q_371 q_372 q_373 q_2 q_374 ⟨rfl, rfl⟩ (by refine ⟨by decide +kernel, by decide +kernel, ?_⟩; show _ = some 3; decide +kernel) hR (by decide) (cE_X7 _) rfl hP hS hsz hcat rfl hdg kk
theorem cv_L_29 {p : Program} {l : Launch} {e : Env} {R : Room} {s : State} {m : MethodId} {args : Array Value} {below : List Frame} {meth : Method} {c : Code} {H : Heap} {locs : List Loc} {Q : State → Prop} {cc : ByteArray} {nL : Nat} {ret : Option FieldType} {pc : Nat} {ls : Array Slot} {rest : List Value} {D : va_G} {ids : Nat → ClassId} {ad tt : Nat → Nat} {h : Hp} (hA : adOk ad 59) (C : CX p s m args meth c cc nL ret RL D ids) (hX : (ExC tt ad) s s.heap) (hP : wp D (cEC ids ad) ad 59 h H) (hS : va_S (inW ad 59) s.heap H locs) {a1 : Int32} {a2 : Int32} {rv : Int32 × Hp} (hf : f_X7_uses h a1 a2 = some rv) (hR : 4 + 1 ≤ R.frames ∧ 8 + (3 + 11) + 88 ≤ R.locals) (hsz : ls.size = nL) (hcat : (rest.map fun v => v.category).sum ≤ 8) (hdg : decode cc pc = .ok (.invokevirtual 29, 3)) (kk : ∀ (H1 : Heap) (locs1 : List Loc), wp D (cEC ids ad) ad 59 rv.2 H1 → va_S (inW ad 59) s.heap H1 locs1 → W p l e R s m args below meth c H1 locs1 0 0 Q (F0 m (pc + 3) ls (.int rv.1 :: rest))) : W p l e R s m args below meth c H locs 0 0 Q (F0 m pc ls (.int a2 :: .int a1 :: .ref (ad 0) :: rest)) :=
  u_callV (As := [.int a1, .int a2]) (rv := (some (.int rv.1))) C (exC_ok hA) hX (c_X7_uses l D ids ad tt hA hf) q_388 q_389 q_390 q_2 q_391 ⟨rfl, rfl⟩ (by refine ⟨by decide +kernel, by decide +kernel, ?_⟩; show _ = some 2; decide +kernel) hR (by decide) (cE_X7 _) rfl hP hS hsz hcat rfl hdg kk
abbrev rm_L_printed : Room := { frames := 6, cells := 0, slots := 0, locals := 133 }
set_option maxRecDepth 100000 in
set_option maxHeartbeats 4000000 in
theorem w_L_printed_106 {p : Program} {l : Launch} {e : Env} {s : State} {m : MethodId} {args : Array Value} {below : List Frame} {meth : Method} {c : Code} {D : va_G} {ids : Nat → ClassId} {ad tt : Nat → Nat} {rv : Int32 × Hp} (hA : adOk ad 59) (C : CX p s m args meth c cL_printed 7 (some .boolean) RL D ids) (hX : (ExC tt ad) s s.heap) {K4 : Hp → Int32 → Int32 → Option (Int32 × Hp)} (hK4 : ∀ (h : Hp) (x1 : Int32) (x2 : Int32) (H : Heap) (locs : List Loc) (ls : Array Slot), K4 h x1 x2 = some rv → wp D (cEC ids ad) ad 59 h H → va_S (inW ad 59) s.heap H locs → lv_has ls 7 [(0, .ref (ad 0)), (1, .int x1), (2, .int x2)] → W p l e rm_L_printed s m args below meth c H locs 0 0 (MQ below (QW D (cEC ids ad) ad 59 (some (.int rv.1)) rv.2) args s 0 0 (inW ad 59)) (F0 m 4 ls [])) {K23 : Hp → Int32 → Int32 → Int32 → Int32 → Option (Int32 × Hp)} (hK23 : ∀ (h : Hp) (x1 : Int32) (x2 : Int32) (x3 : Int32) (x4 : Int32) (H : Heap) (locs : List Loc) (ls : Array Slot), K23 h x1 x2 x3 x4 = some rv → wp D (cEC ids ad) ad 59 h H → va_S (inW ad 59) s.heap H locs → lv_has ls 7 [(0, .ref (ad 0)), (1, .int x1), (2, .int x2), (3, .int x3), (4, .int x4)] → W p l e rm_L_printed s m args below meth c H locs 0 0 (MQ below (QW D (cEC ids ad) ad 59 (some (.int rv.1)) rv.2) args s 0 0 (inW ad 59)) (F0 m 23 ls [])) : ∀ (h : Hp) (x1 : Int32) (x2 : Int32) (x3 : Int32) (x4 : Int32) (x5 : Int32) (t0 : Int32) (H : Heap) (locs : List Loc) (ls : Array Slot), f_L_printed_106 K4 K23 h x1 x2 x3 x4 x5 t0 = some rv → wp D (cEC ids ad) ad 59 h H → va_S (inW ad 59) s.heap H locs → lv_has ls 7 [(0, .ref (ad 0)), (1, .int x1), (2, .int x2), (3, .int x3), (4, .int x4), (5, .int x5)] → W p l e rm_L_printed s m args below meth c H locs 0 0 (MQ below (QW D (cEC ids ad) ad 59 (some (.int rv.1)) rv.2) args s 0 0 (inW ad 59)) (F0 m 106 ls [.int t0]) := by
  intro h x1 x2 x3 x4 x5 t0 H locs ls hf hP hS hl
  unfold f_L_printed_106 at hf
  refine lv_istore (lv' := [(6, .int t0), (0, .ref (ad 0)), (1, .int x1), (2, .int x2), (3, .int x3), (4, .int x4), (5, .int x5)]) C.1 C.2.1 dL_printed_106 hl (by decide) rfl (fun ls hl => ?_)
  refine lv_iload C.1 C.2.1 dL_printed_108 (lv_at hl 0 rfl) ?_
  refine lv_if_ne (tgt := 180) C.1 C.2.1 dL_printed_110 (by decide) (fun hc => ?_) (fun hc => ?_)
  · have hf := g_f hc hf
    refine lv_iconst (v := (0 : Int32)) C.1 C.2.1 dL_printed_180 (by decide) ?_
    obtain rfl := Option.some.inj hf
    exact u_zret C hP hS isb_0 dL_printed_181
  · have hf := g_t hc hf
    refine lv_iload C.1 C.2.1 dL_printed_113 (lv_at hl 6 rfl) ?_
    refine lv_bipush (v := (21 : Int32)) C.1 C.2.1 dL_printed_115 (by decide) ?_
    refine lv_icmp_gt (tgt := 180) C.1 C.2.1 dL_printed_117 (by decide) (fun hc => ?_) (fun hc => ?_)
    · have hf := g_t hc hf
      refine lv_iconst (v := (0 : Int32)) C.1 C.2.1 dL_printed_180 (by decide) ?_
      obtain rfl := Option.some.inj hf
      exact u_zret C hP hS isb_0 dL_printed_181
    · have hf := g_f hc hf
      refine lv_aload_n C.1 C.2.1 dL_printed_120 rfl (lv_at hl 1 rfl) ?_
      refine lv_iload_n C.1 C.2.1 dL_printed_121 rfl (lv_at hl 3 rfl) ?_
      refine lv_iconst (v := (0 : Int32)) C.1 C.2.1 dL_printed_122 (by decide) ?_
      obtain ⟨q1, eq1, hf⟩ := g_b hf
      refine cv_L_26 hA C hX hP hS eq1 ⟨Nat.le_of_ble_eq_true rfl, Nat.le_of_ble_eq_true rfl⟩ hl.1 (Nat.le_of_ble_eq_true rfl) dL_printed_123 (fun H locs hP hS => ?_)
      refine lv_iload C.1 C.2.1 dL_printed_126 (lv_at hl 6 rfl) ?_
      refine lv_ishr C.1 C.2.1 dL_printed_128 ?_
      refine lv_iconst (v := (1 : Int32)) C.1 C.2.1 dL_printed_129 (by decide) ?_
      refine lv_iand C.1 C.2.1 dL_printed_130 ?_
      refine lv_if_eq (tgt := 180) C.1 C.2.1 dL_printed_131 (by decide) (fun hc => ?_) (fun hc => ?_)
      · have hf := g_t hc hf
        refine lv_iconst (v := (0 : Int32)) C.1 C.2.1 dL_printed_180 (by decide) ?_
        obtain rfl := Option.some.inj hf
        exact u_zret C hP hS isb_0 dL_printed_181
      · have hf := g_f hc hf
        refine lv_aload_n C.1 C.2.1 dL_printed_134 rfl (lv_at hl 1 rfl) ?_
        refine lv_aload_n C.1 C.2.1 dL_printed_135 rfl (lv_at hl 1 rfl) ?_
        refine lv_iload_n C.1 C.2.1 dL_printed_136 rfl (lv_at hl 3 rfl) ?_
        refine lv_iload C.1 C.2.1 dL_printed_137 (lv_at hl 5 rfl) ?_
        refine lv_iconst (v := (1 : Int32)) C.1 C.2.1 dL_printed_139 (by decide) ?_
        obtain ⟨q2, eq2, hf⟩ := g_b hf
        refine cv_L_23 hA C hX hP hS eq2 ⟨Nat.le_of_ble_eq_true rfl, Nat.le_of_ble_eq_true rfl⟩ hl.1 (Nat.le_of_ble_eq_true rfl) dL_printed_140 (fun H locs hP hS => ?_)
        refine lv_iload C.1 C.2.1 dL_printed_143 (lv_at hl 6 rfl) ?_
        obtain ⟨q3, eq3, hf⟩ := g_b hf
        refine cv_L_29 hA C hX hP hS eq3 ⟨Nat.le_of_ble_eq_true rfl, Nat.le_of_ble_eq_true rfl⟩ hl.1 (Nat.le_of_ble_eq_true rfl) dL_printed_145 (fun H locs hP hS => ?_)
        refine lv_iload_n C.1 C.2.1 dL_printed_148 rfl (lv_at hl 3 rfl) ?_
        refine lv_ishr C.1 C.2.1 dL_printed_149 ?_
        refine lv_iconst (v := (1 : Int32)) C.1 C.2.1 dL_printed_150 (by decide) ?_
        refine lv_iand C.1 C.2.1 dL_printed_151 ?_
        refine lv_if_eq (tgt := 180) C.1 C.2.1 dL_printed_152 (by decide) (fun hc => ?_) (fun hc => ?_)
        · have hf := g_t hc hf
          refine lv_iconst (v := (0 : Int32)) C.1 C.2.1 dL_printed_180 (by decide) ?_
          obtain rfl := Option.some.inj hf
          exact u_zret C hP hS isb_0 dL_printed_181
        · have hf := g_f hc hf
          refine lv_aload_n C.1 C.2.1 dL_printed_155 rfl (lv_at hl 1 rfl) ?_
          refine lv_iconst (v := (1 : Int32)) C.1 C.2.1 dL_printed_156 (by decide) ?_
          refine lv_aload_n C.1 C.2.1 dL_printed_157 rfl (lv_at hl 1 rfl) ?_
          refine lv_iload_n C.1 C.2.1 dL_printed_158 rfl (lv_at hl 3 rfl) ?_
          refine lv_iload C.1 C.2.1 dL_printed_159 (lv_at hl 5 rfl) ?_
          refine lv_iconst (v := (1 : Int32)) C.1 C.2.1 dL_printed_161 (by decide) ?_
          obtain ⟨q4, eq4, hf⟩ := g_b hf
          refine cv_L_23 hA C hX hP hS eq4 ⟨Nat.le_of_ble_eq_true rfl, Nat.le_of_ble_eq_true rfl⟩ hl.1 (Nat.le_of_ble_eq_true rfl) dL_printed_162 (fun H locs hP hS => ?_)
          refine lv_isub C.1 C.2.1 dL_printed_165 ?_
          refine lv_iload C.1 C.2.1 dL_printed_166 (lv_at hl 6 rfl) ?_
          refine lv_iconst (v := (2 : Int32)) C.1 C.2.1 dL_printed_168 (by decide) ?_
          refine lv_iadd C.1 C.2.1 dL_printed_169 ?_
          obtain ⟨q5, eq5, hf⟩ := g_b hf
          refine cv_L_29 hA C hX hP hS eq5 ⟨Nat.le_of_ble_eq_true rfl, Nat.le_of_ble_eq_true rfl⟩ hl.1 (Nat.le_of_ble_eq_true rfl) dL_printed_170 (fun H locs hP hS => ?_)
          refine lv_iload_n C.1 C.2.1 dL_printed_173 rfl (lv_at hl 3 rfl) ?_
          refine lv_ishr C.1 C.2.1 dL_printed_174 ?_
          refine lv_iconst (v := (1 : Int32)) C.1 C.2.1 dL_printed_175 (by decide) ?_
          refine lv_iand C.1 C.2.1 dL_printed_176 ?_
          refine lv_if_ne (tgt := 182) C.1 C.2.1 dL_printed_177 (by decide) (fun hc => ?_) (fun hc => ?_)
          · have hf := g_f hc hf
            refine lv_iinc (v := (x4 + 1)) (lv' := [(4, .int (x4 + 1)), (6, .int t0), (0, .ref (ad 0)), (1, .int x1), (2, .int x2), (3, .int x3), (5, .int x5)]) C.1 C.2.1 dL_printed_182 hl (k := 5) rfl (by rfl) (by decide) rfl (fun ls hl => ?_)
            refine lv_goto (tgt := 23) C.1 C.2.1 dL_printed_185 (by decide) ?_
            exact hK23 _ _ _ _ _ _ _ _ hf hP hS (lv_sub hl [2, 3, 4, 5, 0] rfl)
          · have hf := g_t hc hf
            refine lv_iconst (v := (0 : Int32)) C.1 C.2.1 dL_printed_180 (by decide) ?_
            obtain rfl := Option.some.inj hf
            exact u_zret C hP hS isb_0 dL_printed_181
set_option maxRecDepth 100000 in
set_option maxHeartbeats 4000000 in
theorem w_L_printed_101 {p : Program} {l : Launch} {e : Env} {s : State} {m : MethodId} {args : Array Value} {below : List Frame} {meth : Method} {c : Code} {D : va_G} {ids : Nat → ClassId} {ad tt : Nat → Nat} {rv : Int32 × Hp} (hA : adOk ad 59) (C : CX p s m args meth c cL_printed 7 (some .boolean) RL D ids) (hX : (ExC tt ad) s s.heap) {K4 : Hp → Int32 → Int32 → Option (Int32 × Hp)} (hK4 : ∀ (h : Hp) (x1 : Int32) (x2 : Int32) (H : Heap) (locs : List Loc) (ls : Array Slot), K4 h x1 x2 = some rv → wp D (cEC ids ad) ad 59 h H → va_S (inW ad 59) s.heap H locs → lv_has ls 7 [(0, .ref (ad 0)), (1, .int x1), (2, .int x2)] → W p l e rm_L_printed s m args below meth c H locs 0 0 (MQ below (QW D (cEC ids ad) ad 59 (some (.int rv.1)) rv.2) args s 0 0 (inW ad 59)) (F0 m 4 ls [])) {K23 : Hp → Int32 → Int32 → Int32 → Int32 → Option (Int32 × Hp)} (hK23 : ∀ (h : Hp) (x1 : Int32) (x2 : Int32) (x3 : Int32) (x4 : Int32) (H : Heap) (locs : List Loc) (ls : Array Slot), K23 h x1 x2 x3 x4 = some rv → wp D (cEC ids ad) ad 59 h H → va_S (inW ad 59) s.heap H locs → lv_has ls 7 [(0, .ref (ad 0)), (1, .int x1), (2, .int x2), (3, .int x3), (4, .int x4)] → W p l e rm_L_printed s m args below meth c H locs 0 0 (MQ below (QW D (cEC ids ad) ad 59 (some (.int rv.1)) rv.2) args s 0 0 (inW ad 59)) (F0 m 23 ls [])) : ∀ (h : Hp) (x1 : Int32) (x2 : Int32) (x3 : Int32) (x4 : Int32) (x5 : Int32) (H : Heap) (locs : List Loc) (ls : Array Slot), f_L_printed_101 K4 K23 h x1 x2 x3 x4 x5 = some rv → wp D (cEC ids ad) ad 59 h H → va_S (inW ad 59) s.heap H locs → lv_has ls 7 [(0, .ref (ad 0)), (1, .int x1), (2, .int x2), (3, .int x3), (4, .int x4), (5, .int x5)] → W p l e rm_L_printed s m args below meth c H locs 0 0 (MQ below (QW D (cEC ids ad) ad 59 (some (.int rv.1)) rv.2) args s 0 0 (inW ad 59)) (F0 m 101 ls []) := by
  intro h x1 x2 x3 x4 x5 H locs ls hf hP hS hl
  unfold f_L_printed_101 at hf
  refine lv_iconst (v := (1 : Int32)) C.1 C.2.1 dL_printed_101 (by decide) ?_
  refine lv_goto (tgt := 106) C.1 C.2.1 dL_printed_102 (by decide) ?_
  exact w_L_printed_106 hA C hX hK4 hK23 _ _ _ _ _ _ _ _ _ _ hf hP hS (lv_sub hl [0, 1, 2, 3, 4, 5] rfl)
set_option maxRecDepth 100000 in
set_option maxHeartbeats 4000000 in
theorem w_L_printed_213 {p : Program} {l : Launch} {e : Env} {s : State} {m : MethodId} {args : Array Value} {below : List Frame} {meth : Method} {c : Code} {D : va_G} {ids : Nat → ClassId} {ad tt : Nat → Nat} {rv : Int32 × Hp} (hA : adOk ad 59) (C : CX p s m args meth c cL_printed 7 (some .boolean) RL D ids) (hX : (ExC tt ad) s s.heap) {K4 : Hp → Int32 → Int32 → Option (Int32 × Hp)} (hK4 : ∀ (h : Hp) (x1 : Int32) (x2 : Int32) (H : Heap) (locs : List Loc) (ls : Array Slot), K4 h x1 x2 = some rv → wp D (cEC ids ad) ad 59 h H → va_S (inW ad 59) s.heap H locs → lv_has ls 7 [(0, .ref (ad 0)), (1, .int x1), (2, .int x2)] → W p l e rm_L_printed s m args below meth c H locs 0 0 (MQ below (QW D (cEC ids ad) ad 59 (some (.int rv.1)) rv.2) args s 0 0 (inW ad 59)) (F0 m 4 ls [])) : ∀ (h : Hp) (x1 : Int32) (x2 : Int32) (H : Heap) (locs : List Loc) (ls : Array Slot), f_L_printed_213 K4 h x1 x2 = some rv → wp D (cEC ids ad) ad 59 h H → va_S (inW ad 59) s.heap H locs → lv_has ls 7 [(0, .ref (ad 0)), (1, .int x1), (2, .int x2)] → W p l e rm_L_printed s m args below meth c H locs 0 0 (MQ below (QW D (cEC ids ad) ad 59 (some (.int rv.1)) rv.2) args s 0 0 (inW ad 59)) (F0 m 213 ls []) := by
  intro h x1 x2 H locs ls hf hP hS hl
  unfold f_L_printed_213 at hf
  refine lv_iinc (v := (x2 + 1)) (lv' := [(2, .int (x2 + 1)), (0, .ref (ad 0)), (1, .int x1)]) C.1 C.2.1 dL_printed_213 hl (k := 2) rfl (by rfl) (by decide) rfl (fun ls hl => ?_)
  refine lv_goto (tgt := 4) C.1 C.2.1 dL_printed_216 (by decide) ?_
  exact hK4 _ _ _ _ _ _ hf hP hS (lv_sub hl [1, 2, 0] rfl)
set_option maxRecDepth 100000 in
set_option maxHeartbeats 4000000 in
theorem w_L_printed_23 {p : Program} {l : Launch} {e : Env} {s : State} {m : MethodId} {args : Array Value} {below : List Frame} {meth : Method} {c : Code} {D : va_G} {ids : Nat → ClassId} {ad tt : Nat → Nat} {rv : Int32 × Hp} (hA : adOk ad 59) (C : CX p s m args meth c cL_printed 7 (some .boolean) RL D ids) (hX : (ExC tt ad) s s.heap) {K4 : Hp → Int32 → Int32 → Option (Int32 × Hp)} (hK4 : ∀ (h : Hp) (x1 : Int32) (x2 : Int32) (H : Heap) (locs : List Loc) (ls : Array Slot), K4 h x1 x2 = some rv → wp D (cEC ids ad) ad 59 h H → va_S (inW ad 59) s.heap H locs → lv_has ls 7 [(0, .ref (ad 0)), (1, .int x1), (2, .int x2)] → W p l e rm_L_printed s m args below meth c H locs 0 0 (MQ below (QW D (cEC ids ad) ad 59 (some (.int rv.1)) rv.2) args s 0 0 (inW ad 59)) (F0 m 4 ls [])) : ∀ (fu : Nat), ∀ (h : Hp) (x1 : Int32) (x2 : Int32) (x3 : Int32) (x4 : Int32) (H : Heap) (locs : List Loc) (ls : Array Slot), f_L_printed_23 K4 fu h x1 x2 x3 x4 = some rv → wp D (cEC ids ad) ad 59 h H → va_S (inW ad 59) s.heap H locs → lv_has ls 7 [(0, .ref (ad 0)), (1, .int x1), (2, .int x2), (3, .int x3), (4, .int x4)] → W p l e rm_L_printed s m args below meth c H locs 0 0 (MQ below (QW D (cEC ids ad) ad 59 (some (.int rv.1)) rv.2) args s 0 0 (inW ad 59)) (F0 m 23 ls []) := by
  intro fu
  induction fu with
  | zero =>
    intro h x1 x2 x3 x4 H locs ls hf hP hS hl
    cases hf
  | succ fu ih =>
    intro h x1 x2 x3 x4 H locs ls hf hP hS hl
    rw [f_L_printed_23_s] at hf
    refine lv_iload C.1 C.2.1 dL_printed_23 (lv_at hl 4 rfl) ?_
    refine lv_iload_n C.1 C.2.1 dL_printed_25 rfl (lv_at hl 3 rfl) ?_
    refine lv_icmp_ge (tgt := 188) C.1 C.2.1 dL_printed_26 (by decide) (fun hc => ?_) (fun hc => ?_)
    · have hf := g_t hc hf
      refine lv_aload_n C.1 C.2.1 dL_printed_188 rfl (lv_at hl 0 rfl) ?_
      refine lv_iload_n C.1 C.2.1 dL_printed_189 rfl (lv_at hl 2 rfl) ?_
      refine lv_iconst (v := (0 : Int32)) C.1 C.2.1 dL_printed_190 (by decide) ?_
      obtain ⟨q1, eq1, hf⟩ := g_b hf
      refine cv_L_15 hA C hX hP hS eq1 ⟨Nat.le_of_ble_eq_true rfl, Nat.le_of_ble_eq_true rfl⟩ hl.1 (Nat.le_of_ble_eq_true rfl) dL_printed_191 (fun H locs hP hS => ?_)
      refine lv_aload_n C.1 C.2.1 dL_printed_194 rfl (lv_at hl 0 rfl) ?_
      refine lv_iconst (v := (1 : Int32)) C.1 C.2.1 dL_printed_195 (by decide) ?_
      obtain ⟨q2, eq2, hf⟩ := g_b hf
      refine cv_L_9 hA C hX hP hS eq2 ⟨Nat.le_of_ble_eq_true rfl, Nat.le_of_ble_eq_true rfl⟩ hl.1 (Nat.le_of_ble_eq_true rfl) dL_printed_196 (fun H locs hP hS => ?_)
      refine lv_icmp_ne (tgt := 213) C.1 C.2.1 dL_printed_199 (by decide) (fun hc => ?_) (fun hc => ?_)
      · have hf := g_f hc hf
        exact w_L_printed_213 hA C hX hK4 _ _ _ _ _ _ hf hP hS (lv_sub hl [0, 1, 2] rfl)
      · have hf := g_t hc hf
        refine lv_aload_n C.1 C.2.1 dL_printed_202 rfl (lv_at hl 0 rfl) ?_
        refine lv_iload_n C.1 C.2.1 dL_printed_203 rfl (lv_at hl 2 rfl) ?_
        refine lv_iconst (v := (2 : Int32)) C.1 C.2.1 dL_printed_204 (by decide) ?_
        obtain ⟨q3, eq3, hf⟩ := g_b hf
        refine cv_L_26 hA C hX hP hS eq3 ⟨Nat.le_of_ble_eq_true rfl, Nat.le_of_ble_eq_true rfl⟩ hl.1 (Nat.le_of_ble_eq_true rfl) dL_printed_205 (fun H locs hP hS => ?_)
        refine lv_if_eq (tgt := 213) C.1 C.2.1 dL_printed_208 (by decide) (fun hc => ?_) (fun hc => ?_)
        · have hf := g_t hc hf
          exact w_L_printed_213 hA C hX hK4 _ _ _ _ _ _ hf hP hS (lv_sub hl [0, 1, 2] rfl)
        · have hf := g_f hc hf
          refine lv_iconst (v := (0 : Int32)) C.1 C.2.1 dL_printed_211 (by decide) ?_
          obtain rfl := Option.some.inj hf
          exact u_zret C hP hS isb_0 dL_printed_212
    · have hf := g_f hc hf
      refine lv_aload_n C.1 C.2.1 dL_printed_29 rfl (lv_at hl 0 rfl) ?_
      refine lv_iload_n C.1 C.2.1 dL_printed_30 rfl (lv_at hl 2 rfl) ?_
      refine lv_iload C.1 C.2.1 dL_printed_31 (lv_at hl 4 rfl) ?_
      refine lv_iconst (v := (0 : Int32)) C.1 C.2.1 dL_printed_33 (by decide) ?_
      obtain ⟨q4, eq4, hf⟩ := g_b hf
      refine cv_L_23 hA C hX hP hS eq4 ⟨Nat.le_of_ble_eq_true rfl, Nat.le_of_ble_eq_true rfl⟩ hl.1 (Nat.le_of_ble_eq_true rfl) dL_printed_34 (fun H locs hP hS => ?_)
      refine lv_istore (lv' := [(5, .int q4.1), (0, .ref (ad 0)), (1, .int x1), (2, .int x2), (3, .int x3), (4, .int x4)]) C.1 C.2.1 dL_printed_37 hl (by decide) rfl (fun ls hl => ?_)
      refine lv_iload C.1 C.2.1 dL_printed_39 (lv_at hl 5 rfl) ?_
      refine lv_if_ne (tgt := 63) C.1 C.2.1 dL_printed_41 (by decide) (fun hc => ?_) (fun hc => ?_)
      · have hf := g_f hc hf
        refine lv_iload C.1 C.2.1 dL_printed_63 (lv_at hl 0 rfl) ?_
        refine lv_aload_n C.1 C.2.1 dL_printed_65 rfl (lv_at hl 1 rfl) ?_
        refine lv_iload_n C.1 C.2.1 dL_printed_66 rfl (lv_at hl 3 rfl) ?_
        refine lv_iload C.1 C.2.1 dL_printed_67 (lv_at hl 5 rfl) ?_
        refine lv_iconst (v := (1 : Int32)) C.1 C.2.1 dL_printed_69 (by decide) ?_
        refine lv_isub C.1 C.2.1 dL_printed_70 ?_
        refine lv_iconst (v := (0 : Int32)) C.1 C.2.1 dL_printed_71 (by decide) ?_
        obtain ⟨q5, eq5, hf⟩ := g_b hf
        refine cv_L_23 hA C hX hP hS eq5 ⟨Nat.le_of_ble_eq_true rfl, Nat.le_of_ble_eq_true rfl⟩ hl.1 (Nat.le_of_ble_eq_true rfl) dL_printed_72 (fun H locs hP hS => ?_)
        refine lv_iconst (v := (3 : Int32)) C.1 C.2.1 dL_printed_75 (by decide) ?_
        refine lv_iadd C.1 C.2.1 dL_printed_76 ?_
        refine lv_icmp_lt (tgt := 101) C.1 C.2.1 dL_printed_77 (by decide) (fun hc => ?_) (fun hc => ?_)
        · have hf := g_t hc hf
          exact w_L_printed_101 hA C hX hK4 ih _ _ _ _ _ _ _ _ _ hf hP hS (lv_sub hl [1, 2, 3, 4, 5, 0] rfl)
        · have hf := g_f hc hf
          refine lv_aload_n C.1 C.2.1 dL_printed_80 rfl (lv_at hl 1 rfl) ?_
          refine lv_iload_n C.1 C.2.1 dL_printed_81 rfl (lv_at hl 3 rfl) ?_
          refine lv_iload C.1 C.2.1 dL_printed_82 (lv_at hl 5 rfl) ?_
          refine lv_iconst (v := (1 : Int32)) C.1 C.2.1 dL_printed_84 (by decide) ?_
          obtain ⟨q6, eq6, hf⟩ := g_b hf
          refine cv_L_23 hA C hX hP hS eq6 ⟨Nat.le_of_ble_eq_true rfl, Nat.le_of_ble_eq_true rfl⟩ hl.1 (Nat.le_of_ble_eq_true rfl) dL_printed_85 (fun H locs hP hS => ?_)
          refine lv_aload_n C.1 C.2.1 dL_printed_88 rfl (lv_at hl 1 rfl) ?_
          refine lv_iload_n C.1 C.2.1 dL_printed_89 rfl (lv_at hl 3 rfl) ?_
          refine lv_iload C.1 C.2.1 dL_printed_90 (lv_at hl 5 rfl) ?_
          refine lv_iconst (v := (1 : Int32)) C.1 C.2.1 dL_printed_92 (by decide) ?_
          refine lv_isub C.1 C.2.1 dL_printed_93 ?_
          refine lv_iconst (v := (1 : Int32)) C.1 C.2.1 dL_printed_94 (by decide) ?_
          obtain ⟨q7, eq7, hf⟩ := g_b hf
          refine cv_L_23 hA C hX hP hS eq7 ⟨Nat.le_of_ble_eq_true rfl, Nat.le_of_ble_eq_true rfl⟩ hl.1 (Nat.le_of_ble_eq_true rfl) dL_printed_95 (fun H locs hP hS => ?_)
          refine lv_icmp_ne (tgt := 105) C.1 C.2.1 dL_printed_98 (by decide) (fun hc => ?_) (fun hc => ?_)
          · have hf := g_f hc hf
            refine lv_iconst (v := (0 : Int32)) C.1 C.2.1 dL_printed_105 (by decide) ?_
            exact w_L_printed_106 hA C hX hK4 ih _ _ _ _ _ _ _ _ _ _ hf hP hS (lv_sub hl [1, 2, 3, 4, 5, 0] rfl)
          · have hf := g_t hc hf
            exact w_L_printed_101 hA C hX hK4 ih _ _ _ _ _ _ _ _ _ hf hP hS (lv_sub hl [1, 2, 3, 4, 5, 0] rfl)
      · have hf := g_t hc hf
        refine lv_iload C.1 C.2.1 dL_printed_44 (lv_at hl 0 rfl) ?_
        refine lv_aload_n C.1 C.2.1 dL_printed_46 rfl (lv_at hl 1 rfl) ?_
        refine lv_iload_n C.1 C.2.1 dL_printed_47 rfl (lv_at hl 3 rfl) ?_
        refine lv_iconst (v := (2 : Int32)) C.1 C.2.1 dL_printed_48 (by decide) ?_
        obtain ⟨q8, eq8, hf⟩ := g_b hf
        refine cv_L_15 hA C hX hP hS eq8 ⟨Nat.le_of_ble_eq_true rfl, Nat.le_of_ble_eq_true rfl⟩ hl.1 (Nat.le_of_ble_eq_true rfl) dL_printed_49 (fun H locs hP hS => ?_)
        refine lv_icmp_ge (tgt := 59) C.1 C.2.1 dL_printed_52 (by decide) (fun hc => ?_) (fun hc => ?_)
        · have hf := g_t hc hf
          refine lv_iconst (v := (0 : Int32)) C.1 C.2.1 dL_printed_59 (by decide) ?_
          refine lv_goto (tgt := 106) C.1 C.2.1 dL_printed_60 (by decide) ?_
          exact w_L_printed_106 hA C hX hK4 ih _ _ _ _ _ _ _ _ _ _ hf hP hS (lv_sub hl [1, 2, 3, 4, 5, 0] rfl)
        · have hf := g_f hc hf
          refine lv_iconst (v := (1 : Int32)) C.1 C.2.1 dL_printed_55 (by decide) ?_
          refine lv_goto (tgt := 106) C.1 C.2.1 dL_printed_56 (by decide) ?_
          exact w_L_printed_106 hA C hX hK4 ih _ _ _ _ _ _ _ _ _ _ hf hP hS (lv_sub hl [1, 2, 3, 4, 5, 0] rfl)
set_option maxRecDepth 100000 in
set_option maxHeartbeats 4000000 in
theorem w_L_printed_4 {p : Program} {l : Launch} {e : Env} {s : State} {m : MethodId} {args : Array Value} {below : List Frame} {meth : Method} {c : Code} {D : va_G} {ids : Nat → ClassId} {ad tt : Nat → Nat} {rv : Int32 × Hp} (hA : adOk ad 59) (C : CX p s m args meth c cL_printed 7 (some .boolean) RL D ids) (hX : (ExC tt ad) s s.heap) : ∀ (fu : Nat), ∀ (h : Hp) (x1 : Int32) (x2 : Int32) (H : Heap) (locs : List Loc) (ls : Array Slot), f_L_printed_4 fu h x1 x2 = some rv → wp D (cEC ids ad) ad 59 h H → va_S (inW ad 59) s.heap H locs → lv_has ls 7 [(0, .ref (ad 0)), (1, .int x1), (2, .int x2)] → W p l e rm_L_printed s m args below meth c H locs 0 0 (MQ below (QW D (cEC ids ad) ad 59 (some (.int rv.1)) rv.2) args s 0 0 (inW ad 59)) (F0 m 4 ls []) := by
  intro fu
  induction fu with
  | zero =>
    intro h x1 x2 H locs ls hf hP hS hl
    cases hf
  | succ fu ih =>
    intro h x1 x2 H locs ls hf hP hS hl
    rw [f_L_printed_4_s] at hf
    refine lv_iload_n C.1 C.2.1 dL_printed_4 rfl (lv_at hl 2 rfl) ?_
    refine lv_iconst (v := (3 : Int32)) C.1 C.2.1 dL_printed_5 (by decide) ?_
    refine lv_icmp_ge (tgt := 219) C.1 C.2.1 dL_printed_6 (by decide) (fun hc => ?_) (fun hc => ?_)
    · have hf := g_t hc hf
      refine lv_iload_n C.1 C.2.1 dL_printed_219 rfl (lv_at hl 1 rfl) ?_
      refine lv_aload_n C.1 C.2.1 dL_printed_220 rfl (lv_at hl 0 rfl) ?_
      refine lv_iconst (v := (4 : Int32)) C.1 C.2.1 dL_printed_221 (by decide) ?_
      obtain ⟨q1, eq1, hf⟩ := g_b hf
      refine cv_L_9 hA C hX hP hS eq1 ⟨Nat.le_of_ble_eq_true rfl, Nat.le_of_ble_eq_true rfl⟩ hl.1 (Nat.le_of_ble_eq_true rfl) dL_printed_222 (fun H locs hP hS => ?_)
      refine lv_icmp_ne (tgt := 232) C.1 C.2.1 dL_printed_225 (by decide) (fun hc => ?_) (fun hc => ?_)
      · have hf := g_f hc hf
        refine lv_iconst (v := (0 : Int32)) C.1 C.2.1 dL_printed_232 (by decide) ?_
        obtain rfl := Option.some.inj hf
        exact u_zret C hP hS isb_0 dL_printed_233
      · have hf := g_t hc hf
        refine lv_iconst (v := (1 : Int32)) C.1 C.2.1 dL_printed_228 (by decide) ?_
        refine lv_goto (tgt := 233) C.1 C.2.1 dL_printed_229 (by decide) ?_
        obtain rfl := Option.some.inj hf
        exact u_zret C hP hS isb_1 dL_printed_233
    · have hf := g_f hc hf
      refine lv_aload_n C.1 C.2.1 dL_printed_9 rfl (lv_at hl 0 rfl) ?_
      refine lv_iload_n C.1 C.2.1 dL_printed_10 rfl (lv_at hl 2 rfl) ?_
      refine lv_iconst (v := (4 : Int32)) C.1 C.2.1 dL_printed_11 (by decide) ?_
      obtain ⟨q2, eq2, hf⟩ := g_b hf
      refine cv_L_15 hA C hX hP hS eq2 ⟨Nat.le_of_ble_eq_true rfl, Nat.le_of_ble_eq_true rfl⟩ hl.1 (Nat.le_of_ble_eq_true rfl) dL_printed_12 (fun H locs hP hS => ?_)
      refine lv_istore_n (lv' := [(3, .int q2.1), (0, .ref (ad 0)), (1, .int x1), (2, .int x2)]) C.1 C.2.1 dL_printed_15 rfl hl (by decide) rfl (fun ls hl => ?_)
      refine lv_iload_n C.1 C.2.1 dL_printed_16 rfl (lv_at hl 2 rfl) ?_
      refine lv_iload_n C.1 C.2.1 dL_printed_17 rfl (lv_at hl 0 rfl) ?_
      refine lv_iadd C.1 C.2.1 dL_printed_18 ?_
      refine lv_istore_n (lv' := [(1, .int (x1 + q2.1)), (3, .int q2.1), (0, .ref (ad 0)), (2, .int x2)]) C.1 C.2.1 dL_printed_19 rfl hl (by decide) rfl (fun ls hl => ?_)
      refine lv_iconst (v := (0 : Int32)) C.1 C.2.1 dL_printed_20 (by decide) ?_
      refine lv_istore (lv' := [(4, .int (0 : Int32)), (1, .int (x1 + q2.1)), (3, .int q2.1), (0, .ref (ad 0)), (2, .int x2)]) C.1 C.2.1 dL_printed_21 hl (by decide) rfl (fun ls hl => ?_)
      exact w_L_printed_23 hA C hX ih _ _ _ _ _ _ _ _ _ hf hP hS (lv_sub hl [3, 1, 4, 2, 0] rfl)
set_option maxRecDepth 100000 in
set_option maxHeartbeats 4000000 in
theorem w_L_printed {p : Program} {l : Launch} {e : Env} {s : State} {m : MethodId} {args : Array Value} {below : List Frame} {meth : Method} {c : Code} {D : va_G} {ids : Nat → ClassId} {ad tt : Nat → Nat} {rv : Int32 × Hp} (hA : adOk ad 59) (C : CX p s m args meth c cL_printed 7 (some .boolean) RL D ids) (hX : (ExC tt ad) s s.heap) : ∀ (h : Hp) (H : Heap) (locs : List Loc) (ls : Array Slot), f_L_printed h = some rv → wp D (cEC ids ad) ad 59 h H → va_S (inW ad 59) s.heap H locs → lv_has ls 7 [(0, .ref (ad 0))] → W p l e rm_L_printed s m args below meth c H locs 0 0 (MQ below (QW D (cEC ids ad) ad 59 (some (.int rv.1)) rv.2) args s 0 0 (inW ad 59)) (F0 m 0 ls []) := by
  intro h H locs ls hf hP hS hl
  unfold f_L_printed at hf
  refine lv_iconst (v := (0 : Int32)) C.1 C.2.1 dL_printed_0 (by decide) ?_
  refine lv_istore_n (lv' := [(1, .int (0 : Int32)), (0, .ref (ad 0))]) C.1 C.2.1 dL_printed_1 rfl hl (by decide) rfl (fun ls hl => ?_)
  refine lv_iconst (v := (0 : Int32)) C.1 C.2.1 dL_printed_2 (by decide) ?_
  refine lv_istore_n (lv' := [(2, .int (0 : Int32)), (1, .int (0 : Int32)), (0, .ref (ad 0))]) C.1 C.2.1 dL_printed_3 rfl hl (by decide) rfl (fun ls hl => ?_)
  exact w_L_printed_4 hA C hX _ _ _ _ _ _ _ hf hP hS (lv_sub hl [2, 1, 0] rfl)
theorem c_L_printed (l : Launch) (D : va_G) (ids : Nat → ClassId) (ad tt : Nat → Nat) (hA : adOk ad 59) {h : Hp} {rv : Int32 × Hp} (hf : f_L_printed h = some rv) : Met l yL_printed (ws_ yL_printed cL_printed 7 (some .boolean)) rm_L_printed (va_Pc [.ref (ad 0)] (WB D ids (cEC ids ad) ad 59 (ExC tt ad) h)) (QW D (cEC ids ad) ad 59 (some (.int rv.1)) rv.2) 0 0 (inW ad 59) :=
  u_met (own := RL) (by decide) rfl (Nat.le_of_ble_eq_true rfl) rfl (fun p e s m args below meth c H ls C hX hP hS hl => w_L_printed (tt := tt) hA C hX _ _ _ _ hf hP hS hl)
abbrev rm_L_accounts : Room := { frames := 6, cells := 0, slots := 0, locals := 131 }
set_option maxRecDepth 100000 in
set_option maxHeartbeats 4000000 in
theorem w_L_accounts_15 {p : Program} {l : Launch} {e : Env} {s : State} {m : MethodId} {args : Array Value} {below : List Frame} {meth : Method} {c : Code} {D : va_G} {ids : Nat → ClassId} {ad tt : Nat → Nat} {rv : Int32 × Hp} (hA : adOk ad 59) (C : CX p s m args meth c cL_accounts 7 (some .boolean) RL D ids) (hX : (ExC tt ad) s s.heap) : ∀ (fu : Nat), ∀ (h : Hp) (x1 : Int32) (x2 : Int32) (x3 : Int32) (x4 : Int32) (x5 : Int32) (x6 : Int32) (H : Heap) (locs : List Loc) (ls : Array Slot), f_L_accounts_15 fu h x1 x2 x3 x4 x5 x6 = some rv → wp D (cEC ids ad) ad 59 h H → va_S (inW ad 59) s.heap H locs → lv_has ls 7 [(0, .ref (ad 0)), (1, .int x1), (2, .int x2), (3, .int x3), (4, .int x4), (5, .int x5), (6, .int x6)] → W p l e rm_L_accounts s m args below meth c H locs 0 0 (MQ below (QW D (cEC ids ad) ad 59 (some (.int rv.1)) rv.2) args s 0 0 (inW ad 59)) (F0 m 15 ls []) := by
  intro fu
  induction fu with
  | zero =>
    intro h x1 x2 x3 x4 x5 x6 H locs ls hf hP hS hl
    cases hf
  | succ fu ih =>
    intro h x1 x2 x3 x4 x5 x6 H locs ls hf hP hS hl
    rw [f_L_accounts_15_s] at hf
    refine lv_iload C.1 C.2.1 dL_accounts_15 (lv_at hl 6 rfl) ?_
    refine lv_iconst (v := (3 : Int32)) C.1 C.2.1 dL_accounts_17 (by decide) ?_
    refine lv_icmp_ge (tgt := 106) C.1 C.2.1 dL_accounts_18 (by decide) (fun hc => ?_) (fun hc => ?_)
    · have hf := g_t hc hf
      refine lv_iload_n C.1 C.2.1 dL_accounts_106 rfl (lv_at hl 1 rfl) ?_
      refine lv_aload_n C.1 C.2.1 dL_accounts_107 rfl (lv_at hl 0 rfl) ?_
      refine lv_iconst (v := (5 : Int32)) C.1 C.2.1 dL_accounts_108 (by decide) ?_
      obtain ⟨q1, eq1, hf⟩ := g_b hf
      refine cv_L_9 hA C hX hP hS eq1 ⟨Nat.le_of_ble_eq_true rfl, Nat.le_of_ble_eq_true rfl⟩ hl.1 (Nat.le_of_ble_eq_true rfl) dL_accounts_109 (fun H locs hP hS => ?_)
      refine lv_icmp_ne (tgt := 161) C.1 C.2.1 dL_accounts_112 (by decide) (fun hc => ?_) (fun hc => ?_)
      · have hf := g_f hc hf
        refine lv_iconst (v := (0 : Int32)) C.1 C.2.1 dL_accounts_161 (by decide) ?_
        obtain rfl := Option.some.inj hf
        exact u_zret C hP hS isb_0 dL_accounts_162
      · have hf := g_t hc hf
        refine lv_iload_n C.1 C.2.1 dL_accounts_115 rfl (lv_at hl 2 rfl) ?_
        refine lv_aload_n C.1 C.2.1 dL_accounts_116 rfl (lv_at hl 0 rfl) ?_
        refine lv_bipush (v := (6 : Int32)) C.1 C.2.1 dL_accounts_117 (by decide) ?_
        obtain ⟨q2, eq2, hf⟩ := g_b hf
        refine cv_L_9 hA C hX hP hS eq2 ⟨Nat.le_of_ble_eq_true rfl, Nat.le_of_ble_eq_true rfl⟩ hl.1 (Nat.le_of_ble_eq_true rfl) dL_accounts_119 (fun H locs hP hS => ?_)
        refine lv_icmp_ne (tgt := 161) C.1 C.2.1 dL_accounts_122 (by decide) (fun hc => ?_) (fun hc => ?_)
        · have hf := g_f hc hf
          refine lv_iconst (v := (0 : Int32)) C.1 C.2.1 dL_accounts_161 (by decide) ?_
          obtain rfl := Option.some.inj hf
          exact u_zret C hP hS isb_0 dL_accounts_162
        · have hf := g_t hc hf
          refine lv_iload_n C.1 C.2.1 dL_accounts_125 rfl (lv_at hl 3 rfl) ?_
          refine lv_aload_n C.1 C.2.1 dL_accounts_126 rfl (lv_at hl 0 rfl) ?_
          refine lv_bipush (v := (8 : Int32)) C.1 C.2.1 dL_accounts_127 (by decide) ?_
          obtain ⟨q3, eq3, hf⟩ := g_b hf
          refine cv_L_9 hA C hX hP hS eq3 ⟨Nat.le_of_ble_eq_true rfl, Nat.le_of_ble_eq_true rfl⟩ hl.1 (Nat.le_of_ble_eq_true rfl) dL_accounts_129 (fun H locs hP hS => ?_)
          refine lv_icmp_ne (tgt := 161) C.1 C.2.1 dL_accounts_132 (by decide) (fun hc => ?_) (fun hc => ?_)
          · have hf := g_f hc hf
            refine lv_iconst (v := (0 : Int32)) C.1 C.2.1 dL_accounts_161 (by decide) ?_
            obtain rfl := Option.some.inj hf
            exact u_zret C hP hS isb_0 dL_accounts_162
          · have hf := g_t hc hf
            refine lv_iload C.1 C.2.1 dL_accounts_135 (lv_at hl 4 rfl) ?_
            refine lv_aload_n C.1 C.2.1 dL_accounts_137 rfl (lv_at hl 0 rfl) ?_
            refine lv_bipush (v := (9 : Int32)) C.1 C.2.1 dL_accounts_138 (by decide) ?_
            obtain ⟨q4, eq4, hf⟩ := g_b hf
            refine cv_L_9 hA C hX hP hS eq4 ⟨Nat.le_of_ble_eq_true rfl, Nat.le_of_ble_eq_true rfl⟩ hl.1 (Nat.le_of_ble_eq_true rfl) dL_accounts_140 (fun H locs hP hS => ?_)
            refine lv_icmp_ne (tgt := 161) C.1 C.2.1 dL_accounts_143 (by decide) (fun hc => ?_) (fun hc => ?_)
            · have hf := g_f hc hf
              refine lv_iconst (v := (0 : Int32)) C.1 C.2.1 dL_accounts_161 (by decide) ?_
              obtain rfl := Option.some.inj hf
              exact u_zret C hP hS isb_0 dL_accounts_162
            · have hf := g_t hc hf
              refine lv_iload C.1 C.2.1 dL_accounts_146 (lv_at hl 5 rfl) ?_
              refine lv_aload_n C.1 C.2.1 dL_accounts_148 rfl (lv_at hl 0 rfl) ?_
              refine lv_bipush (v := (7 : Int32)) C.1 C.2.1 dL_accounts_149 (by decide) ?_
              obtain ⟨q5, eq5, hf⟩ := g_b hf
              refine cv_L_9 hA C hX hP hS eq5 ⟨Nat.le_of_ble_eq_true rfl, Nat.le_of_ble_eq_true rfl⟩ hl.1 (Nat.le_of_ble_eq_true rfl) dL_accounts_151 (fun H locs hP hS => ?_)
              refine lv_icmp_lt (tgt := 161) C.1 C.2.1 dL_accounts_154 (by decide) (fun hc => ?_) (fun hc => ?_)
              · have hf := g_t hc hf
                refine lv_iconst (v := (0 : Int32)) C.1 C.2.1 dL_accounts_161 (by decide) ?_
                obtain rfl := Option.some.inj hf
                exact u_zret C hP hS isb_0 dL_accounts_162
              · have hf := g_f hc hf
                refine lv_iconst (v := (1 : Int32)) C.1 C.2.1 dL_accounts_157 (by decide) ?_
                refine lv_goto (tgt := 162) C.1 C.2.1 dL_accounts_158 (by decide) ?_
                obtain rfl := Option.some.inj hf
                exact u_zret C hP hS isb_1 dL_accounts_162
    · have hf := g_f hc hf
      refine lv_iload_n C.1 C.2.1 dL_accounts_21 rfl (lv_at hl 1 rfl) ?_
      refine lv_aload_n C.1 C.2.1 dL_accounts_22 rfl (lv_at hl 0 rfl) ?_
      refine lv_iload C.1 C.2.1 dL_accounts_23 (lv_at hl 6 rfl) ?_
      refine lv_iconst (v := (5 : Int32)) C.1 C.2.1 dL_accounts_25 (by decide) ?_
      obtain ⟨q6, eq6, hf⟩ := g_b hf
      refine cv_L_15 hA C hX hP hS eq6 ⟨Nat.le_of_ble_eq_true rfl, Nat.le_of_ble_eq_true rfl⟩ hl.1 (Nat.le_of_ble_eq_true rfl) dL_accounts_26 (fun H locs hP hS => ?_)
      refine lv_iadd C.1 C.2.1 dL_accounts_29 ?_
      refine lv_istore_n (lv' := [(1, .int (x1 + q6.1)), (0, .ref (ad 0)), (2, .int x2), (3, .int x3), (4, .int x4), (5, .int x5), (6, .int x6)]) C.1 C.2.1 dL_accounts_30 rfl hl (by decide) rfl (fun ls hl => ?_)
      refine lv_iload_n C.1 C.2.1 dL_accounts_31 rfl (lv_at hl 3 rfl) ?_
      refine lv_aload_n C.1 C.2.1 dL_accounts_32 rfl (lv_at hl 1 rfl) ?_
      refine lv_iload C.1 C.2.1 dL_accounts_33 (lv_at hl 6 rfl) ?_
      refine lv_bipush (v := (6 : Int32)) C.1 C.2.1 dL_accounts_35 (by decide) ?_
      obtain ⟨q7, eq7, hf⟩ := g_b hf
      refine cv_L_15 hA C hX hP hS eq7 ⟨Nat.le_of_ble_eq_true rfl, Nat.le_of_ble_eq_true rfl⟩ hl.1 (Nat.le_of_ble_eq_true rfl) dL_accounts_37 (fun H locs hP hS => ?_)
      refine lv_iadd C.1 C.2.1 dL_accounts_40 ?_
      refine lv_istore_n (lv' := [(3, .int (x3 + q7.1)), (1, .int (x1 + q6.1)), (0, .ref (ad 0)), (2, .int x2), (4, .int x4), (5, .int x5), (6, .int x6)]) C.1 C.2.1 dL_accounts_41 rfl hl (by decide) rfl (fun ls hl => ?_)
      refine lv_iload C.1 C.2.1 dL_accounts_42 (lv_at hl 4 rfl) ?_
      refine lv_aload_n C.1 C.2.1 dL_accounts_44 rfl (lv_at hl 2 rfl) ?_
      refine lv_iload C.1 C.2.1 dL_accounts_45 (lv_at hl 6 rfl) ?_
      refine lv_bipush (v := (7 : Int32)) C.1 C.2.1 dL_accounts_47 (by decide) ?_
      obtain ⟨q8, eq8, hf⟩ := g_b hf
      refine cv_L_15 hA C hX hP hS eq8 ⟨Nat.le_of_ble_eq_true rfl, Nat.le_of_ble_eq_true rfl⟩ hl.1 (Nat.le_of_ble_eq_true rfl) dL_accounts_49 (fun H locs hP hS => ?_)
      refine lv_iadd C.1 C.2.1 dL_accounts_52 ?_
      refine lv_istore (lv' := [(4, .int (x4 + q8.1)), (3, .int (x3 + q7.1)), (1, .int (x1 + q6.1)), (0, .ref (ad 0)), (2, .int x2), (5, .int x5), (6, .int x6)]) C.1 C.2.1 dL_accounts_53 hl (by decide) rfl (fun ls hl => ?_)
      refine lv_iload C.1 C.2.1 dL_accounts_55 (lv_at hl 5 rfl) ?_
      refine lv_aload_n C.1 C.2.1 dL_accounts_57 rfl (lv_at hl 3 rfl) ?_
      refine lv_iload C.1 C.2.1 dL_accounts_58 (lv_at hl 6 rfl) ?_
      refine lv_bipush (v := (8 : Int32)) C.1 C.2.1 dL_accounts_60 (by decide) ?_
      obtain ⟨q9, eq9, hf⟩ := g_b hf
      refine cv_L_15 hA C hX hP hS eq9 ⟨Nat.le_of_ble_eq_true rfl, Nat.le_of_ble_eq_true rfl⟩ hl.1 (Nat.le_of_ble_eq_true rfl) dL_accounts_62 (fun H locs hP hS => ?_)
      refine lv_iadd C.1 C.2.1 dL_accounts_65 ?_
      refine lv_istore (lv' := [(5, .int (x5 + q9.1)), (4, .int (x4 + q8.1)), (3, .int (x3 + q7.1)), (1, .int (x1 + q6.1)), (0, .ref (ad 0)), (2, .int x2), (6, .int x6)]) C.1 C.2.1 dL_accounts_66 hl (by decide) rfl (fun ls hl => ?_)
      refine lv_iload_n C.1 C.2.1 dL_accounts_68 rfl (lv_at hl 5 rfl) ?_
      refine lv_aload_n C.1 C.2.1 dL_accounts_69 rfl (lv_at hl 4 rfl) ?_
      refine lv_iload C.1 C.2.1 dL_accounts_70 (lv_at hl 6 rfl) ?_
      refine lv_bipush (v := (9 : Int32)) C.1 C.2.1 dL_accounts_72 (by decide) ?_
      obtain ⟨q10, eq10, hf⟩ := g_b hf
      refine cv_L_15 hA C hX hP hS eq10 ⟨Nat.le_of_ble_eq_true rfl, Nat.le_of_ble_eq_true rfl⟩ hl.1 (Nat.le_of_ble_eq_true rfl) dL_accounts_74 (fun H locs hP hS => ?_)
      refine lv_iadd C.1 C.2.1 dL_accounts_77 ?_
      refine lv_istore_n (lv' := [(2, .int (x2 + q10.1)), (5, .int (x5 + q9.1)), (4, .int (x4 + q8.1)), (3, .int (x3 + q7.1)), (1, .int (x1 + q6.1)), (0, .ref (ad 0)), (6, .int x6)]) C.1 C.2.1 dL_accounts_78 rfl hl (by decide) rfl (fun ls hl => ?_)
      refine lv_aload_n C.1 C.2.1 dL_accounts_79 rfl (lv_at hl 5 rfl) ?_
      refine lv_iload C.1 C.2.1 dL_accounts_80 (lv_at hl 6 rfl) ?_
      refine lv_bipush (v := (8 : Int32)) C.1 C.2.1 dL_accounts_82 (by decide) ?_
      obtain ⟨q11, eq11, hf⟩ := g_b hf
      refine cv_L_15 hA C hX hP hS eq11 ⟨Nat.le_of_ble_eq_true rfl, Nat.le_of_ble_eq_true rfl⟩ hl.1 (Nat.le_of_ble_eq_true rfl) dL_accounts_84 (fun H locs hP hS => ?_)
      refine lv_aload_n C.1 C.2.1 dL_accounts_87 rfl (lv_at hl 5 rfl) ?_
      refine lv_iload C.1 C.2.1 dL_accounts_88 (lv_at hl 6 rfl) ?_
      refine lv_bipush (v := (7 : Int32)) C.1 C.2.1 dL_accounts_90 (by decide) ?_
      obtain ⟨q12, eq12, hf⟩ := g_b hf
      refine cv_L_15 hA C hX hP hS eq12 ⟨Nat.le_of_ble_eq_true rfl, Nat.le_of_ble_eq_true rfl⟩ hl.1 (Nat.le_of_ble_eq_true rfl) dL_accounts_92 (fun H locs hP hS => ?_)
      refine lv_icmp_le (tgt := 100) C.1 C.2.1 dL_accounts_95 (by decide) (fun hc => ?_) (fun hc => ?_)
      · have hf := g_t hc hf
        refine lv_iinc (v := (x6 + 1)) (lv' := [(6, .int (x6 + 1)), (2, .int (x2 + q10.1)), (5, .int (x5 + q9.1)), (4, .int (x4 + q8.1)), (3, .int (x3 + q7.1)), (1, .int (x1 + q6.1)), (0, .ref (ad 0))]) C.1 C.2.1 dL_accounts_100 hl (k := 6) rfl (by rfl) (by decide) rfl (fun ls hl => ?_)
        refine lv_goto (tgt := 15) C.1 C.2.1 dL_accounts_103 (by decide) ?_
        exact ih _ _ _ _ _ _ _ _ _ _ hf hP hS (lv_sub hl [6, 5, 1, 4, 3, 2, 0] rfl)
      · have hf := g_f hc hf
        refine lv_iconst (v := (0 : Int32)) C.1 C.2.1 dL_accounts_98 (by decide) ?_
        obtain rfl := Option.some.inj hf
        exact u_zret C hP hS isb_0 dL_accounts_99
set_option maxRecDepth 100000 in
set_option maxHeartbeats 4000000 in
theorem w_L_accounts {p : Program} {l : Launch} {e : Env} {s : State} {m : MethodId} {args : Array Value} {below : List Frame} {meth : Method} {c : Code} {D : va_G} {ids : Nat → ClassId} {ad tt : Nat → Nat} {rv : Int32 × Hp} (hA : adOk ad 59) (C : CX p s m args meth c cL_accounts 7 (some .boolean) RL D ids) (hX : (ExC tt ad) s s.heap) : ∀ (h : Hp) (H : Heap) (locs : List Loc) (ls : Array Slot), f_L_accounts h = some rv → wp D (cEC ids ad) ad 59 h H → va_S (inW ad 59) s.heap H locs → lv_has ls 7 [(0, .ref (ad 0))] → W p l e rm_L_accounts s m args below meth c H locs 0 0 (MQ below (QW D (cEC ids ad) ad 59 (some (.int rv.1)) rv.2) args s 0 0 (inW ad 59)) (F0 m 0 ls []) := by
  intro h H locs ls hf hP hS hl
  unfold f_L_accounts at hf
  refine lv_iconst (v := (0 : Int32)) C.1 C.2.1 dL_accounts_0 (by decide) ?_
  refine lv_istore_n (lv' := [(1, .int (0 : Int32)), (0, .ref (ad 0))]) C.1 C.2.1 dL_accounts_1 rfl hl (by decide) rfl (fun ls hl => ?_)
  refine lv_iconst (v := (0 : Int32)) C.1 C.2.1 dL_accounts_2 (by decide) ?_
  refine lv_istore_n (lv' := [(2, .int (0 : Int32)), (1, .int (0 : Int32)), (0, .ref (ad 0))]) C.1 C.2.1 dL_accounts_3 rfl hl (by decide) rfl (fun ls hl => ?_)
  refine lv_iconst (v := (0 : Int32)) C.1 C.2.1 dL_accounts_4 (by decide) ?_
  refine lv_istore_n (lv' := [(3, .int (0 : Int32)), (2, .int (0 : Int32)), (1, .int (0 : Int32)), (0, .ref (ad 0))]) C.1 C.2.1 dL_accounts_5 rfl hl (by decide) rfl (fun ls hl => ?_)
  refine lv_iconst (v := (0 : Int32)) C.1 C.2.1 dL_accounts_6 (by decide) ?_
  refine lv_istore (lv' := [(4, .int (0 : Int32)), (3, .int (0 : Int32)), (2, .int (0 : Int32)), (1, .int (0 : Int32)), (0, .ref (ad 0))]) C.1 C.2.1 dL_accounts_7 hl (by decide) rfl (fun ls hl => ?_)
  refine lv_iconst (v := (0 : Int32)) C.1 C.2.1 dL_accounts_9 (by decide) ?_
  refine lv_istore (lv' := [(5, .int (0 : Int32)), (4, .int (0 : Int32)), (3, .int (0 : Int32)), (2, .int (0 : Int32)), (1, .int (0 : Int32)), (0, .ref (ad 0))]) C.1 C.2.1 dL_accounts_10 hl (by decide) rfl (fun ls hl => ?_)
  refine lv_iconst (v := (0 : Int32)) C.1 C.2.1 dL_accounts_12 (by decide) ?_
  refine lv_istore (lv' := [(6, .int (0 : Int32)), (5, .int (0 : Int32)), (4, .int (0 : Int32)), (3, .int (0 : Int32)), (2, .int (0 : Int32)), (1, .int (0 : Int32)), (0, .ref (ad 0))]) C.1 C.2.1 dL_accounts_13 hl (by decide) rfl (fun ls hl => ?_)
  exact w_L_accounts_15 hA C hX _ _ _ _ _ _ _ _ _ _ _ hf hP hS (lv_sub hl [6, 5, 4, 3, 2, 1, 0] rfl)
theorem c_L_accounts (l : Launch) (D : va_G) (ids : Nat → ClassId) (ad tt : Nat → Nat) (hA : adOk ad 59) {h : Hp} {rv : Int32 × Hp} (hf : f_L_accounts h = some rv) : Met l yL_accounts (ws_ yL_accounts cL_accounts 7 (some .boolean)) rm_L_accounts (va_Pc [.ref (ad 0)] (WB D ids (cEC ids ad) ad 59 (ExC tt ad) h)) (QW D (cEC ids ad) ad 59 (some (.int rv.1)) rv.2) 0 0 (inW ad 59) :=
  u_met (own := RL) (by decide) rfl (Nat.le_of_ble_eq_true rfl) rfl (fun p e s m args below meth c H ls C hX hP hS hl => w_L_accounts (tt := tt) hA C hX _ _ _ _ hf hP hS hl)
abbrev rm_X7_levelReached : Room := { frames := 2, cells := 0, slots := 0, locals := 42 }
set_option maxRecDepth 100000 in
set_option maxHeartbeats 4000000 in
theorem w_X7_levelReached_56 {p : Program} {l : Launch} {e : Env} {s : State} {m : MethodId} {args : Array Value} {below : List Frame} {meth : Method} {c : Code} {D : va_G} {ids : Nat → ClassId} {ad tt : Nat → Nat} {rv : Int32 × Hp} (hA : adOk ad 59) (C : CX p s m args meth c cX7_levelReached 5 (some .int) RX7 D ids) (hX : (ExC tt ad) s s.heap) {K21 : Hp → Int32 → Int32 → Int32 → Int32 → Option (Int32 × Hp)} (hK21 : ∀ (h : Hp) (x1 : Int32) (x2 : Int32) (x3 : Int32) (x4 : Int32) (H : Heap) (locs : List Loc) (ls : Array Slot), K21 h x1 x2 x3 x4 = some rv → wp D (cEC ids ad) ad 59 h H → va_S (inW ad 59) s.heap H locs → lv_has ls 5 [(1, .int x1), (2, .int x2), (3, .int x3), (4, .int x4)] → W p l e rm_X7_levelReached s m args below meth c H locs 0 0 (MQ below (QW D (cEC ids ad) ad 59 (some (.int rv.1)) rv.2) args s 0 0 (inW ad 59)) (F0 m 21 ls [])) : ∀ (h : Hp) (x1 : Int32) (x2 : Int32) (x3 : Int32) (x4 : Int32) (H : Heap) (locs : List Loc) (ls : Array Slot), f_X7_levelReached_56 K21 h x1 x2 x3 x4 = some rv → wp D (cEC ids ad) ad 59 h H → va_S (inW ad 59) s.heap H locs → lv_has ls 5 [(1, .int x1), (2, .int x2), (3, .int x3), (4, .int x4)] → W p l e rm_X7_levelReached s m args below meth c H locs 0 0 (MQ below (QW D (cEC ids ad) ad 59 (some (.int rv.1)) rv.2) args s 0 0 (inW ad 59)) (F0 m 56 ls []) := by
  intro h x1 x2 x3 x4 H locs ls hf hP hS hl
  unfold f_X7_levelReached_56 at hf
  refine lv_iinc (v := (x4 + 1)) (lv' := [(4, .int (x4 + 1)), (1, .int x1), (2, .int x2), (3, .int x3)]) C.1 C.2.1 dX7_levelReached_56 hl (k := 3) rfl (by rfl) (by decide) rfl (fun ls hl => ?_)
  refine lv_goto (tgt := 21) C.1 C.2.1 dX7_levelReached_59 (by decide) ?_
  exact hK21 _ _ _ _ _ _ _ _ hf hP hS (lv_sub hl [1, 2, 3, 0] rfl)
set_option maxRecDepth 100000 in
set_option maxHeartbeats 4000000 in
theorem w_X7_levelReached_37 {p : Program} {l : Launch} {e : Env} {s : State} {m : MethodId} {args : Array Value} {below : List Frame} {meth : Method} {c : Code} {D : va_G} {ids : Nat → ClassId} {ad tt : Nat → Nat} {rv : Int32 × Hp} (hA : adOk ad 59) (C : CX p s m args meth c cX7_levelReached 5 (some .int) RX7 D ids) (hX : (ExC tt ad) s s.heap) {K21 : Hp → Int32 → Int32 → Int32 → Int32 → Option (Int32 × Hp)} (hK21 : ∀ (h : Hp) (x1 : Int32) (x2 : Int32) (x3 : Int32) (x4 : Int32) (H : Heap) (locs : List Loc) (ls : Array Slot), K21 h x1 x2 x3 x4 = some rv → wp D (cEC ids ad) ad 59 h H → va_S (inW ad 59) s.heap H locs → lv_has ls 5 [(1, .int x1), (2, .int x2), (3, .int x3), (4, .int x4)] → W p l e rm_X7_levelReached s m args below meth c H locs 0 0 (MQ below (QW D (cEC ids ad) ad 59 (some (.int rv.1)) rv.2) args s 0 0 (inW ad 59)) (F0 m 21 ls [])) : ∀ (h : Hp) (x1 : Int32) (x3 : Int32) (x4 : Int32) (t0 : Int32) (t1 : Int32) (H : Heap) (locs : List Loc) (ls : Array Slot), f_X7_levelReached_37 K21 h x1 x3 x4 t0 t1 = some rv → wp D (cEC ids ad) ad 59 h H → va_S (inW ad 59) s.heap H locs → lv_has ls 5 [(1, .int x1), (3, .int x3), (4, .int x4)] → W p l e rm_X7_levelReached s m args below meth c H locs 0 0 (MQ below (QW D (cEC ids ad) ad 59 (some (.int rv.1)) rv.2) args s 0 0 (inW ad 59)) (F0 m 37 ls [.int t1, .int t0]) := by
  intro h x1 x3 x4 t0 t1 H locs ls hf hP hS hl
  unfold f_X7_levelReached_37 at hf
  refine lv_iadd C.1 C.2.1 dX7_levelReached_37 ?_
  refine lv_istore_n (lv' := [(2, .int (t0 + t1)), (1, .int x1), (3, .int x3), (4, .int x4)]) C.1 C.2.1 dX7_levelReached_38 rfl hl (by decide) rfl (fun ls hl => ?_)
  refine lv_iload_n C.1 C.2.1 dX7_levelReached_39 rfl (lv_at hl 0 rfl) ?_
  refine lv_if_ne (tgt := 48) C.1 C.2.1 dX7_levelReached_40 (by decide) (fun hc => ?_) (fun hc => ?_)
  · have hf := g_f hc hf
    refine lv_iload_n C.1 C.2.1 dX7_levelReached_48 rfl (lv_at hl 0 rfl) ?_
    refine lv_bipush (v := (6 : Int32)) C.1 C.2.1 dX7_levelReached_49 (by decide) ?_
    refine lv_icmp_ne (tgt := 56) C.1 C.2.1 dX7_levelReached_51 (by decide) (fun hc => ?_) (fun hc => ?_)
    · have hf := g_f hc hf
      exact w_X7_levelReached_56 hA C hX hK21 _ _ _ _ _ _ _ _ hf hP hS (lv_sub hl [1, 0, 2, 3] rfl)
    · have hf := g_t hc hf
      refine lv_iconst (v := (1 : Int32)) C.1 C.2.1 dX7_levelReached_54 (by decide) ?_
      refine lv_istore_n (lv' := [(3, .int (1 : Int32)), (2, .int (t0 + t1)), (1, .int x1), (4, .int x4)]) C.1 C.2.1 dX7_levelReached_55 rfl hl (by decide) rfl (fun ls hl => ?_)
      exact w_X7_levelReached_56 hA C hX hK21 _ _ _ _ _ _ _ _ hf hP hS (lv_sub hl [2, 1, 0, 3] rfl)
  · have hf := g_t hc hf
    refine lv_iconst (v := (0 : Int32)) C.1 C.2.1 dX7_levelReached_43 (by decide) ?_
    refine lv_istore_n (lv' := [(3, .int (0 : Int32)), (2, .int (t0 + t1)), (1, .int x1), (4, .int x4)]) C.1 C.2.1 dX7_levelReached_44 rfl hl (by decide) rfl (fun ls hl => ?_)
    refine lv_goto (tgt := 56) C.1 C.2.1 dX7_levelReached_45 (by decide) ?_
    exact w_X7_levelReached_56 hA C hX hK21 _ _ _ _ _ _ _ _ hf hP hS (lv_sub hl [2, 1, 0, 3] rfl)
set_option maxRecDepth 100000 in
set_option maxHeartbeats 4000000 in
theorem w_X7_levelReached_21 {p : Program} {l : Launch} {e : Env} {s : State} {m : MethodId} {args : Array Value} {below : List Frame} {meth : Method} {c : Code} {D : va_G} {ids : Nat → ClassId} {ad tt : Nat → Nat} {rv : Int32 × Hp} (hA : adOk ad 59) (C : CX p s m args meth c cX7_levelReached 5 (some .int) RX7 D ids) (hX : (ExC tt ad) s s.heap) : ∀ (fu : Nat), ∀ (h : Hp) (x1 : Int32) (x2 : Int32) (x3 : Int32) (x4 : Int32) (H : Heap) (locs : List Loc) (ls : Array Slot), f_X7_levelReached_21 fu h x1 x2 x3 x4 = some rv → wp D (cEC ids ad) ad 59 h H → va_S (inW ad 59) s.heap H locs → lv_has ls 5 [(1, .int x1), (2, .int x2), (3, .int x3), (4, .int x4)] → W p l e rm_X7_levelReached s m args below meth c H locs 0 0 (MQ below (QW D (cEC ids ad) ad 59 (some (.int rv.1)) rv.2) args s 0 0 (inW ad 59)) (F0 m 21 ls []) := by
  intro fu
  induction fu with
  | zero =>
    intro h x1 x2 x3 x4 H locs ls hf hP hS hl
    cases hf
  | succ fu ih =>
    intro h x1 x2 x3 x4 H locs ls hf hP hS hl
    rw [f_X7_levelReached_21_s] at hf
    refine lv_iload C.1 C.2.1 dX7_levelReached_21 (lv_at hl 3 rfl) ?_
    refine lv_iload_n C.1 C.2.1 dX7_levelReached_23 rfl (lv_at hl 0 rfl) ?_
    refine lv_icmp_ge (tgt := 62) C.1 C.2.1 dX7_levelReached_24 (by decide) (fun hc => ?_) (fun hc => ?_)
    · have hf := g_t hc hf
      refine lv_iload_n C.1 C.2.1 dX7_levelReached_62 rfl (lv_at hl 1 rfl) ?_
      obtain rfl := Option.some.inj hf
      exact u_iret C hP hS dX7_levelReached_63
    · have hf := g_f hc hf
      refine lv_iload_n C.1 C.2.1 dX7_levelReached_27 rfl (lv_at hl 1 rfl) ?_
      refine lv_iload_n C.1 C.2.1 dX7_levelReached_28 rfl (lv_at hl 2 rfl) ?_
      refine lv_if_eq (tgt := 36) C.1 C.2.1 dX7_levelReached_29 (by decide) (fun hc => ?_) (fun hc => ?_)
      · have hf := g_t hc hf
        refine lv_iconst (v := (1 : Int32)) C.1 C.2.1 dX7_levelReached_36 (by decide) ?_
        exact w_X7_levelReached_37 hA C hX ih _ _ _ _ _ _ _ _ _ hf hP hS (lv_sub hl [0, 2, 3] rfl)
      · have hf := g_f hc hf
        refine lv_iconst (v := (-1 : Int32)) C.1 C.2.1 dX7_levelReached_32 (by decide) ?_
        refine lv_goto (tgt := 37) C.1 C.2.1 dX7_levelReached_33 (by decide) ?_
        exact w_X7_levelReached_37 hA C hX ih _ _ _ _ _ _ _ _ _ hf hP hS (lv_sub hl [0, 2, 3] rfl)
set_option maxRecDepth 100000 in
set_option maxHeartbeats 4000000 in
theorem w_X7_levelReached_17 {p : Program} {l : Launch} {e : Env} {s : State} {m : MethodId} {args : Array Value} {below : List Frame} {meth : Method} {c : Code} {D : va_G} {ids : Nat → ClassId} {ad tt : Nat → Nat} {rv : Int32 × Hp} (hA : adOk ad 59) (C : CX p s m args meth c cX7_levelReached 5 (some .int) RX7 D ids) (hX : (ExC tt ad) s s.heap) : ∀ (h : Hp) (x1 : Int32) (x2 : Int32) (t0 : Int32) (H : Heap) (locs : List Loc) (ls : Array Slot), f_X7_levelReached_17 h x1 x2 t0 = some rv → wp D (cEC ids ad) ad 59 h H → va_S (inW ad 59) s.heap H locs → lv_has ls 5 [(1, .int x1), (2, .int x2)] → W p l e rm_X7_levelReached s m args below meth c H locs 0 0 (MQ below (QW D (cEC ids ad) ad 59 (some (.int rv.1)) rv.2) args s 0 0 (inW ad 59)) (F0 m 17 ls [.int t0]) := by
  intro h x1 x2 t0 H locs ls hf hP hS hl
  unfold f_X7_levelReached_17 at hf
  refine lv_istore_n (lv' := [(3, .int t0), (1, .int x1), (2, .int x2)]) C.1 C.2.1 dX7_levelReached_17 rfl hl (by decide) rfl (fun ls hl => ?_)
  refine lv_iconst (v := (0 : Int32)) C.1 C.2.1 dX7_levelReached_18 (by decide) ?_
  refine lv_istore (lv' := [(4, .int (0 : Int32)), (3, .int t0), (1, .int x1), (2, .int x2)]) C.1 C.2.1 dX7_levelReached_19 hl (by decide) rfl (fun ls hl => ?_)
  exact w_X7_levelReached_21 hA C hX _ _ _ _ _ _ _ _ _ hf hP hS (lv_sub hl [2, 3, 1, 0] rfl)
set_option maxRecDepth 100000 in
set_option maxHeartbeats 4000000 in
theorem w_X7_levelReached {p : Program} {l : Launch} {e : Env} {s : State} {m : MethodId} {args : Array Value} {below : List Frame} {meth : Method} {c : Code} {D : va_G} {ids : Nat → ClassId} {ad tt : Nat → Nat} {rv : Int32 × Hp} (hA : adOk ad 59) (C : CX p s m args meth c cX7_levelReached 5 (some .int) RX7 D ids) (hX : (ExC tt ad) s s.heap) : ∀ (h : Hp) (a1 : Int32) (a2 : Int32) (H : Heap) (locs : List Loc) (ls : Array Slot), f_X7_levelReached h a1 a2 = some rv → wp D (cEC ids ad) ad 59 h H → va_S (inW ad 59) s.heap H locs → lv_has ls 5 [(0, .int a1), (1, .int a2)] → W p l e rm_X7_levelReached s m args below meth c H locs 0 0 (MQ below (QW D (cEC ids ad) ad 59 (some (.int rv.1)) rv.2) args s 0 0 (inW ad 59)) (F0 m 0 ls []) := by
  intro h a1 a2 H locs ls hf hP hS hl
  unfold f_X7_levelReached at hf
  refine lv_iload_n C.1 C.2.1 dX7_levelReached_0 rfl (lv_at hl 0 rfl) ?_
  refine lv_iconst (v := (0 : Int32)) C.1 C.2.1 dX7_levelReached_1 (by decide) ?_
  obtain ⟨q1, eq1, hf⟩ := g_b hf
  refine cv_X7_148 hA C hX hP hS eq1 ⟨Nat.le_of_ble_eq_true rfl, Nat.le_of_ble_eq_true rfl⟩ hl.1 (Nat.le_of_ble_eq_true rfl) dX7_levelReached_2 (fun H locs hP hS => ?_)
  refine lv_istore_n (lv' := [(2, .int q1.1), (0, .int a1), (1, .int a2)]) C.1 C.2.1 dX7_levelReached_5 rfl hl (by decide) rfl (fun ls hl => ?_)
  refine lv_iload_n C.1 C.2.1 dX7_levelReached_6 rfl (lv_at hl 1 rfl) ?_
  refine lv_bipush (v := (6 : Int32)) C.1 C.2.1 dX7_levelReached_7 (by decide) ?_
  refine lv_icmp_ge (tgt := 16) C.1 C.2.1 dX7_levelReached_9 (by decide) (fun hc => ?_) (fun hc => ?_)
  · have hf := g_t hc hf
    refine lv_iconst (v := (0 : Int32)) C.1 C.2.1 dX7_levelReached_16 (by decide) ?_
    exact w_X7_levelReached_17 hA C hX _ _ _ _ _ _ _ hf hP hS (lv_sub hl [2, 0] rfl)
  · have hf := g_f hc hf
    refine lv_iconst (v := (1 : Int32)) C.1 C.2.1 dX7_levelReached_12 (by decide) ?_
    refine lv_goto (tgt := 17) C.1 C.2.1 dX7_levelReached_13 (by decide) ?_
    exact w_X7_levelReached_17 hA C hX _ _ _ _ _ _ _ hf hP hS (lv_sub hl [2, 0] rfl)
theorem c_X7_levelReached (l : Launch) (D : va_G) (ids : Nat → ClassId) (ad tt : Nat → Nat) (hA : adOk ad 59) {a1 : Int32} {a2 : Int32} {h : Hp} {rv : Int32 × Hp} (hf : f_X7_levelReached h a1 a2 = some rv) : Met l yX7_levelReached (ws_ yX7_levelReached cX7_levelReached 5 (some .int)) rm_X7_levelReached (va_Pc [.int a1, .int a2] (WB D ids (cEC ids ad) ad 59 (ExC tt ad) h)) (QW D (cEC ids ad) ad 59 (some (.int rv.1)) rv.2) 0 0 (inW ad 59) :=
  u_met (own := RX7) (by decide) rfl (Nat.le_of_ble_eq_true rfl) rfl (fun p e s m args below meth c H ls C hX hP hS hl => w_X7_levelReached (tt := tt) hA C hX _ _ _ _ _ _ hf hP hS hl)
theorem cv_X7_152 {p : Program} {l : Launch} {e : Env} {R : Room} {s : State} {m : MethodId} {args : Array Value} {below : List Frame} {meth : Method} {c : Code} {H : Heap} {locs : List Loc} {Q : State → Prop} {cc : ByteArray} {nL : Nat} {ret : Option FieldType} {pc : Nat} {ls : Array Slot} {rest : List Value} {D : va_G} {ids : Nat → ClassId} {ad tt : Nat → Nat} {h : Hp} (hA : adOk ad 59) (C : CX p s m args meth c cc nL ret RX7 D ids) (hX : (ExC tt ad) s s.heap) (hP : wp D (cEC ids ad) ad 59 h H) (hS : va_S (inW ad 59) s.heap H locs) {a1 : Int32} {a2 : Int32} {rv : Int32 × Hp} (hf : f_X7_levelReached h a1 a2 = some rv) (hR : 2 + 1 ≤ R.frames ∧ 8 + (5 + 11) + 42 ≤ R.locals) (hsz : ls.size = nL) (hcat : (rest.map fun v => v.category).sum ≤ 8) (hdg : decode cc pc = .ok (.invokestatic 152, 3)) (kk : ∀ (H1 : Heap) (locs1 : List Loc), wp D (cEC ids ad) ad 59 rv.2 H1 → va_S (inW ad 59) s.heap H1 locs1 → W p l e R s m args below meth c H1 locs1 0 0 Q (F0 m (pc + 3) ls (.int rv.1 :: rest))) : W p l e R s m args below meth c H locs 0 0 Q (F0 m pc ls (.int a2 :: .int a1 :: rest)) :=
  u_callS (As := [.int a1, .int a2]) (rv := (some (.int rv.1))) C (exC_ok hA) hX (c_X7_levelReached l D ids ad tt hA hf) q_404 q_405 q_2 q_406 ⟨rfl, rfl⟩ (by refine ⟨by decide +kernel, by decide +kernel, ?_⟩; show _ = some 2; decide +kernel) hR hP hS hsz hcat rfl hdg kk
abbrev rm_X7_level : Room := { frames := 3, cells := 0, slots := 0, locals := 66 }
set_option maxRecDepth 100000 in
set_option maxHeartbeats 4000000 in
theorem w_X7_level_65 {p : Program} {l : Launch} {e : Env} {s : State} {m : MethodId} {args : Array Value} {below : List Frame} {meth : Method} {c : Code} {D : va_G} {ids : Nat → ClassId} {ad tt : Nat → Nat} {rv : Int32 × Hp} (hA : adOk ad 59) (C : CX p s m args meth c cX7_level 6 (some .int) RX7 D ids) (hX : (ExC tt ad) s s.heap) : ∀ (h : Hp) (x2 : Int32) (x3 : Int32) (t0 : Int32) (H : Heap) (locs : List Loc) (ls : Array Slot), f_X7_level_65 h x2 x3 t0 = some rv → wp D (cEC ids ad) ad 59 h H → va_S (inW ad 59) s.heap H locs → lv_has ls 6 [(2, .int x2), (3, .int x3)] → W p l e rm_X7_level s m args below meth c H locs 0 0 (MQ below (QW D (cEC ids ad) ad 59 (some (.int rv.1)) rv.2) args s 0 0 (inW ad 59)) (F0 m 65 ls [.int t0]) := by
  intro h x2 x3 t0 H locs ls hf hP hS hl
  unfold f_X7_level_65 at hf
  refine lv_istore (lv' := [(5, .int t0), (2, .int x2), (3, .int x3)]) C.1 C.2.1 dX7_level_65 hl (by decide) rfl (fun ls hl => ?_)
  refine lv_iload_n C.1 C.2.1 dX7_level_67 rfl (lv_at hl 2 rfl) ?_
  by_cases hc0 : x3 = 0
  · have hf := g_t hc0 hf
    refine lv_lookup (off := 28) (tgt := 96) C.1 C.2.1 dX7_level_68 (by decide) (by rw [hc0]; decide) (by decide) ?_
    refine lv_iload C.1 C.2.1 dX7_level_96 (lv_at hl 0 rfl) ?_
    refine lv_iload_n C.1 C.2.1 dX7_level_98 rfl (lv_at hl 1 rfl) ?_
    obtain ⟨q1, eq1, hf⟩ := g_b hf
    refine cv_X7_148 hA C hX hP hS eq1 ⟨Nat.le_of_ble_eq_true rfl, Nat.le_of_ble_eq_true rfl⟩ hl.1 (Nat.le_of_ble_eq_true rfl) dX7_level_99 (fun H locs hP hS => ?_)
    obtain rfl := Option.some.inj hf
    exact u_iret C hP hS dX7_level_102
  · have hf := g_f hc0 hf
    by_cases hc1 : x3 = 1
    · have hf := g_t hc1 hf
      refine lv_lookup (off := 35) (tgt := 103) C.1 C.2.1 dX7_level_68 (by decide) (by rw [hc1]; decide) (by decide) ?_
      refine lv_iload C.1 C.2.1 dX7_level_103 (lv_at hl 0 rfl) ?_
      refine lv_iload_n C.1 C.2.1 dX7_level_105 rfl (lv_at hl 1 rfl) ?_
      obtain ⟨q2, eq2, hf⟩ := g_b hf
      refine cv_X7_152 hA C hX hP hS eq2 ⟨Nat.le_of_ble_eq_true rfl, Nat.le_of_ble_eq_true rfl⟩ hl.1 (Nat.le_of_ble_eq_true rfl) dX7_level_106 (fun H locs hP hS => ?_)
      obtain rfl := Option.some.inj hf
      exact u_iret C hP hS dX7_level_109
    · have hf := g_f hc1 hf
      refine lv_lookup (off := 42) (tgt := 110) C.1 C.2.1 dX7_level_68 (by decide) (by show Op.lookupswitch.offset [(0, 28), (1, 35)] 42 (x3).toInt = _; rw [lv_osw hc0 (by decide), lv_osw hc1 (by decide)]; rfl) (by decide) ?_
      refine lv_bipush (v := (-2 : Int32)) C.1 C.2.1 dX7_level_110 (by decide) ?_
      obtain rfl := Option.some.inj hf
      exact u_iret C hP hS dX7_level_112
set_option maxRecDepth 100000 in
set_option maxHeartbeats 4000000 in
theorem w_X7_level_17 {p : Program} {l : Launch} {e : Env} {s : State} {m : MethodId} {args : Array Value} {below : List Frame} {meth : Method} {c : Code} {D : va_G} {ids : Nat → ClassId} {ad tt : Nat → Nat} {rv : Int32 × Hp} (hA : adOk ad 59) (C : CX p s m args meth c cX7_level 6 (some .int) RX7 D ids) (hX : (ExC tt ad) s s.heap) : ∀ (h : Hp) (x1 : Int32) (x2 : Int32) (x3 : Int32) (t0 : Int32) (H : Heap) (locs : List Loc) (ls : Array Slot), f_X7_level_17 h x1 x2 x3 t0 = some rv → wp D (cEC ids ad) ad 59 h H → va_S (inW ad 59) s.heap H locs → lv_has ls 6 [(0, .ref (ad 0)), (1, .int x1), (2, .int x2), (3, .int x3)] → W p l e rm_X7_level s m args below meth c H locs 0 0 (MQ below (QW D (cEC ids ad) ad 59 (some (.int rv.1)) rv.2) args s 0 0 (inW ad 59)) (F0 m 17 ls [.int t0]) := by
  intro h x1 x2 x3 t0 H locs ls hf hP hS hl
  unfold f_X7_level_17 at hf
  refine lv_istore (lv' := [(4, .int t0), (0, .ref (ad 0)), (1, .int x1), (2, .int x2), (3, .int x3)]) C.1 C.2.1 dX7_level_17 hl (by decide) rfl (fun ls hl => ?_)
  refine lv_iload C.1 C.2.1 dX7_level_19 (lv_at hl 0 rfl) ?_
  refine lv_if_eq (tgt := 34) C.1 C.2.1 dX7_level_21 (by decide) (fun hc => ?_) (fun hc => ?_)
  · have hf := g_t hc hf
    refine lv_iconst (v := (-1 : Int32)) C.1 C.2.1 dX7_level_34 (by decide) ?_
    obtain rfl := Option.some.inj hf
    exact u_iret C hP hS dX7_level_35
  · have hf := g_f hc hf
    refine lv_iload_n C.1 C.2.1 dX7_level_24 rfl (lv_at hl 3 rfl) ?_
    refine lv_if_lt (tgt := 34) C.1 C.2.1 dX7_level_25 (by decide) (fun hc => ?_) (fun hc => ?_)
    · have hf := g_t hc hf
      refine lv_iconst (v := (-1 : Int32)) C.1 C.2.1 dX7_level_34 (by decide) ?_
      obtain rfl := Option.some.inj hf
      exact u_iret C hP hS dX7_level_35
    · have hf := g_f hc hf
      refine lv_iload_n C.1 C.2.1 dX7_level_28 rfl (lv_at hl 3 rfl) ?_
      refine lv_bipush (v := (24 : Int32)) C.1 C.2.1 dX7_level_29 (by decide) ?_
      refine lv_icmp_lt (tgt := 36) C.1 C.2.1 dX7_level_31 (by decide) (fun hc => ?_) (fun hc => ?_)
      · have hf := g_t hc hf
        refine lv_iload_n C.1 C.2.1 dX7_level_36 rfl (lv_at hl 2 rfl) ?_
        obtain ⟨q1, eq1, hf⟩ := g_b hf
        refine cv_X7_55 hA C hX hP hS eq1 ⟨Nat.le_of_ble_eq_true rfl, Nat.le_of_ble_eq_true rfl⟩ hl.1 (Nat.le_of_ble_eq_true rfl) dX7_level_37 (fun H locs hP hS => ?_)
        refine lv_if_eq (tgt := 58) C.1 C.2.1 dX7_level_40 (by decide) (fun hc => ?_) (fun hc => ?_)
        · have hf := g_t hc hf
          refine lv_aload_n C.1 C.2.1 dX7_level_58 rfl (lv_at hl 1 rfl) ?_
          refine gf_X7_12 C hP dX7_level_59 ?_
          refine gf_X7_91 C pX5_1 hP dX7_level_62 ?_
          exact w_X7_level_65 hA C hX _ _ _ _ _ _ _ hf hP hS (lv_sub hl [3, 4] rfl)
        · have hf := g_f hc hf
          refine lv_aload_n C.1 C.2.1 dX7_level_43 rfl (lv_at hl 1 rfl) ?_
          refine gf_X7_12 C hP dX7_level_44 ?_
          refine gf_X7_63 C pX5_1 hP dX7_level_47 ?_
          refine lv_iload_n C.1 C.2.1 dX7_level_50 rfl (lv_at hl 2 rfl) ?_
          obtain ⟨hg2, hf⟩ := g_if hf
          refine rl_aCap C (cap_of pX5_1) hP hg2 dX7_level_51 ?_
          refine gf_X7_145 C (cp_el (cap_of pX5_1) hg2) hP dX7_level_52 ?_
          refine lv_goto (tgt := 65) C.1 C.2.1 dX7_level_55 (by decide) ?_
          exact w_X7_level_65 hA C hX _ _ _ _ _ _ _ hf hP hS (lv_sub hl [3, 4] rfl)
      · have hf := g_f hc hf
        refine lv_iconst (v := (-1 : Int32)) C.1 C.2.1 dX7_level_34 (by decide) ?_
        obtain rfl := Option.some.inj hf
        exact u_iret C hP hS dX7_level_35
set_option maxRecDepth 100000 in
set_option maxHeartbeats 4000000 in
theorem w_X7_level_12 {p : Program} {l : Launch} {e : Env} {s : State} {m : MethodId} {args : Array Value} {below : List Frame} {meth : Method} {c : Code} {D : va_G} {ids : Nat → ClassId} {ad tt : Nat → Nat} {rv : Int32 × Hp} (hA : adOk ad 59) (C : CX p s m args meth c cX7_level 6 (some .int) RX7 D ids) (hX : (ExC tt ad) s s.heap) : ∀ (h : Hp) (x1 : Int32) (x2 : Int32) (x3 : Int32) (H : Heap) (locs : List Loc) (ls : Array Slot), f_X7_level_12 h x1 x2 x3 = some rv → wp D (cEC ids ad) ad 59 h H → va_S (inW ad 59) s.heap H locs → lv_has ls 6 [(0, .ref (ad 0)), (1, .int x1), (2, .int x2), (3, .int x3)] → W p l e rm_X7_level s m args below meth c H locs 0 0 (MQ below (QW D (cEC ids ad) ad 59 (some (.int rv.1)) rv.2) args s 0 0 (inW ad 59)) (F0 m 12 ls []) := by
  intro h x1 x2 x3 H locs ls hf hP hS hl
  unfold f_X7_level_12 at hf
  refine lv_iconst (v := (1 : Int32)) C.1 C.2.1 dX7_level_12 (by decide) ?_
  refine lv_goto (tgt := 17) C.1 C.2.1 dX7_level_13 (by decide) ?_
  exact w_X7_level_17 hA C hX _ _ _ _ _ _ _ _ hf hP hS (lv_sub hl [0, 1, 2, 3] rfl)
set_option maxRecDepth 100000 in
set_option maxHeartbeats 4000000 in
theorem w_X7_level {p : Program} {l : Launch} {e : Env} {s : State} {m : MethodId} {args : Array Value} {below : List Frame} {meth : Method} {c : Code} {D : va_G} {ids : Nat → ClassId} {ad tt : Nat → Nat} {rv : Int32 × Hp} (hA : adOk ad 59) (C : CX p s m args meth c cX7_level 6 (some .int) RX7 D ids) (hX : (ExC tt ad) s s.heap) : ∀ (h : Hp) (a1 : Int32) (a2 : Int32) (a3 : Int32) (H : Heap) (locs : List Loc) (ls : Array Slot), f_X7_level h a1 a2 a3 = some rv → wp D (cEC ids ad) ad 59 h H → va_S (inW ad 59) s.heap H locs → lv_has ls 6 [(0, .ref (ad 0)), (1, .int a1), (2, .int a2), (3, .int a3)] → W p l e rm_X7_level s m args below meth c H locs 0 0 (MQ below (QW D (cEC ids ad) ad 59 (some (.int rv.1)) rv.2) args s 0 0 (inW ad 59)) (F0 m 0 ls []) := by
  intro h a1 a2 a3 H locs ls hf hP hS hl
  unfold f_X7_level at hf
  refine lv_iload_n C.1 C.2.1 dX7_level_0 rfl (lv_at hl 1 rfl) ?_
  obtain ⟨q1, eq1, hf⟩ := g_b hf
  refine cv_X7_55 hA C hX hP hS eq1 ⟨Nat.le_of_ble_eq_true rfl, Nat.le_of_ble_eq_true rfl⟩ hl.1 (Nat.le_of_ble_eq_true rfl) dX7_level_1 (fun H locs hP hS => ?_)
  refine lv_if_ne (tgt := 12) C.1 C.2.1 dX7_level_4 (by decide) (fun hc => ?_) (fun hc => ?_)
  · have hf := g_f hc hf
    exact w_X7_level_12 hA C hX _ _ _ _ _ _ _ hf hP hS (lv_sub hl [0, 1, 2, 3] rfl)
  · have hf := g_t hc hf
    refine lv_iload_n C.1 C.2.1 dX7_level_7 rfl (lv_at hl 1 rfl) ?_
    refine lv_iconst (v := (3 : Int32)) C.1 C.2.1 dX7_level_8 (by decide) ?_
    refine lv_icmp_ne (tgt := 16) C.1 C.2.1 dX7_level_9 (by decide) (fun hc => ?_) (fun hc => ?_)
    · have hf := g_f hc hf
      refine lv_iconst (v := (0 : Int32)) C.1 C.2.1 dX7_level_16 (by decide) ?_
      exact w_X7_level_17 hA C hX _ _ _ _ _ _ _ _ hf hP hS (lv_sub hl [0, 1, 2, 3] rfl)
    · have hf := g_t hc hf
      exact w_X7_level_12 hA C hX _ _ _ _ _ _ _ hf hP hS (lv_sub hl [0, 1, 2, 3] rfl)
theorem c_X7_level (l : Launch) (D : va_G) (ids : Nat → ClassId) (ad tt : Nat → Nat) (hA : adOk ad 59) {a1 : Int32} {a2 : Int32} {a3 : Int32} {h : Hp} {rv : Int32 × Hp} (hf : f_X7_level h a1 a2 a3 = some rv) : Met l yX7_level (ws_ yX7_level cX7_level 6 (some .int)) rm_X7_level (va_Pc [.ref (ad 0), .int a1, .int a2, .int a3] (WB D ids (cEC ids ad) ad 59 (ExC tt ad) h)) (QW D (cEC ids ad) ad 59 (some (.int rv.1)) rv.2) 0 0 (inW ad 59) :=
  u_met (own := RX7) (by decide) rfl (Nat.le_of_ble_eq_true rfl) rfl (fun p e s m args below meth c H ls C hX hP hS hl => w_X7_level (tt := tt) hA C hX _ _ _ _ _ _ _ hf hP hS hl)
theorem cv_L_19 {p : Program} {l : Launch} {e : Env} {R : Room} {s : State} {m : MethodId} {args : Array Value} {below : List Frame} {meth : Method} {c : Code} {H : Heap} {locs : List Loc} {Q : State → Prop} {cc : ByteArray} {nL : Nat} {ret : Option FieldType} {pc : Nat} {ls : Array Slot} {rest : List Value} {D : va_G} {ids : Nat → ClassId} {ad tt : Nat → Nat} {h : Hp} (hA : adOk ad 59) (C : CX p s m args meth c cc nL ret RL D ids) (hX : (ExC tt ad) s s.heap) (hP : wp D (cEC ids ad) ad 59 h H) (hS : va_S (inW ad 59) s.heap H locs) {a1 : Int32} {a2 : Int32} {a3 : Int32} {rv : Int32 × Hp} (hf : f_X7_level h a1 a2 a3 = some rv) (hR : 3 + 1 ≤ R.frames ∧ 8 + (6 + 11) + 66 ≤ R.locals) (hsz : ls.size = nL) (hcat : (rest.map fun v => v.category).sum ≤ 8) (hdg : decode cc pc = .ok (.invokevirtual 19, 3)) (kk : ∀ (H1 : Heap) (locs1 : List Loc), wp D (cEC ids ad) ad 59 rv.2 H1 → va_S (inW ad 59) s.heap H1 locs1 → W p l e R s m args below meth c H1 locs1 0 0 Q (F0 m (pc + 3) ls (.int rv.1 :: rest))) : W p l e R s m args below meth c H locs 0 0 Q (F0 m pc ls (.int a3 :: .int a2 :: .int a1 :: .ref (ad 0) :: rest)) :=
  u_callV (As := [.int a1, .int a2, .int a3]) (rv := (some (.int rv.1))) C (exC_ok hA) hX (c_X7_level l D ids ad tt hA hf) q_400 q_401 q_402 q_2 q_403 ⟨rfl, rfl⟩ (by refine ⟨by decide +kernel, by decide +kernel, ?_⟩; show _ = some 3; decide +kernel) hR (by decide) (cE_X7 _) rfl hP hS hsz hcat rfl hdg kk
abbrev rm_L_tides : Room := { frames := 4, cells := 0, slots := 0, locals := 91 }
set_option maxRecDepth 100000 in
set_option maxHeartbeats 4000000 in
theorem w_L_tides_82 {p : Program} {l : Launch} {e : Env} {s : State} {m : MethodId} {args : Array Value} {below : List Frame} {meth : Method} {c : Code} {D : va_G} {ids : Nat → ClassId} {ad tt : Nat → Nat} {rv : Int32 × Hp} (hA : adOk ad 59) (C : CX p s m args meth c cL_tides 5 (some .boolean) RL D ids) (hX : (ExC tt ad) s s.heap) {K2 : Hp → Int32 → Option (Int32 × Hp)} (hK2 : ∀ (h : Hp) (x1 : Int32) (H : Heap) (locs : List Loc) (ls : Array Slot), K2 h x1 = some rv → wp D (cEC ids ad) ad 59 h H → va_S (inW ad 59) s.heap H locs → lv_has ls 5 [(0, .ref (ad 0)), (1, .int x1)] → W p l e rm_L_tides s m args below meth c H locs 0 0 (MQ below (QW D (cEC ids ad) ad 59 (some (.int rv.1)) rv.2) args s 0 0 (inW ad 59)) (F0 m 2 ls [])) {K9 : Hp → Int32 → Int32 → Option (Int32 × Hp)} (hK9 : ∀ (h : Hp) (x1 : Int32) (x2 : Int32) (H : Heap) (locs : List Loc) (ls : Array Slot), K9 h x1 x2 = some rv → wp D (cEC ids ad) ad 59 h H → va_S (inW ad 59) s.heap H locs → lv_has ls 5 [(0, .ref (ad 0)), (1, .int x1), (2, .int x2)] → W p l e rm_L_tides s m args below meth c H locs 0 0 (MQ below (QW D (cEC ids ad) ad 59 (some (.int rv.1)) rv.2) args s 0 0 (inW ad 59)) (F0 m 9 ls [])) : ∀ (h : Hp) (x1 : Int32) (x2 : Int32) (H : Heap) (locs : List Loc) (ls : Array Slot), f_L_tides_82 K2 K9 h x1 x2 = some rv → wp D (cEC ids ad) ad 59 h H → va_S (inW ad 59) s.heap H locs → lv_has ls 5 [(0, .ref (ad 0)), (1, .int x1), (2, .int x2)] → W p l e rm_L_tides s m args below meth c H locs 0 0 (MQ below (QW D (cEC ids ad) ad 59 (some (.int rv.1)) rv.2) args s 0 0 (inW ad 59)) (F0 m 82 ls []) := by
  intro h x1 x2 H locs ls hf hP hS hl
  unfold f_L_tides_82 at hf
  refine lv_iinc (v := (x2 + 1)) (lv' := [(2, .int (x2 + 1)), (0, .ref (ad 0)), (1, .int x1)]) C.1 C.2.1 dL_tides_82 hl (k := 2) rfl (by rfl) (by decide) rfl (fun ls hl => ?_)
  refine lv_goto (tgt := 9) C.1 C.2.1 dL_tides_85 (by decide) ?_
  exact hK9 _ _ _ _ _ _ hf hP hS (lv_sub hl [1, 2, 0] rfl)
set_option maxRecDepth 100000 in
set_option maxHeartbeats 4000000 in
theorem w_L_tides_60 {p : Program} {l : Launch} {e : Env} {s : State} {m : MethodId} {args : Array Value} {below : List Frame} {meth : Method} {c : Code} {D : va_G} {ids : Nat → ClassId} {ad tt : Nat → Nat} {rv : Int32 × Hp} (hA : adOk ad 59) (C : CX p s m args meth c cL_tides 5 (some .boolean) RL D ids) (hX : (ExC tt ad) s s.heap) {K2 : Hp → Int32 → Option (Int32 × Hp)} (hK2 : ∀ (h : Hp) (x1 : Int32) (H : Heap) (locs : List Loc) (ls : Array Slot), K2 h x1 = some rv → wp D (cEC ids ad) ad 59 h H → va_S (inW ad 59) s.heap H locs → lv_has ls 5 [(0, .ref (ad 0)), (1, .int x1)] → W p l e rm_L_tides s m args below meth c H locs 0 0 (MQ below (QW D (cEC ids ad) ad 59 (some (.int rv.1)) rv.2) args s 0 0 (inW ad 59)) (F0 m 2 ls [])) {K9 : Hp → Int32 → Int32 → Option (Int32 × Hp)} (hK9 : ∀ (h : Hp) (x1 : Int32) (x2 : Int32) (H : Heap) (locs : List Loc) (ls : Array Slot), K9 h x1 x2 = some rv → wp D (cEC ids ad) ad 59 h H → va_S (inW ad 59) s.heap H locs → lv_has ls 5 [(0, .ref (ad 0)), (1, .int x1), (2, .int x2)] → W p l e rm_L_tides s m args below meth c H locs 0 0 (MQ below (QW D (cEC ids ad) ad 59 (some (.int rv.1)) rv.2) args s 0 0 (inW ad 59)) (F0 m 9 ls [])) : ∀ (h : Hp) (x1 : Int32) (x2 : Int32) (x3 : Int32) (H : Heap) (locs : List Loc) (ls : Array Slot), f_L_tides_60 K2 K9 h x1 x2 x3 = some rv → wp D (cEC ids ad) ad 59 h H → va_S (inW ad 59) s.heap H locs → lv_has ls 5 [(0, .ref (ad 0)), (1, .int x1), (2, .int x2), (3, .int x3)] → W p l e rm_L_tides s m args below meth c H locs 0 0 (MQ below (QW D (cEC ids ad) ad 59 (some (.int rv.1)) rv.2) args s 0 0 (inW ad 59)) (F0 m 60 ls []) := by
  intro h x1 x2 x3 H locs ls hf hP hS hl
  unfold f_L_tides_60 at hf
  refine lv_iload_n C.1 C.2.1 dL_tides_60 rfl (lv_at hl 2 rfl) ?_
  refine lv_bipush (v := (12 : Int32)) C.1 C.2.1 dL_tides_61 (by decide) ?_
  refine lv_icmp_ge (tgt := 82) C.1 C.2.1 dL_tides_63 (by decide) (fun hc => ?_) (fun hc => ?_)
  · have hf := g_t hc hf
    exact w_L_tides_82 hA C hX hK2 hK9 _ _ _ _ _ _ hf hP hS (lv_sub hl [0, 1, 2] rfl)
  · have hf := g_f hc hf
    refine lv_aload_n C.1 C.2.1 dL_tides_66 rfl (lv_at hl 0 rfl) ?_
    refine lv_iload_n C.1 C.2.1 dL_tides_67 rfl (lv_at hl 1 rfl) ?_
    refine lv_iload_n C.1 C.2.1 dL_tides_68 rfl (lv_at hl 2 rfl) ?_
    refine lv_bipush (v := (12 : Int32)) C.1 C.2.1 dL_tides_69 (by decide) ?_
    refine lv_iadd C.1 C.2.1 dL_tides_71 ?_
    refine lv_iconst (v := (0 : Int32)) C.1 C.2.1 dL_tides_72 (by decide) ?_
    obtain ⟨q1, eq1, hf⟩ := g_b hf
    refine cv_L_19 hA C hX hP hS eq1 ⟨Nat.le_of_ble_eq_true rfl, Nat.le_of_ble_eq_true rfl⟩ hl.1 (Nat.le_of_ble_eq_true rfl) dL_tides_73 (fun H locs hP hS => ?_)
    refine lv_iload_n C.1 C.2.1 dL_tides_76 rfl (lv_at hl 3 rfl) ?_
    refine lv_icmp_eq (tgt := 82) C.1 C.2.1 dL_tides_77 (by decide) (fun hc => ?_) (fun hc => ?_)
    · have hf := g_t hc hf
      exact w_L_tides_82 hA C hX hK2 hK9 _ _ _ _ _ _ hf hP hS (lv_sub hl [0, 1, 2] rfl)
    · have hf := g_f hc hf
      refine lv_iconst (v := (0 : Int32)) C.1 C.2.1 dL_tides_80 (by decide) ?_
      obtain rfl := Option.some.inj hf
      exact u_zret C hP hS isb_0 dL_tides_81
set_option maxRecDepth 100000 in
set_option maxHeartbeats 4000000 in
theorem w_L_tides_9 {p : Program} {l : Launch} {e : Env} {s : State} {m : MethodId} {args : Array Value} {below : List Frame} {meth : Method} {c : Code} {D : va_G} {ids : Nat → ClassId} {ad tt : Nat → Nat} {rv : Int32 × Hp} (hA : adOk ad 59) (C : CX p s m args meth c cL_tides 5 (some .boolean) RL D ids) (hX : (ExC tt ad) s s.heap) {K2 : Hp → Int32 → Option (Int32 × Hp)} (hK2 : ∀ (h : Hp) (x1 : Int32) (H : Heap) (locs : List Loc) (ls : Array Slot), K2 h x1 = some rv → wp D (cEC ids ad) ad 59 h H → va_S (inW ad 59) s.heap H locs → lv_has ls 5 [(0, .ref (ad 0)), (1, .int x1)] → W p l e rm_L_tides s m args below meth c H locs 0 0 (MQ below (QW D (cEC ids ad) ad 59 (some (.int rv.1)) rv.2) args s 0 0 (inW ad 59)) (F0 m 2 ls [])) : ∀ (fu : Nat), ∀ (h : Hp) (x1 : Int32) (x2 : Int32) (H : Heap) (locs : List Loc) (ls : Array Slot), f_L_tides_9 K2 fu h x1 x2 = some rv → wp D (cEC ids ad) ad 59 h H → va_S (inW ad 59) s.heap H locs → lv_has ls 5 [(0, .ref (ad 0)), (1, .int x1), (2, .int x2)] → W p l e rm_L_tides s m args below meth c H locs 0 0 (MQ below (QW D (cEC ids ad) ad 59 (some (.int rv.1)) rv.2) args s 0 0 (inW ad 59)) (F0 m 9 ls []) := by
  intro fu
  induction fu with
  | zero =>
    intro h x1 x2 H locs ls hf hP hS hl
    cases hf
  | succ fu ih =>
    intro h x1 x2 H locs ls hf hP hS hl
    rw [f_L_tides_9_s] at hf
    refine lv_iload_n C.1 C.2.1 dL_tides_9 rfl (lv_at hl 2 rfl) ?_
    refine lv_bipush (v := (23 : Int32)) C.1 C.2.1 dL_tides_10 (by decide) ?_
    refine lv_icmp_ge (tgt := 88) C.1 C.2.1 dL_tides_12 (by decide) (fun hc => ?_) (fun hc => ?_)
    · have hf := g_t hc hf
      refine lv_iinc (v := (x1 + 1)) (lv' := [(1, .int (x1 + 1)), (0, .ref (ad 0)), (2, .int x2)]) C.1 C.2.1 dL_tides_88 hl (k := 1) rfl (by rfl) (by decide) rfl (fun ls hl => ?_)
      refine lv_goto (tgt := 2) C.1 C.2.1 dL_tides_91 (by decide) ?_
      exact hK2 _ _ _ _ _ hf hP hS (lv_sub hl [1, 0] rfl)
    · have hf := g_f hc hf
      refine lv_aload_n C.1 C.2.1 dL_tides_15 rfl (lv_at hl 0 rfl) ?_
      refine lv_iload_n C.1 C.2.1 dL_tides_16 rfl (lv_at hl 1 rfl) ?_
      refine lv_iload_n C.1 C.2.1 dL_tides_17 rfl (lv_at hl 2 rfl) ?_
      refine lv_iconst (v := (0 : Int32)) C.1 C.2.1 dL_tides_18 (by decide) ?_
      obtain ⟨q1, eq1, hf⟩ := g_b hf
      refine cv_L_19 hA C hX hP hS eq1 ⟨Nat.le_of_ble_eq_true rfl, Nat.le_of_ble_eq_true rfl⟩ hl.1 (Nat.le_of_ble_eq_true rfl) dL_tides_19 (fun H locs hP hS => ?_)
      refine lv_istore_n (lv' := [(3, .int q1.1), (0, .ref (ad 0)), (1, .int x1), (2, .int x2)]) C.1 C.2.1 dL_tides_22 rfl hl (by decide) rfl (fun ls hl => ?_)
      refine lv_aload_n C.1 C.2.1 dL_tides_23 rfl (lv_at hl 1 rfl) ?_
      refine lv_iload_n C.1 C.2.1 dL_tides_24 rfl (lv_at hl 2 rfl) ?_
      refine lv_iload_n C.1 C.2.1 dL_tides_25 rfl (lv_at hl 3 rfl) ?_
      refine lv_iconst (v := (1 : Int32)) C.1 C.2.1 dL_tides_26 (by decide) ?_
      refine lv_iadd C.1 C.2.1 dL_tides_27 ?_
      refine lv_iconst (v := (1 : Int32)) C.1 C.2.1 dL_tides_28 (by decide) ?_
      obtain ⟨q2, eq2, hf⟩ := g_b hf
      refine cv_L_19 hA C hX hP hS eq2 ⟨Nat.le_of_ble_eq_true rfl, Nat.le_of_ble_eq_true rfl⟩ hl.1 (Nat.le_of_ble_eq_true rfl) dL_tides_29 (fun H locs hP hS => ?_)
      refine lv_istore (lv' := [(4, .int q2.1), (3, .int q1.1), (0, .ref (ad 0)), (1, .int x1), (2, .int x2)]) C.1 C.2.1 dL_tides_32 hl (by decide) rfl (fun ls hl => ?_)
      refine lv_iload_n C.1 C.2.1 dL_tides_34 rfl (lv_at hl 1 rfl) ?_
      refine lv_if_lt (tgt := 80) C.1 C.2.1 dL_tides_35 (by decide) (fun hc => ?_) (fun hc => ?_)
      · have hf := g_t hc hf
        refine lv_iconst (v := (0 : Int32)) C.1 C.2.1 dL_tides_80 (by decide) ?_
        obtain rfl := Option.some.inj hf
        exact u_zret C hP hS isb_0 dL_tides_81
      · have hf := g_f hc hf
        refine lv_iload_n C.1 C.2.1 dL_tides_38 rfl (lv_at hl 1 rfl) ?_
        refine lv_bipush (v := (6 : Int32)) C.1 C.2.1 dL_tides_39 (by decide) ?_
        refine lv_icmp_gt (tgt := 80) C.1 C.2.1 dL_tides_41 (by decide) (fun hc => ?_) (fun hc => ?_)
        · have hf := g_t hc hf
          refine lv_iconst (v := (0 : Int32)) C.1 C.2.1 dL_tides_80 (by decide) ?_
          obtain rfl := Option.some.inj hf
          exact u_zret C hP hS isb_0 dL_tides_81
        · have hf := g_f hc hf
          refine lv_iload_n C.1 C.2.1 dL_tides_44 rfl (lv_at hl 1 rfl) ?_
          refine lv_iload C.1 C.2.1 dL_tides_45 (lv_at hl 0 rfl) ?_
          refine lv_isub C.1 C.2.1 dL_tides_47 ?_
          refine lv_iconst (v := (1 : Int32)) C.1 C.2.1 dL_tides_48 (by decide) ?_
          refine lv_icmp_eq (tgt := 60) C.1 C.2.1 dL_tides_49 (by decide) (fun hc => ?_) (fun hc => ?_)
          · have hf := g_t hc hf
            exact w_L_tides_60 hA C hX hK2 ih _ _ _ _ _ _ _ hf hP hS (lv_sub hl [2, 3, 4, 1] rfl)
          · have hf := g_f hc hf
            refine lv_iload C.1 C.2.1 dL_tides_52 (lv_at hl 0 rfl) ?_
            refine lv_iload_n C.1 C.2.1 dL_tides_54 rfl (lv_at hl 1 rfl) ?_
            refine lv_isub C.1 C.2.1 dL_tides_55 ?_
            refine lv_iconst (v := (1 : Int32)) C.1 C.2.1 dL_tides_56 (by decide) ?_
            refine lv_icmp_ne (tgt := 80) C.1 C.2.1 dL_tides_57 (by decide) (fun hc => ?_) (fun hc => ?_)
            · have hf := g_f hc hf
              refine lv_iconst (v := (0 : Int32)) C.1 C.2.1 dL_tides_80 (by decide) ?_
              obtain rfl := Option.some.inj hf
              exact u_zret C hP hS isb_0 dL_tides_81
            · have hf := g_t hc hf
              exact w_L_tides_60 hA C hX hK2 ih _ _ _ _ _ _ _ hf hP hS (lv_sub hl [2, 3, 4, 1] rfl)
set_option maxRecDepth 100000 in
set_option maxHeartbeats 4000000 in
theorem w_L_tides_2 {p : Program} {l : Launch} {e : Env} {s : State} {m : MethodId} {args : Array Value} {below : List Frame} {meth : Method} {c : Code} {D : va_G} {ids : Nat → ClassId} {ad tt : Nat → Nat} {rv : Int32 × Hp} (hA : adOk ad 59) (C : CX p s m args meth c cL_tides 5 (some .boolean) RL D ids) (hX : (ExC tt ad) s s.heap) : ∀ (fu : Nat), ∀ (h : Hp) (x1 : Int32) (H : Heap) (locs : List Loc) (ls : Array Slot), f_L_tides_2 fu h x1 = some rv → wp D (cEC ids ad) ad 59 h H → va_S (inW ad 59) s.heap H locs → lv_has ls 5 [(0, .ref (ad 0)), (1, .int x1)] → W p l e rm_L_tides s m args below meth c H locs 0 0 (MQ below (QW D (cEC ids ad) ad 59 (some (.int rv.1)) rv.2) args s 0 0 (inW ad 59)) (F0 m 2 ls []) := by
  intro fu
  induction fu with
  | zero =>
    intro h x1 H locs ls hf hP hS hl
    cases hf
  | succ fu ih =>
    intro h x1 H locs ls hf hP hS hl
    rw [f_L_tides_2_s] at hf
    refine lv_iload_n C.1 C.2.1 dL_tides_2 rfl (lv_at hl 1 rfl) ?_
    refine lv_iconst (v := (4 : Int32)) C.1 C.2.1 dL_tides_3 (by decide) ?_
    refine lv_icmp_ge (tgt := 94) C.1 C.2.1 dL_tides_4 (by decide) (fun hc => ?_) (fun hc => ?_)
    · have hf := g_t hc hf
      refine lv_iconst (v := (1 : Int32)) C.1 C.2.1 dL_tides_94 (by decide) ?_
      obtain rfl := Option.some.inj hf
      exact u_zret C hP hS isb_1 dL_tides_95
    · have hf := g_f hc hf
      refine lv_iconst (v := (0 : Int32)) C.1 C.2.1 dL_tides_7 (by decide) ?_
      refine lv_istore_n (lv' := [(2, .int (0 : Int32)), (0, .ref (ad 0)), (1, .int x1)]) C.1 C.2.1 dL_tides_8 rfl hl (by decide) rfl (fun ls hl => ?_)
      exact w_L_tides_9 hA C hX ih _ _ _ _ _ _ _ hf hP hS (lv_sub hl [1, 2, 0] rfl)
set_option maxRecDepth 100000 in
set_option maxHeartbeats 4000000 in
theorem w_L_tides {p : Program} {l : Launch} {e : Env} {s : State} {m : MethodId} {args : Array Value} {below : List Frame} {meth : Method} {c : Code} {D : va_G} {ids : Nat → ClassId} {ad tt : Nat → Nat} {rv : Int32 × Hp} (hA : adOk ad 59) (C : CX p s m args meth c cL_tides 5 (some .boolean) RL D ids) (hX : (ExC tt ad) s s.heap) : ∀ (h : Hp) (H : Heap) (locs : List Loc) (ls : Array Slot), f_L_tides h = some rv → wp D (cEC ids ad) ad 59 h H → va_S (inW ad 59) s.heap H locs → lv_has ls 5 [(0, .ref (ad 0))] → W p l e rm_L_tides s m args below meth c H locs 0 0 (MQ below (QW D (cEC ids ad) ad 59 (some (.int rv.1)) rv.2) args s 0 0 (inW ad 59)) (F0 m 0 ls []) := by
  intro h H locs ls hf hP hS hl
  unfold f_L_tides at hf
  refine lv_iconst (v := (0 : Int32)) C.1 C.2.1 dL_tides_0 (by decide) ?_
  refine lv_istore_n (lv' := [(1, .int (0 : Int32)), (0, .ref (ad 0))]) C.1 C.2.1 dL_tides_1 rfl hl (by decide) rfl (fun ls hl => ?_)
  exact w_L_tides_2 hA C hX _ _ _ _ _ _ hf hP hS (lv_sub hl [1, 0] rfl)
theorem c_L_tides (l : Launch) (D : va_G) (ids : Nat → ClassId) (ad tt : Nat → Nat) (hA : adOk ad 59) {h : Hp} {rv : Int32 × Hp} (hf : f_L_tides h = some rv) : Met l yL_tides (ws_ yL_tides cL_tides 5 (some .boolean)) rm_L_tides (va_Pc [.ref (ad 0)] (WB D ids (cEC ids ad) ad 59 (ExC tt ad) h)) (QW D (cEC ids ad) ad 59 (some (.int rv.1)) rv.2) 0 0 (inW ad 59) :=
  u_met (own := RL) (by decide) rfl (Nat.le_of_ble_eq_true rfl) rfl (fun p e s m args below meth c H ls C hX hP hS hl => w_L_tides (tt := tt) hA C hX _ _ _ _ hf hP hS hl)
