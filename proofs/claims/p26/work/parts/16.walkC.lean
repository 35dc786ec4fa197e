theorem gf_X3_68 {p : Program} {l : Launch} {e : Env} {R : Room} {s : State} {m : MethodId} {args : Array Value} {below : List Frame} {meth : Method} {c : Code} {H : Heap} {locs : List Loc} {cells slots : Nat} {Q : State → Prop} {cc : ByteArray} {nL : Nat} {ret : Option FieldType} {pc : Nat} {ls : Array Slot} {rest : List Value} {D : va_G} {ids : Nat → ClassId} {ad : Nat → Nat} {h : Hp} (C : CX p s m args meth c cc nL ret RX3 D ids) {k : Nat} (hk : isX6 k) (hP : wp D (cEC ids ad) ad 59 h H) (hdg : decode cc pc = .ok (.getfield 68, 3)) (kk : W p l e R s m args below meth c H locs cells slots Q (F0 m (pc + 3) ls (.int (h k 1) :: rest))) : W p l e R s m args below meth c H locs cells slots Q (F0 m pc ls (.ref (ad k) :: rest)) :=
  u_get C hP (lt_X6 hk) (cE_X6 hk) rfl inX6 1 (by decide) rfl q_343 hdg kk
abbrev rm_X3_crossingsLeft : Room := { frames := 0, cells := 0, slots := 0, locals := 0 }
set_option maxRecDepth 100000 in
set_option maxHeartbeats 4000000 in
theorem w_X3_crossingsLeft {p : Program} {l : Launch} {e : Env} {s : State} {m : MethodId} {args : Array Value} {below : List Frame} {meth : Method} {c : Code} {D : va_G} {ids : Nat → ClassId} {ad tt : Nat → Nat} {rv : Int32 × Hp} (hA : adOk ad 59) (C : CX p s m args meth c cX3_crossingsLeft 1 (some .int) RX3 D ids) (hX : (ExC tt ad) s s.heap) {k : Nat} (hk : isX3 k) : ∀ (h : Hp) (H : Heap) (locs : List Loc) (ls : Array Slot), f_X3_crossingsLeft h k = some rv → wp D (cEC ids ad) ad 59 h H → va_S (inW ad 59) s.heap H locs → lv_has ls 1 [(0, .ref (ad k))] → W p l e rm_X3_crossingsLeft s m args below meth c H locs 0 0 (MQ below (QW D (cEC ids ad) ad 59 (some (.int rv.1)) rv.2) args s 0 0 (inW ad 59)) (F0 m 0 ls []) := by
  intro h H locs ls hf hP hS hl
  unfold f_X3_crossingsLeft at hf
  refine lv_aload_n C.1 C.2.1 dX3_crossingsLeft_0 rfl (lv_at hl 0 rfl) ?_
  refine gf_X3_12 C hk hP dX3_crossingsLeft_1 ?_
  refine gf_X3_68 C (tt_of hk) hP dX3_crossingsLeft_4 ?_
  refine lv_aload_n C.1 C.2.1 dX3_crossingsLeft_7 rfl (lv_at hl 0 rfl) ?_
  refine gf_X3_38 C hk hP dX3_crossingsLeft_8 ?_
  refine lv_isub C.1 C.2.1 dX3_crossingsLeft_11 ?_
  obtain rfl := Option.some.inj hf
  exact u_iret C hP hS dX3_crossingsLeft_12
theorem c_X3_crossingsLeft (l : Launch) (D : va_G) (ids : Nat → ClassId) (ad tt : Nat → Nat) (hA : adOk ad 59) {k : Nat} (hk : isX3 k) {h : Hp} {rv : Int32 × Hp} (hf : f_X3_crossingsLeft h k = some rv) : Met l yX3_crossingsLeft (ws_ yX3_crossingsLeft cX3_crossingsLeft 1 (some .int)) rm_X3_crossingsLeft (va_Pc [.ref (ad k)] (WB D ids (cEC ids ad) ad 59 (ExC tt ad) h)) (QW D (cEC ids ad) ad 59 (some (.int rv.1)) rv.2) 0 0 (inW ad 59) :=
  u_met (own := RX3) (by decide) rfl (Nat.le_of_ble_eq_true rfl) rfl (fun p e s m args below meth c H ls C hX hP hS hl => w_X3_crossingsLeft (tt := tt) hA C hX hk _ _ _ _ hf hP hS hl)
theorem gf_X2_42 {p : Program} {l : Launch} {e : Env} {R : Room} {s : State} {m : MethodId} {args : Array Value} {below : List Frame} {meth : Method} {c : Code} {H : Heap} {locs : List Loc} {cells slots : Nat} {Q : State → Prop} {cc : ByteArray} {nL : Nat} {ret : Option FieldType} {pc : Nat} {ls : Array Slot} {rest : List Value} {D : va_G} {ids : Nat → ClassId} {ad : Nat → Nat} {h : Hp} (C : CX p s m args meth c cc nL ret RX2 D ids) {k : Nat} (hk : isX3 k) (hP : wp D (cEC ids ad) ad 59 h H) (hdg : decode cc pc = .ok (.getfield 42, 3)) (kk : W p l e R s m args below meth c H locs cells slots Q (F0 m (pc + 3) ls (.int (h k 7) :: rest))) : W p l e R s m args below meth c H locs cells slots Q (F0 m pc ls (.ref (ad k) :: rest)) :=
  u_get C hP (lt_X3 hk) (cE_X3 hk) rfl inX3 7 (by decide) rfl q_335 hdg kk
theorem gf_X2_45 {p : Program} {l : Launch} {e : Env} {R : Room} {s : State} {m : MethodId} {args : Array Value} {below : List Frame} {meth : Method} {c : Code} {H : Heap} {locs : List Loc} {cells slots : Nat} {Q : State → Prop} {cc : ByteArray} {nL : Nat} {ret : Option FieldType} {pc : Nat} {ls : Array Slot} {rest : List Value} {D : va_G} {ids : Nat → ClassId} {ad : Nat → Nat} {h : Hp} (C : CX p s m args meth c cc nL ret RX2 D ids) {k : Nat} (hk : isX3 k) (hP : wp D (cEC ids ad) ad 59 h H) (hdg : decode cc pc = .ok (.getfield 45, 3)) (kk : W p l e R s m args below meth c H locs cells slots Q (F0 m (pc + 3) ls (.int (h k 8) :: rest))) : W p l e R s m args below meth c H locs cells slots Q (F0 m pc ls (.ref (ad k) :: rest)) :=
  u_get C hP (lt_X3 hk) (cE_X3 hk) rfl inX3 8 (by decide) rfl q_336 hdg kk
theorem gf_X2_46 {p : Program} {l : Launch} {e : Env} {R : Room} {s : State} {m : MethodId} {args : Array Value} {below : List Frame} {meth : Method} {c : Code} {H : Heap} {locs : List Loc} {cells slots : Nat} {Q : State → Prop} {cc : ByteArray} {nL : Nat} {ret : Option FieldType} {pc : Nat} {ls : Array Slot} {rest : List Value} {D : va_G} {ids : Nat → ClassId} {ad : Nat → Nat} {h : Hp} (C : CX p s m args meth c cc nL ret RX2 D ids) {k : Nat} (hk : isX3 k) (hP : wp D (cEC ids ad) ad 59 h H) (hdg : decode cc pc = .ok (.getfield 46, 3)) (kk : W p l e R s m args below meth c H locs cells slots Q (F0 m (pc + 3) ls (.int (h k 9) :: rest))) : W p l e R s m args below meth c H locs cells slots Q (F0 m pc ls (.ref (ad k) :: rest)) :=
  u_get C hP (lt_X3 hk) (cE_X3 hk) rfl inX3 9 (by decide) rfl q_337 hdg kk
theorem gf_X2_47 {p : Program} {l : Launch} {e : Env} {R : Room} {s : State} {m : MethodId} {args : Array Value} {below : List Frame} {meth : Method} {c : Code} {H : Heap} {locs : List Loc} {cells slots : Nat} {Q : State → Prop} {cc : ByteArray} {nL : Nat} {ret : Option FieldType} {pc : Nat} {ls : Array Slot} {rest : List Value} {D : va_G} {ids : Nat → ClassId} {ad : Nat → Nat} {h : Hp} (C : CX p s m args meth c cc nL ret RX2 D ids) {k : Nat} (hk : isX3 k) (hP : wp D (cEC ids ad) ad 59 h H) (hdg : decode cc pc = .ok (.getfield 47, 3)) (kk : W p l e R s m args below meth c H locs cells slots Q (F0 m (pc + 3) ls (.int (h k 10) :: rest))) : W p l e R s m args below meth c H locs cells slots Q (F0 m pc ls (.ref (ad k) :: rest)) :=
  u_get C hP (lt_X3 hk) (cE_X3 hk) rfl inX3 10 (by decide) rfl q_338 hdg kk
theorem cv_X2_48 {p : Program} {l : Launch} {e : Env} {R : Room} {s : State} {m : MethodId} {args : Array Value} {below : List Frame} {meth : Method} {c : Code} {H : Heap} {locs : List Loc} {Q : State → Prop} {cc : ByteArray} {nL : Nat} {ret : Option FieldType} {pc : Nat} {ls : Array Slot} {rest : List Value} {D : va_G} {ids : Nat → ClassId} {ad tt : Nat → Nat} {h : Hp} (hA : adOk ad 59) (C : CX p s m args meth c cc nL ret RX2 D ids) (hX : (ExC tt ad) s s.heap) (hP : wp D (cEC ids ad) ad 59 h H) (hS : va_S (inW ad 59) s.heap H locs) {k : Nat} (hk : isX3 k) {rv : Int32 × Hp} (hf : f_X3_crossingsLeft h k = some rv) (hR : 0 + 1 ≤ R.frames ∧ 8 + (1 + 11) + 0 ≤ R.locals) (hsz : ls.size = nL) (hcat : (rest.map fun v => v.category).sum ≤ 8) (hdg : decode cc pc = .ok (.invokevirtual 48, 3)) (kk : ∀ (H1 : Heap) (locs1 : List Loc), wp D (cEC ids ad) ad 59 rv.2 H1 → va_S (inW ad 59) s.heap H1 locs1 → W p l e R s m args below meth c H1 locs1 0 0 Q (F0 m (pc + 3) ls (.int rv.1 :: rest))) : W p l e R s m args below meth c H locs 0 0 Q (F0 m pc ls (.ref (ad k) :: rest)) :=
  u_callV (As := []) (rv := (some (.int rv.1))) C (exC_ok hA) hX (c_X3_crossingsLeft l D ids ad tt hA hk hf) q_339 q_340 q_341 q_88 q_342 ⟨rfl, rfl⟩ (by refine ⟨by decide +kernel, by decide +kernel, ?_⟩; show _ = some 0; decide +kernel) hR (lt_X3 hk) (cE_X3 hk _) rfl hP hS hsz hcat rfl hdg kk
abbrev rm_X2_endDay : Room := { frames := 1, cells := 0, slots := 0, locals := 20 }
set_option maxRecDepth 100000 in
set_option maxHeartbeats 4000000 in
theorem w_X2_endDay_52 {p : Program} {l : Launch} {e : Env} {s : State} {m : MethodId} {args : Array Value} {below : List Frame} {meth : Method} {c : Code} {D : va_G} {ids : Nat → ClassId} {ad tt : Nat → Nat} {rv : Hp} (hA : adOk ad 59) (C : CX p s m args meth c cX2_endDay 2 none RX2 D ids) (hX : (ExC tt ad) s s.heap) {k : Nat} (hk : isX2 k) {k1 : Nat} (hk1 : isX3 k1) : ∀ (h : Hp) (H : Heap) (locs : List Loc) (ls : Array Slot), f_X2_endDay_52 k k1 h = some rv → wp D (cEC ids ad) ad 59 h H → va_S (inW ad 59) s.heap H locs → lv_has ls 2 [(0, .ref (ad k)), (1, .ref (ad k1))] → W p l e rm_X2_endDay s m args below meth c H locs 0 0 (MQ below (QW D (cEC ids ad) ad 59 none rv) args s 0 0 (inW ad 59)) (F0 m 52 ls []) := by
  intro h H locs ls hf hP hS hl
  unfold f_X2_endDay_52 at hf
  refine lv_aload_n C.1 C.2.1 dX2_endDay_52 rfl (lv_at hl 0 rfl) ?_
  refine lv_dup C.1 C.2.1 dX2_endDay_53 rfl ?_
  refine gf_X2_30 C hk hP dX2_endDay_54 ?_
  refine lv_aload_n C.1 C.2.1 dX2_endDay_57 rfl (lv_at hl 1 rfl) ?_
  obtain ⟨q1, eq1, hf⟩ := g_b hf
  refine cv_X2_48 hA C hX hP hS hk1 eq1 ⟨Nat.le_of_ble_eq_true rfl, Nat.le_of_ble_eq_true rfl⟩ hl.1 (Nat.le_of_ble_eq_true rfl) dX2_endDay_58 (fun H locs hP hS => ?_)
  refine lv_iadd C.1 C.2.1 dX2_endDay_61 ?_
  refine pf_X2_30 hA C hk hP hS dX2_endDay_62 (fun H locs hP hS => ?_)
  obtain rfl := Option.some.inj hf
  exact u_vret C hP hS dX2_endDay_65
set_option maxRecDepth 100000 in
set_option maxHeartbeats 4000000 in
theorem w_X2_endDay_26 {p : Program} {l : Launch} {e : Env} {s : State} {m : MethodId} {args : Array Value} {below : List Frame} {meth : Method} {c : Code} {D : va_G} {ids : Nat → ClassId} {ad tt : Nat → Nat} {rv : Hp} (hA : adOk ad 59) (C : CX p s m args meth c cX2_endDay 2 none RX2 D ids) (hX : (ExC tt ad) s s.heap) {k : Nat} (hk : isX2 k) {k1 : Nat} (hk1 : isX3 k1) : ∀ (h : Hp) (H : Heap) (locs : List Loc) (ls : Array Slot), f_X2_endDay_26 k k1 h = some rv → wp D (cEC ids ad) ad 59 h H → va_S (inW ad 59) s.heap H locs → lv_has ls 2 [(0, .ref (ad k)), (1, .ref (ad k1))] → W p l e rm_X2_endDay s m args below meth c H locs 0 0 (MQ below (QW D (cEC ids ad) ad 59 none rv) args s 0 0 (inW ad 59)) (F0 m 26 ls []) := by
  intro h H locs ls hf hP hS hl
  unfold f_X2_endDay_26 at hf
  refine lv_aload_n C.1 C.2.1 dX2_endDay_26 rfl (lv_at hl 0 rfl) ?_
  refine lv_dup C.1 C.2.1 dX2_endDay_27 rfl ?_
  refine gf_X2_24 C hk hP dX2_endDay_28 ?_
  refine lv_aload_n C.1 C.2.1 dX2_endDay_31 rfl (lv_at hl 1 rfl) ?_
  refine gf_X2_46 C hk1 hP dX2_endDay_32 ?_
  refine lv_iadd C.1 C.2.1 dX2_endDay_35 ?_
  refine pf_X2_24 hA C hk hP hS dX2_endDay_36 (fun H locs hP hS => ?_)
  refine lv_aload_n C.1 C.2.1 dX2_endDay_39 rfl (lv_at hl 0 rfl) ?_
  refine lv_dup C.1 C.2.1 dX2_endDay_40 rfl ?_
  refine gf_X2_27 C hk hP dX2_endDay_41 ?_
  refine lv_aload_n C.1 C.2.1 dX2_endDay_44 rfl (lv_at hl 1 rfl) ?_
  refine gf_X2_47 C hk1 hP dX2_endDay_45 ?_
  refine lv_iadd C.1 C.2.1 dX2_endDay_48 ?_
  refine pf_X2_27 hA C hk hP hS dX2_endDay_49 (fun H locs hP hS => ?_)
  exact w_X2_endDay_52 hA C hX hk hk1 _ _ _ _ hf hP hS (lv_sub hl [0, 1] rfl)
set_option maxRecDepth 100000 in
set_option maxHeartbeats 4000000 in
theorem w_X2_endDay {p : Program} {l : Launch} {e : Env} {s : State} {m : MethodId} {args : Array Value} {below : List Frame} {meth : Method} {c : Code} {D : va_G} {ids : Nat → ClassId} {ad tt : Nat → Nat} {rv : Hp} (hA : adOk ad 59) (C : CX p s m args meth c cX2_endDay 2 none RX2 D ids) (hX : (ExC tt ad) s s.heap) {k : Nat} (hk : isX2 k) {k1 : Nat} (hk1 : isX3 k1) : ∀ (h : Hp) (H : Heap) (locs : List Loc) (ls : Array Slot), f_X2_endDay h k k1 = some rv → wp D (cEC ids ad) ad 59 h H → va_S (inW ad 59) s.heap H locs → lv_has ls 2 [(0, .ref (ad k)), (1, .ref (ad k1))] → W p l e rm_X2_endDay s m args below meth c H locs 0 0 (MQ below (QW D (cEC ids ad) ad 59 none rv) args s 0 0 (inW ad 59)) (F0 m 0 ls []) := by
  intro h H locs ls hf hP hS hl
  unfold f_X2_endDay at hf
  refine lv_aload_n C.1 C.2.1 dX2_endDay_0 rfl (lv_at hl 0 rfl) ?_
  refine lv_dup C.1 C.2.1 dX2_endDay_1 rfl ?_
  refine gf_X2_18 C hk hP dX2_endDay_2 ?_
  refine lv_aload_n C.1 C.2.1 dX2_endDay_5 rfl (lv_at hl 1 rfl) ?_
  refine gf_X2_42 C hk1 hP dX2_endDay_6 ?_
  refine lv_iadd C.1 C.2.1 dX2_endDay_9 ?_
  refine pf_X2_18 hA C hk hP hS dX2_endDay_10 (fun H locs hP hS => ?_)
  refine lv_aload_n C.1 C.2.1 dX2_endDay_13 rfl (lv_at hl 0 rfl) ?_
  refine lv_dup C.1 C.2.1 dX2_endDay_14 rfl ?_
  refine gf_X2_21 C hk hP dX2_endDay_15 ?_
  refine lv_aload_n C.1 C.2.1 dX2_endDay_18 rfl (lv_at hl 1 rfl) ?_
  refine gf_X2_45 C hk1 hP dX2_endDay_19 ?_
  refine lv_iadd C.1 C.2.1 dX2_endDay_22 ?_
  refine pf_X2_21 hA C hk hP hS dX2_endDay_23 (fun H locs hP hS => ?_)
  exact w_X2_endDay_26 hA C hX hk hk1 _ _ _ _ hf hP hS (lv_sub hl [0, 1] rfl)
theorem c_X2_endDay (l : Launch) (D : va_G) (ids : Nat → ClassId) (ad tt : Nat → Nat) (hA : adOk ad 59) {k : Nat} (hk : isX2 k) {k1 : Nat} (hk1 : isX3 k1) {h : Hp} {rv : Hp} (hf : f_X2_endDay h k k1 = some rv) : Met l yX2_endDay (ws_ yX2_endDay cX2_endDay 2 none) rm_X2_endDay (va_Pc [.ref (ad k), .ref (ad k1)] (WB D ids (cEC ids ad) ad 59 (ExC tt ad) h)) (QW D (cEC ids ad) ad 59 none rv) 0 0 (inW ad 59) :=
  u_met (own := RX2) (by decide) rfl (Nat.le_of_ble_eq_true rfl) rfl (fun p e s m args below meth c H ls C hX hP hS hl => w_X2_endDay (tt := tt) hA C hX hk hk1 _ _ _ _ hf hP hS hl)
abbrev rm_X3_isLesson : Room := { frames := 0, cells := 0, slots := 0, locals := 0 }
set_option maxRecDepth 100000 in
set_option maxHeartbeats 4000000 in
theorem w_X3_isLesson {p : Program} {l : Launch} {e : Env} {s : State} {m : MethodId} {args : Array Value} {below : List Frame} {meth : Method} {c : Code} {D : va_G} {ids : Nat → ClassId} {ad tt : Nat → Nat} {rv : Int32 × Hp} (hA : adOk ad 59) (C : CX p s m args meth c cX3_isLesson 2 (some .boolean) RX3 D ids) (hX : (ExC tt ad) s s.heap) {k : Nat} (hk : isX3 k) : ∀ (h : Hp) (a1 : Int32) (H : Heap) (locs : List Loc) (ls : Array Slot), f_X3_isLesson h k a1 = some rv → wp D (cEC ids ad) ad 59 h H → va_S (inW ad 59) s.heap H locs → lv_has ls 2 [(0, .ref (ad k)), (1, .int a1)] → W p l e rm_X3_isLesson s m args below meth c H locs 0 0 (MQ below (QW D (cEC ids ad) ad 59 (some (.int rv.1)) rv.2) args s 0 0 (inW ad 59)) (F0 m 0 ls []) := by
  intro h a1 H locs ls hf hP hS hl
  unfold f_X3_isLesson at hf
  refine lv_aload_n C.1 C.2.1 dX3_isLesson_0 rfl (lv_at hl 0 rfl) ?_
  refine gf_X3_41 C hk hP dX3_isLesson_1 ?_
  refine lv_iload_n C.1 C.2.1 dX3_isLesson_4 rfl (lv_at hl 1 rfl) ?_
  refine lv_icmp_lt (tgt := 12) C.1 C.2.1 dX3_isLesson_5 (by decide) (fun hc => ?_) (fun hc => ?_)
  · have hf := g_t hc hf
    refine lv_iconst (v := (0 : Int32)) C.1 C.2.1 dX3_isLesson_12 (by decide) ?_
    obtain rfl := Option.some.inj hf
    exact u_zret C hP hS isb_0 dX3_isLesson_13
  · have hf := g_f hc hf
    refine lv_iconst (v := (1 : Int32)) C.1 C.2.1 dX3_isLesson_8 (by decide) ?_
    refine lv_goto (tgt := 13) C.1 C.2.1 dX3_isLesson_9 (by decide) ?_
    obtain rfl := Option.some.inj hf
    exact u_zret C hP hS isb_1 dX3_isLesson_13
theorem c_X3_isLesson (l : Launch) (D : va_G) (ids : Nat → ClassId) (ad tt : Nat → Nat) (hA : adOk ad 59) {k : Nat} (hk : isX3 k) {a1 : Int32} {h : Hp} {rv : Int32 × Hp} (hf : f_X3_isLesson h k a1 = some rv) : Met l yX3_isLesson (ws_ yX3_isLesson cX3_isLesson 2 (some .boolean)) rm_X3_isLesson (va_Pc [.ref (ad k), .int a1] (WB D ids (cEC ids ad) ad 59 (ExC tt ad) h)) (QW D (cEC ids ad) ad 59 (some (.int rv.1)) rv.2) 0 0 (inW ad 59) :=
  u_met (own := RX3) (by decide) rfl (Nat.le_of_ble_eq_true rfl) rfl (fun p e s m args below meth c H ls C hX hP hS hl => w_X3_isLesson (tt := tt) hA C hX hk _ _ _ _ _ hf hP hS hl)
abbrev rm_X2_learn : Room := { frames := 0, cells := 0, slots := 0, locals := 0 }
set_option maxRecDepth 100000 in
set_option maxHeartbeats 4000000 in
theorem w_X2_learn {p : Program} {l : Launch} {e : Env} {s : State} {m : MethodId} {args : Array Value} {below : List Frame} {meth : Method} {c : Code} {D : va_G} {ids : Nat → ClassId} {ad tt : Nat → Nat} {rv : Hp} (hA : adOk ad 59) (C : CX p s m args meth c cX2_learn 2 none RX2 D ids) (hX : (ExC tt ad) s s.heap) {k : Nat} (hk : isX2 k) : ∀ (h : Hp) (a1 : Int32) (H : Heap) (locs : List Loc) (ls : Array Slot), f_X2_learn h k a1 = some rv → wp D (cEC ids ad) ad 59 h H → va_S (inW ad 59) s.heap H locs → lv_has ls 2 [(0, .ref (ad k)), (1, .int a1)] → W p l e rm_X2_learn s m args below meth c H locs 0 0 (MQ below (QW D (cEC ids ad) ad 59 none rv) args s 0 0 (inW ad 59)) (F0 m 0 ls []) := by
  intro h a1 H locs ls hf hP hS hl
  unfold f_X2_learn at hf
  refine lv_aload_n C.1 C.2.1 dX2_learn_0 rfl (lv_at hl 0 rfl) ?_
  refine lv_iload_n C.1 C.2.1 dX2_learn_1 rfl (lv_at hl 1 rfl) ?_
  refine pf_X2_36 hA C hk hP hS dX2_learn_2 (fun H locs hP hS => ?_)
  refine lv_aload_n C.1 C.2.1 dX2_learn_5 rfl (lv_at hl 0 rfl) ?_
  refine lv_dup C.1 C.2.1 dX2_learn_6 rfl ?_
  refine gf_X2_33 C hk hP dX2_learn_7 ?_
  refine lv_iconst (v := (1 : Int32)) C.1 C.2.1 dX2_learn_10 (by decide) ?_
  refine lv_iadd C.1 C.2.1 dX2_learn_11 ?_
  refine pf_X2_33 hA C hk hP hS dX2_learn_12 (fun H locs hP hS => ?_)
  obtain rfl := Option.some.inj hf
  exact u_vret C hP hS dX2_learn_15
theorem c_X2_learn (l : Launch) (D : va_G) (ids : Nat → ClassId) (ad tt : Nat → Nat) (hA : adOk ad 59) {k : Nat} (hk : isX2 k) {a1 : Int32} {h : Hp} {rv : Hp} (hf : f_X2_learn h k a1 = some rv) : Met l yX2_learn (ws_ yX2_learn cX2_learn 2 none) rm_X2_learn (va_Pc [.ref (ad k), .int a1] (WB D ids (cEC ids ad) ad 59 (ExC tt ad) h)) (QW D (cEC ids ad) ad 59 none rv) 0 0 (inW ad 59) :=
  u_met (own := RX2) (by decide) rfl (Nat.le_of_ble_eq_true rfl) rfl (fun p e s m args below meth c H ls C hX hP hS hl => w_X2_learn (tt := tt) hA C hX hk _ _ _ _ _ hf hP hS hl)
theorem gf_X5_43 {p : Program} {l : Launch} {e : Env} {R : Room} {s : State} {m : MethodId} {args : Array Value} {below : List Frame} {meth : Method} {c : Code} {H : Heap} {locs : List Loc} {cells slots : Nat} {Q : State → Prop} {cc : ByteArray} {nL : Nat} {ret : Option FieldType} {pc : Nat} {ls : Array Slot} {rest : List Value} {D : va_G} {ids : Nat → ClassId} {ad : Nat → Nat} {h : Hp} (C : CX p s m args meth c cc nL ret RX5 D ids) (hP : wp D (cEC ids ad) ad 59 h H) (hdg : decode cc pc = .ok (.getfield 43, 3)) (kk : W p l e R s m args below meth c H locs cells slots Q (F0 m (pc + 3) ls (.int (h 48 1) :: rest))) : W p l e R s m args below meth c H locs cells slots Q (F0 m pc ls (.ref (ad 48) :: rest)) :=
  u_get C hP (by decide) cE_X4 rfl inX4 1 (by decide) rfl q_328 hdg kk
theorem gf_X5_46 {p : Program} {l : Launch} {e : Env} {R : Room} {s : State} {m : MethodId} {args : Array Value} {below : List Frame} {meth : Method} {c : Code} {H : Heap} {locs : List Loc} {cells slots : Nat} {Q : State → Prop} {cc : ByteArray} {nL : Nat} {ret : Option FieldType} {pc : Nat} {ls : Array Slot} {rest : List Value} {D : va_G} {ids : Nat → ClassId} {ad : Nat → Nat} {h : Hp} (C : CX p s m args meth c cc nL ret RX5 D ids) (hP : wp D (cEC ids ad) ad 59 h H) (hdg : decode cc pc = .ok (.getfield 46, 3)) (kk : W p l e R s m args below meth c H locs cells slots Q (F0 m (pc + 3) ls (.int (h 48 2) :: rest))) : W p l e R s m args below meth c H locs cells slots Q (F0 m pc ls (.ref (ad 48) :: rest)) :=
  u_get C hP (by decide) cE_X4 rfl inX4 2 (by decide) rfl q_329 hdg kk
theorem gf_X5_47 {p : Program} {l : Launch} {e : Env} {R : Room} {s : State} {m : MethodId} {args : Array Value} {below : List Frame} {meth : Method} {c : Code} {H : Heap} {locs : List Loc} {cells slots : Nat} {Q : State → Prop} {cc : ByteArray} {nL : Nat} {ret : Option FieldType} {pc : Nat} {ls : Array Slot} {rest : List Value} {D : va_G} {ids : Nat → ClassId} {ad : Nat → Nat} {h : Hp} (C : CX p s m args meth c cc nL ret RX5 D ids) (hP : wp D (cEC ids ad) ad 59 h H) (hdg : decode cc pc = .ok (.getfield 47, 3)) (kk : W p l e R s m args below meth c H locs cells slots Q (F0 m (pc + 3) ls (.ref (ad 49) :: rest))) : W p l e R s m args below meth c H locs cells slots Q (F0 m pc ls (.ref (ad 48) :: rest)) :=
  u_get C hP (by decide) cE_X4 rfl inX4 0 (by decide) rfl q_330 hdg kk
theorem cv_X5_51 {p : Program} {l : Launch} {e : Env} {R : Room} {s : State} {m : MethodId} {args : Array Value} {below : List Frame} {meth : Method} {c : Code} {H : Heap} {locs : List Loc} {Q : State → Prop} {cc : ByteArray} {nL : Nat} {ret : Option FieldType} {pc : Nat} {ls : Array Slot} {rest : List Value} {D : va_G} {ids : Nat → ClassId} {ad tt : Nat → Nat} {h : Hp} (hA : adOk ad 59) (C : CX p s m args meth c cc nL ret RX5 D ids) (hX : (ExC tt ad) s s.heap) (hP : wp D (cEC ids ad) ad 59 h H) (hS : va_S (inW ad 59) s.heap H locs) {k : Nat} (hk : isX2 k) {k1 : Nat} (hk1 : isX3 k1) {rv : Hp} (hf : f_X2_endDay h k k1 = some rv) (hR : 1 + 1 ≤ R.frames ∧ 8 + (2 + 11) + 20 ≤ R.locals) (hsz : ls.size = nL) (hcat : (rest.map fun v => v.category).sum ≤ 8) (hdg : decode cc pc = .ok (.invokevirtual 51, 3)) (kk : ∀ (H1 : Heap) (locs1 : List Loc), wp D (cEC ids ad) ad 59 rv H1 → va_S (inW ad 59) s.heap H1 locs1 → W p l e R s m args below meth c H1 locs1 0 0 Q (F0 m (pc + 3) ls (rest))) : W p l e R s m args below meth c H locs 0 0 Q (F0 m pc ls (.ref (ad k1) :: .ref (ad k) :: rest)) :=
  u_callV (As := [.ref (ad k1)]) (rv := none) C (exC_ok hA) hX (c_X2_endDay l D ids ad tt hA hk hk1 hf) q_331 q_332 q_333 q_35 q_334 ⟨rfl, rfl⟩ (by refine ⟨by decide +kernel, by decide +kernel, ?_⟩; show _ = some 1; decide +kernel) hR (lt_X2 hk) (cE_X2 hk _) rfl hP hS hsz hcat rfl hdg kk
theorem cv_X5_55 {p : Program} {l : Launch} {e : Env} {R : Room} {s : State} {m : MethodId} {args : Array Value} {below : List Frame} {meth : Method} {c : Code} {H : Heap} {locs : List Loc} {Q : State → Prop} {cc : ByteArray} {nL : Nat} {ret : Option FieldType} {pc : Nat} {ls : Array Slot} {rest : List Value} {D : va_G} {ids : Nat → ClassId} {ad tt : Nat → Nat} {h : Hp} (hA : adOk ad 59) (C : CX p s m args meth c cc nL ret RX5 D ids) (hX : (ExC tt ad) s s.heap) (hP : wp D (cEC ids ad) ad 59 h H) (hS : va_S (inW ad 59) s.heap H locs) {k : Nat} (hk : isX3 k) {a1 : Int32} {rv : Int32 × Hp} (hf : f_X3_isLesson h k a1 = some rv) (hR : 0 + 1 ≤ R.frames ∧ 8 + (2 + 11) + 0 ≤ R.locals) (hsz : ls.size = nL) (hcat : (rest.map fun v => v.category).sum ≤ 8) (hdg : decode cc pc = .ok (.invokevirtual 55, 3)) (kk : ∀ (H1 : Heap) (locs1 : List Loc), wp D (cEC ids ad) ad 59 rv.2 H1 → va_S (inW ad 59) s.heap H1 locs1 → W p l e R s m args below meth c H1 locs1 0 0 Q (F0 m (pc + 3) ls (.int rv.1 :: rest))) : W p l e R s m args below meth c H locs 0 0 Q (F0 m pc ls (.int a1 :: .ref (ad k) :: rest)) :=
  u_callV (As := [.int a1]) (rv := (some (.int rv.1))) C (exC_ok hA) hX (c_X3_isLesson l D ids ad tt hA hk hf) q_344 q_345 q_346 q_88 q_347 ⟨rfl, rfl⟩ (by refine ⟨by decide +kernel, by decide +kernel, ?_⟩; show _ = some 1; decide +kernel) hR (lt_X3 hk) (cE_X3 hk _) rfl hP hS hsz hcat rfl hdg kk
theorem cv_X5_61 {p : Program} {l : Launch} {e : Env} {R : Room} {s : State} {m : MethodId} {args : Array Value} {below : List Frame} {meth : Method} {c : Code} {H : Heap} {locs : List Loc} {Q : State → Prop} {cc : ByteArray} {nL : Nat} {ret : Option FieldType} {pc : Nat} {ls : Array Slot} {rest : List Value} {D : va_G} {ids : Nat → ClassId} {ad tt : Nat → Nat} {h : Hp} (hA : adOk ad 59) (C : CX p s m args meth c cc nL ret RX5 D ids) (hX : (ExC tt ad) s s.heap) (hP : wp D (cEC ids ad) ad 59 h H) (hS : va_S (inW ad 59) s.heap H locs) {k : Nat} (hk : isX2 k) {a1 : Int32} {rv : Hp} (hf : f_X2_learn h k a1 = some rv) (hR : 0 + 1 ≤ R.frames ∧ 8 + (2 + 11) + 0 ≤ R.locals) (hsz : ls.size = nL) (hcat : (rest.map fun v => v.category).sum ≤ 8) (hdg : decode cc pc = .ok (.invokevirtual 61, 3)) (kk : ∀ (H1 : Heap) (locs1 : List Loc), wp D (cEC ids ad) ad 59 rv H1 → va_S (inW ad 59) s.heap H1 locs1 → W p l e R s m args below meth c H1 locs1 0 0 Q (F0 m (pc + 3) ls (rest))) : W p l e R s m args below meth c H locs 0 0 Q (F0 m pc ls (.int a1 :: .ref (ad k) :: rest)) :=
  u_callV (As := [.int a1]) (rv := none) C (exC_ok hA) hX (c_X2_learn l D ids ad tt hA hk hf) q_348 q_349 q_350 q_35 q_351 ⟨rfl, rfl⟩ (by refine ⟨by decide +kernel, by decide +kernel, ?_⟩; show _ = some 1; decide +kernel) hR (lt_X2 hk) (cE_X2 hk _) rfl hP hS hsz hcat rfl hdg kk
abbrev rm_X5_endDay : Room := { frames := 2, cells := 0, slots := 0, locals := 41 }
set_option maxRecDepth 100000 in
set_option maxHeartbeats 4000000 in
theorem w_X5_endDay_95 {p : Program} {l : Launch} {e : Env} {s : State} {m : MethodId} {args : Array Value} {below : List Frame} {meth : Method} {c : Code} {D : va_G} {ids : Nat → ClassId} {ad tt : Nat → Nat} {rv : Hp} (hA : adOk ad 59) (C : CX p s m args meth c cX5_endDay 4 none RX5 D ids) (hX : (ExC tt ad) s s.heap) {k : Nat} (hk : isX5 k) {K49 : Hp → Int32 → Option (Hp)} (hK49 : ∀ (h : Hp) (x2 : Int32) (H : Heap) (locs : List Loc) (ls : Array Slot), K49 h x2 = some rv → wp D (cEC ids ad) ad 59 h H → va_S (inW ad 59) s.heap H locs → lv_has ls 4 [(0, .ref (ad k)), (1, .ref (ad 48)), (2, .int x2)] → W p l e rm_X5_endDay s m args below meth c H locs 0 0 (MQ below (QW D (cEC ids ad) ad 59 none rv) args s 0 0 (inW ad 59)) (F0 m 49 ls [])) : ∀ (h : Hp) (x2 : Int32) (H : Heap) (locs : List Loc) (ls : Array Slot), f_X5_endDay_95 k K49 h x2 = some rv → wp D (cEC ids ad) ad 59 h H → va_S (inW ad 59) s.heap H locs → lv_has ls 4 [(0, .ref (ad k)), (1, .ref (ad 48)), (2, .int x2)] → W p l e rm_X5_endDay s m args below meth c H locs 0 0 (MQ below (QW D (cEC ids ad) ad 59 none rv) args s 0 0 (inW ad 59)) (F0 m 95 ls []) := by
  intro h x2 H locs ls hf hP hS hl
  unfold f_X5_endDay_95 at hf
  refine lv_iinc (v := (x2 + 1)) (lv' := [(2, .int (x2 + 1)), (0, .ref (ad k)), (1, .ref (ad 48))]) C.1 C.2.1 dX5_endDay_95 hl (k := 2) rfl (by rfl) (by decide) rfl (fun ls hl => ?_)
  refine lv_goto (tgt := 49) C.1 C.2.1 dX5_endDay_98 (by decide) ?_
  exact hK49 _ _ _ _ _ hf hP hS (lv_sub hl [1, 2, 0] rfl)
set_option maxRecDepth 100000 in
set_option maxHeartbeats 4000000 in
theorem w_X5_endDay_49 {p : Program} {l : Launch} {e : Env} {s : State} {m : MethodId} {args : Array Value} {below : List Frame} {meth : Method} {c : Code} {D : va_G} {ids : Nat → ClassId} {ad tt : Nat → Nat} {rv : Hp} (hA : adOk ad 59) (C : CX p s m args meth c cX5_endDay 4 none RX5 D ids) (hX : (ExC tt ad) s s.heap) {k : Nat} (hk : isX5 k) : ∀ (fu : Nat), ∀ (h : Hp) (x2 : Int32) (H : Heap) (locs : List Loc) (ls : Array Slot), f_X5_endDay_49 k fu h x2 = some rv → wp D (cEC ids ad) ad 59 h H → va_S (inW ad 59) s.heap H locs → lv_has ls 4 [(0, .ref (ad k)), (1, .ref (ad 48)), (2, .int x2)] → W p l e rm_X5_endDay s m args below meth c H locs 0 0 (MQ below (QW D (cEC ids ad) ad 59 none rv) args s 0 0 (inW ad 59)) (F0 m 49 ls []) := by
  intro fu
  induction fu with
  | zero =>
    intro h x2 H locs ls hf hP hS hl
    cases hf
  | succ fu ih =>
    intro h x2 H locs ls hf hP hS hl
    rw [f_X5_endDay_49_s] at hf
    refine lv_iload_n C.1 C.2.1 dX5_endDay_49 rfl (lv_at hl 2 rfl) ?_
    refine lv_iconst (v := (3 : Int32)) C.1 C.2.1 dX5_endDay_50 (by decide) ?_
    refine lv_icmp_ge (tgt := 101) C.1 C.2.1 dX5_endDay_51 (by decide) (fun hc => ?_) (fun hc => ?_)
    · have hf := g_t hc hf
      obtain rfl := Option.some.inj hf
      exact u_vret C hP hS dX5_endDay_101
    · have hf := g_f hc hf
      refine lv_aload_n C.1 C.2.1 dX5_endDay_54 rfl (lv_at hl 1 rfl) ?_
      refine gf_X5_47 C hP dX5_endDay_55 ?_
      refine lv_iload_n C.1 C.2.1 dX5_endDay_58 rfl (lv_at hl 2 rfl) ?_
      obtain ⟨hg1, hf⟩ := g_if hf
      refine rl_aFe C hP hg1 dX5_endDay_59 ?_
      refine lv_astore_n (lv' := [(3, .ref (ad (50 + 3 * x2.toNatClampNeg))), (0, .ref (ad k)), (1, .ref (ad 48)), (2, .int x2)]) C.1 C.2.1 dX5_endDay_60 rfl hl (by decide) rfl (fun ls hl => ?_)
      refine lv_aload_n C.1 C.2.1 dX5_endDay_61 rfl (lv_at hl 1 rfl) ?_
      refine gf_X5_14 C hk hP dX5_endDay_62 ?_
      refine lv_iload_n C.1 C.2.1 dX5_endDay_65 rfl (lv_at hl 3 rfl) ?_
      obtain ⟨hg2, hf⟩ := g_if hf
      refine rl_aCap C (cap_of hk) hP hg2 dX5_endDay_66 ?_
      refine lv_aload_n C.1 C.2.1 dX5_endDay_67 rfl (lv_at hl 0 rfl) ?_
      obtain ⟨q3, eq3, hf⟩ := g_b hf
      refine cv_X5_51 hA C hX hP hS (cp_el (cap_of hk) hg2) (fe_el hg1) eq3 ⟨Nat.le_of_ble_eq_true rfl, Nat.le_of_ble_eq_true rfl⟩ hl.1 (Nat.le_of_ble_eq_true rfl) dX5_endDay_68 (fun H locs hP hS => ?_)
      refine lv_aload_n C.1 C.2.1 dX5_endDay_71 rfl (lv_at hl 0 rfl) ?_
      refine lv_aload_n C.1 C.2.1 dX5_endDay_72 rfl (lv_at hl 1 rfl) ?_
      refine gf_X5_24 C hk hP dX5_endDay_73 ?_
      obtain ⟨q4, eq4, hf⟩ := g_b hf
      refine cv_X5_55 hA C hX hP hS (fe_el hg1) eq4 ⟨Nat.le_of_ble_eq_true rfl, Nat.le_of_ble_eq_true rfl⟩ hl.1 (Nat.le_of_ble_eq_true rfl) dX5_endDay_76 (fun H locs hP hS => ?_)
      refine lv_if_eq (tgt := 95) C.1 C.2.1 dX5_endDay_79 (by decide) (fun hc => ?_) (fun hc => ?_)
      · have hf := g_t hc hf
        exact w_X5_endDay_95 hA C hX hk ih _ _ _ _ _ hf hP hS (lv_sub hl [1, 2, 3] rfl)
      · have hf := g_f hc hf
        refine lv_aload_n C.1 C.2.1 dX5_endDay_82 rfl (lv_at hl 1 rfl) ?_
        refine gf_X5_14 C hk hP dX5_endDay_83 ?_
        refine lv_iload_n C.1 C.2.1 dX5_endDay_86 rfl (lv_at hl 3 rfl) ?_
        obtain ⟨hg5, hf⟩ := g_if hf
        refine rl_aCap C (cap_of hk) hP hg5 dX5_endDay_87 ?_
        refine lv_aload_n C.1 C.2.1 dX5_endDay_88 rfl (lv_at hl 1 rfl) ?_
        refine gf_X5_27 C hk hP dX5_endDay_89 ?_
        obtain ⟨q6, eq6, hf⟩ := g_b hf
        refine cv_X5_61 hA C hX hP hS (cp_el (cap_of hk) hg5) eq6 ⟨Nat.le_of_ble_eq_true rfl, Nat.le_of_ble_eq_true rfl⟩ hl.1 (Nat.le_of_ble_eq_true rfl) dX5_endDay_92 (fun H locs hP hS => ?_)
        exact w_X5_endDay_95 hA C hX hk ih _ _ _ _ _ hf hP hS (lv_sub hl [1, 2, 3] rfl)
set_option maxRecDepth 100000 in
set_option maxHeartbeats 4000000 in
theorem w_X5_endDay_47 {p : Program} {l : Launch} {e : Env} {s : State} {m : MethodId} {args : Array Value} {below : List Frame} {meth : Method} {c : Code} {D : va_G} {ids : Nat → ClassId} {ad tt : Nat → Nat} {rv : Hp} (hA : adOk ad 59) (C : CX p s m args meth c cX5_endDay 4 none RX5 D ids) (hX : (ExC tt ad) s s.heap) {k : Nat} (hk : isX5 k) : ∀ (h : Hp) (H : Heap) (locs : List Loc) (ls : Array Slot), f_X5_endDay_47 k h = some rv → wp D (cEC ids ad) ad 59 h H → va_S (inW ad 59) s.heap H locs → lv_has ls 4 [(0, .ref (ad k)), (1, .ref (ad 48))] → W p l e rm_X5_endDay s m args below meth c H locs 0 0 (MQ below (QW D (cEC ids ad) ad 59 none rv) args s 0 0 (inW ad 59)) (F0 m 47 ls []) := by
  intro h H locs ls hf hP hS hl
  unfold f_X5_endDay_47 at hf
  refine lv_iconst (v := (0 : Int32)) C.1 C.2.1 dX5_endDay_47 (by decide) ?_
  refine lv_istore_n (lv' := [(2, .int (0 : Int32)), (0, .ref (ad k)), (1, .ref (ad 48))]) C.1 C.2.1 dX5_endDay_48 rfl hl (by decide) rfl (fun ls hl => ?_)
  exact w_X5_endDay_49 hA C hX hk _ _ _ _ _ _ hf hP hS (lv_sub hl [1, 2, 0] rfl)
set_option maxRecDepth 100000 in
set_option maxHeartbeats 4000000 in
theorem w_X5_endDay_18 {p : Program} {l : Launch} {e : Env} {s : State} {m : MethodId} {args : Array Value} {below : List Frame} {meth : Method} {c : Code} {D : va_G} {ids : Nat → ClassId} {ad tt : Nat → Nat} {rv : Hp} (hA : adOk ad 59) (C : CX p s m args meth c cX5_endDay 4 none RX5 D ids) (hX : (ExC tt ad) s s.heap) {k : Nat} (hk : isX5 k) : ∀ (h : Hp) (H : Heap) (locs : List Loc) (ls : Array Slot), f_X5_endDay_18 k h = some rv → wp D (cEC ids ad) ad 59 h H → va_S (inW ad 59) s.heap H locs → lv_has ls 4 [(0, .ref (ad k)), (1, .ref (ad 48))] → W p l e rm_X5_endDay s m args below meth c H locs 0 0 (MQ below (QW D (cEC ids ad) ad 59 none rv) args s 0 0 (inW ad 59)) (F0 m 18 ls []) := by
  intro h H locs ls hf hP hS hl
  unfold f_X5_endDay_18 at hf
  refine lv_aload_n C.1 C.2.1 dX5_endDay_18 rfl (lv_at hl 0 rfl) ?_
  refine lv_dup C.1 C.2.1 dX5_endDay_19 rfl ?_
  refine gf_X5_33 C hk hP dX5_endDay_20 ?_
  refine lv_aload_n C.1 C.2.1 dX5_endDay_23 rfl (lv_at hl 1 rfl) ?_
  refine gf_X5_46 C hP dX5_endDay_24 ?_
  refine lv_iadd C.1 C.2.1 dX5_endDay_27 ?_
  refine pf_X5_33 hA C hk hP hS dX5_endDay_28 (fun H locs hP hS => ?_)
  refine lv_aload_n C.1 C.2.1 dX5_endDay_31 rfl (lv_at hl 0 rfl) ?_
  refine lv_aload_n C.1 C.2.1 dX5_endDay_32 rfl (lv_at hl 0 rfl) ?_
  refine gf_X5_27 C hk hP dX5_endDay_33 ?_
  refine lv_aload_n C.1 C.2.1 dX5_endDay_36 rfl (lv_at hl 0 rfl) ?_
  refine gf_X5_20 C hk hP dX5_endDay_37 ?_
  refine lv_iadd C.1 C.2.1 dX5_endDay_40 ?_
  refine lv_bipush (v := (12 : Int32)) C.1 C.2.1 dX5_endDay_41 (by decide) ?_
  refine lv_irem C.1 C.2.1 dX5_endDay_43 (by decide) ?_
  refine pf_X5_27 hA C hk hP hS dX5_endDay_44 (fun H locs hP hS => ?_)
  exact w_X5_endDay_47 hA C hX hk _ _ _ _ hf hP hS (lv_sub hl [0, 1] rfl)
set_option maxRecDepth 100000 in
set_option maxHeartbeats 4000000 in
theorem w_X5_endDay {p : Program} {l : Launch} {e : Env} {s : State} {m : MethodId} {args : Array Value} {below : List Frame} {meth : Method} {c : Code} {D : va_G} {ids : Nat → ClassId} {ad tt : Nat → Nat} {rv : Hp} (hA : adOk ad 59) (C : CX p s m args meth c cX5_endDay 4 none RX5 D ids) (hX : (ExC tt ad) s s.heap) {k : Nat} (hk : isX5 k) : ∀ (h : Hp) (H : Heap) (locs : List Loc) (ls : Array Slot), f_X5_endDay h k = some rv → wp D (cEC ids ad) ad 59 h H → va_S (inW ad 59) s.heap H locs → lv_has ls 4 [(0, .ref (ad k)), (1, .ref (ad 48))] → W p l e rm_X5_endDay s m args below meth c H locs 0 0 (MQ below (QW D (cEC ids ad) ad 59 none rv) args s 0 0 (inW ad 59)) (F0 m 0 ls []) := by
  intro h H locs ls hf hP hS hl
  unfold f_X5_endDay at hf
  refine lv_aload_n C.1 C.2.1 dX5_endDay_0 rfl (lv_at hl 0 rfl) ?_
  refine lv_dup C.1 C.2.1 dX5_endDay_1 rfl ?_
  refine gf_X5_36 C hk hP dX5_endDay_2 ?_
  refine lv_iconst (v := (1 : Int32)) C.1 C.2.1 dX5_endDay_5 (by decide) ?_
  refine lv_iadd C.1 C.2.1 dX5_endDay_6 ?_
  refine pf_X5_36 hA C hk hP hS dX5_endDay_7 (fun H locs hP hS => ?_)
  refine lv_aload_n C.1 C.2.1 dX5_endDay_10 rfl (lv_at hl 0 rfl) ?_
  refine lv_aload_n C.1 C.2.1 dX5_endDay_11 rfl (lv_at hl 1 rfl) ?_
  refine gf_X5_43 C hP dX5_endDay_12 ?_
  refine pf_X5_30 hA C hk hP hS dX5_endDay_15 (fun H locs hP hS => ?_)
  exact w_X5_endDay_18 hA C hX hk _ _ _ _ hf hP hS (lv_sub hl [0, 1] rfl)
theorem c_X5_endDay (l : Launch) (D : va_G) (ids : Nat → ClassId) (ad tt : Nat → Nat) (hA : adOk ad 59) {k : Nat} (hk : isX5 k) {h : Hp} {rv : Hp} (hf : f_X5_endDay h k = some rv) : Met l yX5_endDay (ws_ yX5_endDay cX5_endDay 4 none) rm_X5_endDay (va_Pc [.ref (ad k), .ref (ad 48)] (WB D ids (cEC ids ad) ad 59 (ExC tt ad) h)) (QW D (cEC ids ad) ad 59 none rv) 0 0 (inW ad 59) :=
  u_met (own := RX5) (by decide) rfl (Nat.le_of_ble_eq_true rfl) rfl (fun p e s m args below meth c H ls C hX hP hS hl => w_X5_endDay (tt := tt) hA C hX hk _ _ _ _ hf hP hS hl)
theorem cv_X3_71 {p : Program} {l : Launch} {e : Env} {R : Room} {s : State} {m : MethodId} {args : Array Value} {below : List Frame} {meth : Method} {c : Code} {H : Heap} {locs : List Loc} {Q : State → Prop} {cc : ByteArray} {nL : Nat} {ret : Option FieldType} {pc : Nat} {ls : Array Slot} {rest : List Value} {D : va_G} {ids : Nat → ClassId} {ad tt : Nat → Nat} {h : Hp} (hA : adOk ad 59) (C : CX p s m args meth c cc nL ret RX3 D ids) (hX : (ExC tt ad) s s.heap) (hP : wp D (cEC ids ad) ad 59 h H) (hS : va_S (inW ad 59) s.heap H locs) {k : Nat} (hk : isX3 k) {rv : Int32 × Hp} (hf : f_X3_crossingsLeft h k = some rv) (hR : 0 + 1 ≤ R.frames ∧ 8 + (1 + 11) + 0 ≤ R.locals) (hsz : ls.size = nL) (hcat : (rest.map fun v => v.category).sum ≤ 8) (hdg : decode cc pc = .ok (.invokevirtual 71, 3)) (kk : ∀ (H1 : Heap) (locs1 : List Loc), wp D (cEC ids ad) ad 59 rv.2 H1 → va_S (inW ad 59) s.heap H1 locs1 → W p l e R s m args below meth c H1 locs1 0 0 Q (F0 m (pc + 3) ls (.int rv.1 :: rest))) : W p l e R s m args below meth c H locs 0 0 Q (F0 m pc ls (.ref (ad k) :: rest)) :=
  u_callV (As := []) (rv := (some (.int rv.1))) C (exC_ok hA) hX (c_X3_crossingsLeft l D ids ad tt hA hk hf) q_360 q_340 q_341 q_88 q_342 ⟨rfl, rfl⟩ (by refine ⟨by decide +kernel, by decide +kernel, ?_⟩; show _ = some 0; decide +kernel) hR (lt_X3 hk) (cE_X3 hk _) rfl hP hS hsz hcat rfl hdg kk
abbrev rm_X3_tell : Room := { frames := 1, cells := 0, slots := 0, locals := 20 }
set_option maxRecDepth 100000 in
set_option maxHeartbeats 4000000 in
theorem w_X3_tell {p : Program} {l : Launch} {e : Env} {s : State} {m : MethodId} {args : Array Value} {below : List Frame} {meth : Method} {c : Code} {D : va_G} {ids : Nat → ClassId} {ad tt : Nat → Nat} {rv : Int32 × Hp} (hA : adOk ad 59) (C : CX p s m args meth c cX3_tell 2 (some .int) RX3 D ids) (hX : (ExC tt ad) s s.heap) {k : Nat} (hk : isX3 k) : ∀ (h : Hp) (a1 : Int32) (H : Heap) (locs : List Loc) (ls : Array Slot), f_X3_tell h k a1 = some rv → wp D (cEC ids ad) ad 59 h H → va_S (inW ad 59) s.heap H locs → lv_has ls 2 [(0, .ref (ad k)), (1, .int a1)] → W p l e rm_X3_tell s m args below meth c H locs 0 0 (MQ below (QW D (cEC ids ad) ad 59 (some (.int rv.1)) rv.2) args s 0 0 (inW ad 59)) (F0 m 0 ls []) := by
  intro h a1 H locs ls hf hP hS hl
  unfold f_X3_tell at hf
  refine lv_iload_n C.1 C.2.1 dX3_tell_0 rfl (lv_at hl 1 rfl) ?_
  by_cases hc5 : a1 = 5
  · have hf := g_t hc5 hf
    refine lv_tableIn (off := 35) (tgt := 36) C.1 C.2.1 dX3_tell_1 (by rw [hc5]; decide) (by rw [hc5]; decide) (by rw [hc5]; rfl) (by decide) ?_
    refine lv_aload_n C.1 C.2.1 dX3_tell_36 rfl (lv_at hl 0 rfl) ?_
    refine gf_X3_38 C hk hP dX3_tell_37 ?_
    obtain rfl := Option.some.inj hf
    exact u_iret C hP hS dX3_tell_40
  · have hf := g_f hc5 hf
    by_cases hc6 : a1 = 6
    · have hf := g_t hc6 hf
      refine lv_tableIn (off := 40) (tgt := 41) C.1 C.2.1 dX3_tell_1 (by rw [hc6]; decide) (by rw [hc6]; decide) (by rw [hc6]; rfl) (by decide) ?_
      refine lv_aload_n C.1 C.2.1 dX3_tell_41 rfl (lv_at hl 0 rfl) ?_
      refine gf_X3_41 C hk hP dX3_tell_42 ?_
      obtain rfl := Option.some.inj hf
      exact u_iret C hP hS dX3_tell_45
    · have hf := g_f hc6 hf
      by_cases hc7 : a1 = 7
      · have hf := g_t hc7 hf
        refine lv_tableIn (off := 45) (tgt := 46) C.1 C.2.1 dX3_tell_1 (by rw [hc7]; decide) (by rw [hc7]; decide) (by rw [hc7]; rfl) (by decide) ?_
        refine lv_aload_n C.1 C.2.1 dX3_tell_46 rfl (lv_at hl 0 rfl) ?_
        refine gf_X3_44 C hk hP dX3_tell_47 ?_
        obtain rfl := Option.some.inj hf
        exact u_iret C hP hS dX3_tell_50
      · have hf := g_f hc7 hf
        by_cases hc8 : a1 = 8
        · have hf := g_t hc8 hf
          refine lv_tableIn (off := 55) (tgt := 56) C.1 C.2.1 dX3_tell_1 (by rw [hc8]; decide) (by rw [hc8]; decide) (by rw [hc8]; rfl) (by decide) ?_
          refine lv_iconst (v := (0 : Int32)) C.1 C.2.1 dX3_tell_56 (by decide) ?_
          obtain rfl := Option.some.inj hf
          exact u_iret C hP hS dX3_tell_57
        · have hf := g_f hc8 hf
          by_cases hc9 : a1 = 9
          · have hf := g_t hc9 hf
            refine lv_tableIn (off := 50) (tgt := 51) C.1 C.2.1 dX3_tell_1 (by rw [hc9]; decide) (by rw [hc9]; decide) (by rw [hc9]; rfl) (by decide) ?_
            refine lv_aload_n C.1 C.2.1 dX3_tell_51 rfl (lv_at hl 0 rfl) ?_
            obtain ⟨q1, eq1, hf⟩ := g_b hf
            refine cv_X3_71 hA C hX hP hS hk eq1 ⟨Nat.le_of_ble_eq_true rfl, Nat.le_of_ble_eq_true rfl⟩ hl.1 (Nat.le_of_ble_eq_true rfl) dX3_tell_52 (fun H locs hP hS => ?_)
            obtain rfl := Option.some.inj hf
            exact u_iret C hP hS dX3_tell_55
          · have hf := g_f hc9 hf
            have hsw : a1.toInt < 5 ∨ 9 < a1.toInt := by
              have zhc5 := lv_neT hc5 (show (5 : Int32).toInt = 5 by decide)
              have zhc6 := lv_neT hc6 (show (6 : Int32).toInt = 6 by decide)
              have zhc7 := lv_neT hc7 (show (7 : Int32).toInt = 7 by decide)
              have zhc8 := lv_neT hc8 (show (8 : Int32).toInt = 8 by decide)
              have zhc9 := lv_neT hc9 (show (9 : Int32).toInt = 9 by decide)
              omega
            refine lv_tableOut (tgt := 56) C.1 C.2.1 dX3_tell_1 hsw (by decide) ?_
            refine lv_iconst (v := (0 : Int32)) C.1 C.2.1 dX3_tell_56 (by decide) ?_
            obtain rfl := Option.some.inj hf
            exact u_iret C hP hS dX3_tell_57
theorem c_X3_tell (l : Launch) (D : va_G) (ids : Nat → ClassId) (ad tt : Nat → Nat) (hA : adOk ad 59) {k : Nat} (hk : isX3 k) {a1 : Int32} {h : Hp} {rv : Int32 × Hp} (hf : f_X3_tell h k a1 = some rv) : Met l yX3_tell (ws_ yX3_tell cX3_tell 2 (some .int)) rm_X3_tell (va_Pc [.ref (ad k), .int a1] (WB D ids (cEC ids ad) ad 59 (ExC tt ad) h)) (QW D (cEC ids ad) ad 59 (some (.int rv.1)) rv.2) 0 0 (inW ad 59) :=
  u_met (own := RX3) (by decide) rfl (Nat.le_of_ble_eq_true rfl) rfl (fun p e s m args below meth c H ls C hX hP hS hl => w_X3_tell (tt := tt) hA C hX hk _ _ _ _ _ hf hP hS hl)
theorem cv_X4_70 {p : Program} {l : Launch} {e : Env} {R : Room} {s : State} {m : MethodId} {args : Array Value} {below : List Frame} {meth : Method} {c : Code} {H : Heap} {locs : List Loc} {Q : State → Prop} {cc : ByteArray} {nL : Nat} {ret : Option FieldType} {pc : Nat} {ls : Array Slot} {rest : List Value} {D : va_G} {ids : Nat → ClassId} {ad tt : Nat → Nat} {h : Hp} (hA : adOk ad 59) (C : CX p s m args meth c cc nL ret RX4 D ids) (hX : (ExC tt ad) s s.heap) (hP : wp D (cEC ids ad) ad 59 h H) (hS : va_S (inW ad 59) s.heap H locs) {k : Nat} (hk : isX3 k) {a1 : Int32} {rv : Int32 × Hp} (hf : f_X3_tell h k a1 = some rv) (hR : 1 + 1 ≤ R.frames ∧ 8 + (2 + 11) + 20 ≤ R.locals) (hsz : ls.size = nL) (hcat : (rest.map fun v => v.category).sum ≤ 8) (hdg : decode cc pc = .ok (.invokevirtual 70, 3)) (kk : ∀ (H1 : Heap) (locs1 : List Loc), wp D (cEC ids ad) ad 59 rv.2 H1 → va_S (inW ad 59) s.heap H1 locs1 → W p l e R s m args below meth c H1 locs1 0 0 Q (F0 m (pc + 3) ls (.int rv.1 :: rest))) : W p l e R s m args below meth c H locs 0 0 Q (F0 m pc ls (.int a1 :: .ref (ad k) :: rest)) :=
  u_callV (As := [.int a1]) (rv := (some (.int rv.1))) C (exC_ok hA) hX (c_X3_tell l D ids ad tt hA hk hf) q_356 q_357 q_358 q_88 q_359 ⟨rfl, rfl⟩ (by refine ⟨by decide +kernel, by decide +kernel, ?_⟩; show _ = some 1; decide +kernel) hR (lt_X3 hk) (cE_X3 hk _) rfl hP hS hsz hcat rfl hdg kk
abbrev rm_X4_sumOf : Room := { frames := 2, cells := 0, slots := 0, locals := 41 }
set_option maxRecDepth 100000 in
set_option maxHeartbeats 4000000 in
theorem w_X4_sumOf_14 {p : Program} {l : Launch} {e : Env} {s : State} {m : MethodId} {args : Array Value} {below : List Frame} {meth : Method} {c : Code} {D : va_G} {ids : Nat → ClassId} {ad tt : Nat → Nat} {rv : Int32 × Hp} (hA : adOk ad 59) (C : CX p s m args meth c cX4_sumOf 7 (some .int) RX4 D ids) (hX : (ExC tt ad) s s.heap) : ∀ (fu : Nat), ∀ (h : Hp) (x1 : Int32) (x2 : Int32) (x4 : Int32) (x5 : Int32) (H : Heap) (locs : List Loc) (ls : Array Slot), f_X4_sumOf_14 fu h x1 x2 x4 x5 = some rv → wp D (cEC ids ad) ad 59 h H → va_S (inW ad 59) s.heap H locs → lv_has ls 7 [(1, .int x1), (2, .int x2), (3, .ref (ad 49)), (4, .int x4), (5, .int x5)] → W p l e rm_X4_sumOf s m args below meth c H locs 0 0 (MQ below (QW D (cEC ids ad) ad 59 (some (.int rv.1)) rv.2) args s 0 0 (inW ad 59)) (F0 m 14 ls []) := by
  intro fu
  induction fu with
  | zero =>
    intro h x1 x2 x4 x5 H locs ls hf hP hS hl
    cases hf
  | succ fu ih =>
    intro h x1 x2 x4 x5 H locs ls hf hP hS hl
    rw [f_X4_sumOf_14_s] at hf
    refine lv_iload C.1 C.2.1 dX4_sumOf_14 (lv_at hl 4 rfl) ?_
    refine lv_iload C.1 C.2.1 dX4_sumOf_16 (lv_at hl 3 rfl) ?_
    refine lv_icmp_ge (tgt := 42) C.1 C.2.1 dX4_sumOf_18 (by decide) (fun hc => ?_) (fun hc => ?_)
    · have hf := g_t hc hf
      refine lv_iload_n C.1 C.2.1 dX4_sumOf_42 rfl (lv_at hl 1 rfl) ?_
      obtain rfl := Option.some.inj hf
      exact u_iret C hP hS dX4_sumOf_43
    · have hf := g_f hc hf
      refine lv_aload_n C.1 C.2.1 dX4_sumOf_21 rfl (lv_at hl 2 rfl) ?_
      refine lv_iload C.1 C.2.1 dX4_sumOf_22 (lv_at hl 4 rfl) ?_
      obtain ⟨hg1, hf⟩ := g_if hf
      refine rl_aFe C hP hg1 dX4_sumOf_24 ?_
      refine lv_astore (lv' := [(6, .ref (ad (50 + 3 * x5.toNatClampNeg))), (1, .int x1), (2, .int x2), (3, .ref (ad 49)), (4, .int x4), (5, .int x5)]) C.1 C.2.1 dX4_sumOf_25 hl (by decide) rfl (fun ls hl => ?_)
      refine lv_iload_n C.1 C.2.1 dX4_sumOf_27 rfl (lv_at hl 2 rfl) ?_
      refine lv_aload C.1 C.2.1 dX4_sumOf_28 (lv_at hl 0 rfl) ?_
      refine lv_iload_n C.1 C.2.1 dX4_sumOf_30 rfl (lv_at hl 1 rfl) ?_
      obtain ⟨q2, eq2, hf⟩ := g_b hf
      refine cv_X4_70 hA C hX hP hS (fe_el hg1) eq2 ⟨Nat.le_of_ble_eq_true rfl, Nat.le_of_ble_eq_true rfl⟩ hl.1 (Nat.le_of_ble_eq_true rfl) dX4_sumOf_31 (fun H locs hP hS => ?_)
      refine lv_iadd C.1 C.2.1 dX4_sumOf_34 ?_
      refine lv_istore_n (lv' := [(2, .int (x2 + q2.1)), (6, .ref (ad (50 + 3 * x5.toNatClampNeg))), (1, .int x1), (3, .ref (ad 49)), (4, .int x4), (5, .int x5)]) C.1 C.2.1 dX4_sumOf_35 rfl hl (by decide) rfl (fun ls hl => ?_)
      refine lv_iinc (v := (x5 + 1)) (lv' := [(5, .int (x5 + 1)), (2, .int (x2 + q2.1)), (6, .ref (ad (50 + 3 * x5.toNatClampNeg))), (1, .int x1), (3, .ref (ad 49)), (4, .int x4)]) C.1 C.2.1 dX4_sumOf_36 hl (k := 5) rfl (by rfl) (by decide) rfl (fun ls hl => ?_)
      refine lv_goto (tgt := 14) C.1 C.2.1 dX4_sumOf_39 (by decide) ?_
      exact ih _ _ _ _ _ _ _ _ hf hP hS (lv_sub hl [3, 1, 4, 5, 0] rfl)
set_option maxRecDepth 100000 in
set_option maxHeartbeats 4000000 in
theorem w_X4_sumOf {p : Program} {l : Launch} {e : Env} {s : State} {m : MethodId} {args : Array Value} {below : List Frame} {meth : Method} {c : Code} {D : va_G} {ids : Nat → ClassId} {ad tt : Nat → Nat} {rv : Int32 × Hp} (hA : adOk ad 59) (C : CX p s m args meth c cX4_sumOf 7 (some .int) RX4 D ids) (hX : (ExC tt ad) s s.heap) : ∀ (h : Hp) (a1 : Int32) (H : Heap) (locs : List Loc) (ls : Array Slot), f_X4_sumOf h a1 = some rv → wp D (cEC ids ad) ad 59 h H → va_S (inW ad 59) s.heap H locs → lv_has ls 7 [(0, .ref (ad 48)), (1, .int a1)] → W p l e rm_X4_sumOf s m args below meth c H locs 0 0 (MQ below (QW D (cEC ids ad) ad 59 (some (.int rv.1)) rv.2) args s 0 0 (inW ad 59)) (F0 m 0 ls []) := by
  intro h a1 H locs ls hf hP hS hl
  unfold f_X4_sumOf at hf
  refine lv_iconst (v := (0 : Int32)) C.1 C.2.1 dX4_sumOf_0 (by decide) ?_
  refine lv_istore_n (lv' := [(2, .int (0 : Int32)), (0, .ref (ad 48)), (1, .int a1)]) C.1 C.2.1 dX4_sumOf_1 rfl hl (by decide) rfl (fun ls hl => ?_)
  refine lv_aload_n C.1 C.2.1 dX4_sumOf_2 rfl (lv_at hl 1 rfl) ?_
  refine gf_X4_12 C hP dX4_sumOf_3 ?_
  refine lv_astore_n (lv' := [(3, .ref (ad 49)), (2, .int (0 : Int32)), (0, .ref (ad 48)), (1, .int a1)]) C.1 C.2.1 dX4_sumOf_6 rfl hl (by decide) rfl (fun ls hl => ?_)
  refine lv_aload_n C.1 C.2.1 dX4_sumOf_7 rfl (lv_at hl 0 rfl) ?_
  refine ln_aFe C hP dX4_sumOf_8 ?_
  refine lv_istore (lv' := [(4, .int (3 : Int32)), (3, .ref (ad 49)), (2, .int (0 : Int32)), (0, .ref (ad 48)), (1, .int a1)]) C.1 C.2.1 dX4_sumOf_9 hl (by decide) rfl (fun ls hl => ?_)
  refine lv_iconst (v := (0 : Int32)) C.1 C.2.1 dX4_sumOf_11 (by decide) ?_
  refine lv_istore (lv' := [(5, .int (0 : Int32)), (4, .int (3 : Int32)), (3, .ref (ad 49)), (2, .int (0 : Int32)), (0, .ref (ad 48)), (1, .int a1)]) C.1 C.2.1 dX4_sumOf_12 hl (by decide) rfl (fun ls hl => ?_)
  exact w_X4_sumOf_14 hA C hX _ _ _ _ _ _ _ _ _ hf hP hS (lv_sub hl [5, 3, 2, 1, 0] rfl)
theorem c_X4_sumOf (l : Launch) (D : va_G) (ids : Nat → ClassId) (ad tt : Nat → Nat) (hA : adOk ad 59) {a1 : Int32} {h : Hp} {rv : Int32 × Hp} (hf : f_X4_sumOf h a1 = some rv) : Met l yX4_sumOf (ws_ yX4_sumOf cX4_sumOf 7 (some .int)) rm_X4_sumOf (va_Pc [.ref (ad 48), .int a1] (WB D ids (cEC ids ad) ad 59 (ExC tt ad) h)) (QW D (cEC ids ad) ad 59 (some (.int rv.1)) rv.2) 0 0 (inW ad 59) :=
  u_met (own := RX4) (by decide) rfl (Nat.le_of_ble_eq_true rfl) rfl (fun p e s m args below meth c H ls C hX hP hS hl => w_X4_sumOf (tt := tt) hA C hX _ _ _ _ _ hf hP hS hl)
theorem gf_X7_51 {p : Program} {l : Launch} {e : Env} {R : Room} {s : State} {m : MethodId} {args : Array Value} {below : List Frame} {meth : Method} {c : Code} {H : Heap} {locs : List Loc} {cells slots : Nat} {Q : State → Prop} {cc : ByteArray} {nL : Nat} {ret : Option FieldType} {pc : Nat} {ls : Array Slot} {rest : List Value} {D : va_G} {ids : Nat → ClassId} {ad : Nat → Nat} {h : Hp} (C : CX p s m args meth c cc nL ret RX7 D ids) (hP : wp D (cEC ids ad) ad 59 h H) (hdg : decode cc pc = .ok (.getfield 51, 3)) (kk : W p l e R s m args below meth c H locs cells slots Q (F0 m (pc + 3) ls (.ref (ad 48) :: rest))) : W p l e R s m args below meth c H locs cells slots Q (F0 m pc ls (.ref (ad 0) :: rest)) :=
  u_get C hP (by decide) cE_X7 rfl inX7 8 (by decide) rfl q_29 hdg kk
theorem cv_X7_110 {p : Program} {l : Launch} {e : Env} {R : Room} {s : State} {m : MethodId} {args : Array Value} {below : List Frame} {meth : Method} {c : Code} {H : Heap} {locs : List Loc} {Q : State → Prop} {cc : ByteArray} {nL : Nat} {ret : Option FieldType} {pc : Nat} {ls : Array Slot} {rest : List Value} {D : va_G} {ids : Nat → ClassId} {ad tt : Nat → Nat} {h : Hp} (hA : adOk ad 59) (C : CX p s m args meth c cc nL ret RX7 D ids) (hX : (ExC tt ad) s s.heap) (hP : wp D (cEC ids ad) ad 59 h H) (hS : va_S (inW ad 59) s.heap H locs) {k1 : Nat} (hk1 : isX5 k1) {rv : Hp} (hf : f_X4_run h k1 = some rv) (hR : 4 + 1 ≤ R.frames ∧ 8 + (8 + 11) + 87 ≤ R.locals) (hsz : ls.size = nL) (hcat : (rest.map fun v => v.category).sum ≤ 8) (hdg : decode cc pc = .ok (.invokevirtual 110, 3)) (kk : ∀ (H1 : Heap) (locs1 : List Loc), wp D (cEC ids ad) ad 59 rv H1 → va_S (inW ad 59) s.heap H1 locs1 → W p l e R s m args below meth c H1 locs1 0 0 Q (F0 m (pc + 3) ls (rest))) : W p l e R s m args below meth c H locs 0 0 Q (F0 m pc ls (.ref (ad k1) :: .ref (ad 48) :: rest)) :=
  u_callV (As := [.ref (ad k1)]) (rv := none) C (exC_ok hA) hX (c_X4_run l D ids ad tt hA hk1 hf) q_279 q_280 q_281 q_28 q_282 ⟨rfl, rfl⟩ (by refine ⟨by decide +kernel, by decide +kernel, ?_⟩; show _ = some 1; decide +kernel) hR (by decide) (cE_X4 _) rfl hP hS hsz hcat rfl hdg kk
theorem cv_X7_113 {p : Program} {l : Launch} {e : Env} {R : Room} {s : State} {m : MethodId} {args : Array Value} {below : List Frame} {meth : Method} {c : Code} {H : Heap} {locs : List Loc} {Q : State → Prop} {cc : ByteArray} {nL : Nat} {ret : Option FieldType} {pc : Nat} {ls : Array Slot} {rest : List Value} {D : va_G} {ids : Nat → ClassId} {ad tt : Nat → Nat} {h : Hp} (hA : adOk ad 59) (C : CX p s m args meth c cc nL ret RX7 D ids) (hX : (ExC tt ad) s s.heap) (hP : wp D (cEC ids ad) ad 59 h H) (hS : va_S (inW ad 59) s.heap H locs) {k : Nat} (hk : isX5 k) {rv : Hp} (hf : f_X5_endDay h k = some rv) (hR : 2 + 1 ≤ R.frames ∧ 8 + (4 + 11) + 41 ≤ R.locals) (hsz : ls.size = nL) (hcat : (rest.map fun v => v.category).sum ≤ 8) (hdg : decode cc pc = .ok (.invokevirtual 113, 3)) (kk : ∀ (H1 : Heap) (locs1 : List Loc), wp D (cEC ids ad) ad 59 rv H1 → va_S (inW ad 59) s.heap H1 locs1 → W p l e R s m args below meth c H1 locs1 0 0 Q (F0 m (pc + 3) ls (rest))) : W p l e R s m args below meth c H locs 0 0 Q (F0 m pc ls (.ref (ad 48) :: .ref (ad k) :: rest)) :=
  u_callV (As := [.ref (ad 48)]) (rv := none) C (exC_ok hA) hX (c_X5_endDay l D ids ad tt hA hk hf) q_324 q_325 q_326 q_11 q_327 ⟨rfl, rfl⟩ (by refine ⟨by decide +kernel, by decide +kernel, ?_⟩; show _ = some 1; decide +kernel) hR (lt_X5 hk) (cE_X5 hk _) rfl hP hS hsz hcat rfl hdg kk
theorem cv_X7_117 {p : Program} {l : Launch} {e : Env} {R : Room} {s : State} {m : MethodId} {args : Array Value} {below : List Frame} {meth : Method} {c : Code} {H : Heap} {locs : List Loc} {Q : State → Prop} {cc : ByteArray} {nL : Nat} {ret : Option FieldType} {pc : Nat} {ls : Array Slot} {rest : List Value} {D : va_G} {ids : Nat → ClassId} {ad tt : Nat → Nat} {h : Hp} (hA : adOk ad 59) (C : CX p s m args meth c cc nL ret RX7 D ids) (hX : (ExC tt ad) s s.heap) (hP : wp D (cEC ids ad) ad 59 h H) (hS : va_S (inW ad 59) s.heap H locs) {a1 : Int32} {rv : Int32 × Hp} (hf : f_X4_sumOf h a1 = some rv) (hR : 2 + 1 ≤ R.frames ∧ 8 + (7 + 11) + 41 ≤ R.locals) (hsz : ls.size = nL) (hcat : (rest.map fun v => v.category).sum ≤ 8) (hdg : decode cc pc = .ok (.invokevirtual 117, 3)) (kk : ∀ (H1 : Heap) (locs1 : List Loc), wp D (cEC ids ad) ad 59 rv.2 H1 → va_S (inW ad 59) s.heap H1 locs1 → W p l e R s m args below meth c H1 locs1 0 0 Q (F0 m (pc + 3) ls (.int rv.1 :: rest))) : W p l e R s m args below meth c H locs 0 0 Q (F0 m pc ls (.int a1 :: .ref (ad 48) :: rest)) :=
  u_callV (As := [.int a1]) (rv := (some (.int rv.1))) C (exC_ok hA) hX (c_X4_sumOf l D ids ad tt hA hf) q_352 q_353 q_354 q_28 q_355 ⟨rfl, rfl⟩ (by refine ⟨by decide +kernel, by decide +kernel, ?_⟩; show _ = some 1; decide +kernel) hR (by decide) (cE_X4 _) rfl hP hS hsz hcat rfl hdg kk
abbrev rm_X7_sail : Room := { frames := 5, cells := 0, slots := 0, locals := 114 }
set_option maxRecDepth 100000 in
set_option maxHeartbeats 4000000 in
theorem w_X7_sail_40 {p : Program} {l : Launch} {e : Env} {s : State} {m : MethodId} {args : Array Value} {below : List Frame} {meth : Method} {c : Code} {D : va_G} {ids : Nat → ClassId} {ad tt : Nat → Nat} {rv : Int32 × Hp} (hA : adOk ad 59) (C : CX p s m args meth c cX7_sail 4 (some .int) RX7 D ids) (hX : (ExC tt ad) s s.heap) : ∀ (fu : Nat), ∀ (h : Hp) (x1 : Int32) (x2 : Int32) (x3 : Int32) (H : Heap) (locs : List Loc) (ls : Array Slot), f_X7_sail_40 fu h x1 x2 x3 = some rv → wp D (cEC ids ad) ad 59 h H → va_S (inW ad 59) s.heap H locs → lv_has ls 4 [(0, .ref (ad 0)), (1, .int x1), (2, .int x2), (3, .int x3)] → W p l e rm_X7_sail s m args below meth c H locs 0 0 (MQ below (QW D (cEC ids ad) ad 59 (some (.int rv.1)) rv.2) args s 0 0 (inW ad 59)) (F0 m 40 ls []) := by
  intro fu
  induction fu with
  | zero =>
    intro h x1 x2 x3 H locs ls hf hP hS hl
    cases hf
  | succ fu ih =>
    intro h x1 x2 x3 H locs ls hf hP hS hl
    rw [f_X7_sail_40_s] at hf
    refine lv_iload_n C.1 C.2.1 dX7_sail_40 rfl (lv_at hl 3 rfl) ?_
    refine lv_iload_n C.1 C.2.1 dX7_sail_41 rfl (lv_at hl 1 rfl) ?_
    refine lv_icmp_ge (tgt := 84) C.1 C.2.1 dX7_sail_42 (by decide) (fun hc => ?_) (fun hc => ?_)
    · have hf := g_t hc hf
      refine lv_iload_n C.1 C.2.1 dX7_sail_84 rfl (lv_at hl 2 rfl) ?_
      obtain rfl := Option.some.inj hf
      exact u_iret C hP hS dX7_sail_85
    · have hf := g_f hc hf
      refine lv_aload_n C.1 C.2.1 dX7_sail_45 rfl (lv_at hl 0 rfl) ?_
      refine gf_X7_51 C hP dX7_sail_46 ?_
      refine lv_aload_n C.1 C.2.1 dX7_sail_49 rfl (lv_at hl 0 rfl) ?_
      refine gf_X7_12 C hP dX7_sail_50 ?_
      obtain ⟨q1, eq1, hf⟩ := g_b hf
      refine cv_X7_110 hA C hX hP hS pX5_1 eq1 ⟨Nat.le_of_ble_eq_true rfl, Nat.le_of_ble_eq_true rfl⟩ hl.1 (Nat.le_of_ble_eq_true rfl) dX7_sail_53 (fun H locs hP hS => ?_)
      refine lv_aload_n C.1 C.2.1 dX7_sail_56 rfl (lv_at hl 0 rfl) ?_
      refine gf_X7_12 C hP dX7_sail_57 ?_
      refine lv_aload_n C.1 C.2.1 dX7_sail_60 rfl (lv_at hl 0 rfl) ?_
      refine gf_X7_51 C hP dX7_sail_61 ?_
      obtain ⟨q2, eq2, hf⟩ := g_b hf
      refine cv_X7_113 hA C hX hP hS pX5_1 eq2 ⟨Nat.le_of_ble_eq_true rfl, Nat.le_of_ble_eq_true rfl⟩ hl.1 (Nat.le_of_ble_eq_true rfl) dX7_sail_64 (fun H locs hP hS => ?_)
      refine lv_iload_n C.1 C.2.1 dX7_sail_67 rfl (lv_at hl 2 rfl) ?_
      refine lv_aload_n C.1 C.2.1 dX7_sail_68 rfl (lv_at hl 0 rfl) ?_
      refine gf_X7_51 C hP dX7_sail_69 ?_
      refine lv_iconst (v := (5 : Int32)) C.1 C.2.1 dX7_sail_72 (by decide) ?_
      obtain ⟨q3, eq3, hf⟩ := g_b hf
      refine cv_X7_117 hA C hX hP hS eq3 ⟨Nat.le_of_ble_eq_true rfl, Nat.le_of_ble_eq_true rfl⟩ hl.1 (Nat.le_of_ble_eq_true rfl) dX7_sail_73 (fun H locs hP hS => ?_)
      refine lv_iadd C.1 C.2.1 dX7_sail_76 ?_
      refine lv_istore_n (lv' := [(2, .int (x2 + q3.1)), (0, .ref (ad 0)), (1, .int x1), (3, .int x3)]) C.1 C.2.1 dX7_sail_77 rfl hl (by decide) rfl (fun ls hl => ?_)
      refine lv_iinc (v := (x3 + 1)) (lv' := [(3, .int (x3 + 1)), (2, .int (x2 + q3.1)), (0, .ref (ad 0)), (1, .int x1)]) C.1 C.2.1 dX7_sail_78 hl (k := 3) rfl (by rfl) (by decide) rfl (fun ls hl => ?_)
      refine lv_goto (tgt := 40) C.1 C.2.1 dX7_sail_81 (by decide) ?_
      exact ih _ _ _ _ _ _ _ hf hP hS (lv_sub hl [2, 3, 1, 0] rfl)
set_option maxRecDepth 100000 in
set_option maxHeartbeats 4000000 in
theorem w_X7_sail {p : Program} {l : Launch} {e : Env} {s : State} {m : MethodId} {args : Array Value} {below : List Frame} {meth : Method} {c : Code} {D : va_G} {ids : Nat → ClassId} {ad tt : Nat → Nat} {rv : Int32 × Hp} (hA : adOk ad 59) (C : CX p s m args meth c cX7_sail 4 (some .int) RX7 D ids) (hX : (ExC tt ad) s s.heap) : ∀ (h : Hp) (a1 : Int32) (H : Heap) (locs : List Loc) (ls : Array Slot), f_X7_sail h a1 = some rv → wp D (cEC ids ad) ad 59 h H → va_S (inW ad 59) s.heap H locs → lv_has ls 4 [(0, .ref (ad 0)), (1, .int a1)] → W p l e rm_X7_sail s m args below meth c H locs 0 0 (MQ below (QW D (cEC ids ad) ad 59 (some (.int rv.1)) rv.2) args s 0 0 (inW ad 59)) (F0 m 0 ls []) := by
  intro h a1 H locs ls hf hP hS hl
  unfold f_X7_sail at hf
  refine lv_iload_n C.1 C.2.1 dX7_sail_0 rfl (lv_at hl 1 rfl) ?_
  refine lv_iconst (v := (1 : Int32)) C.1 C.2.1 dX7_sail_1 (by decide) ?_
  refine lv_icmp_lt (tgt := 11) C.1 C.2.1 dX7_sail_2 (by decide) (fun hc => ?_) (fun hc => ?_)
  · have hf := g_t hc hf
    refine lv_bipush (v := (-2 : Int32)) C.1 C.2.1 dX7_sail_11 (by decide) ?_
    obtain rfl := Option.some.inj hf
    exact u_iret C hP hS dX7_sail_13
  · have hf := g_f hc hf
    refine lv_iload_n C.1 C.2.1 dX7_sail_5 rfl (lv_at hl 1 rfl) ?_
    refine lv_bipush (v := (30 : Int32)) C.1 C.2.1 dX7_sail_6 (by decide) ?_
    refine lv_icmp_le (tgt := 14) C.1 C.2.1 dX7_sail_8 (by decide) (fun hc => ?_) (fun hc => ?_)
    · have hf := g_t hc hf
      refine lv_aload_n C.1 C.2.1 dX7_sail_14 rfl (lv_at hl 0 rfl) ?_
      refine gf_X7_12 C hP dX7_sail_15 ?_
      refine gf_X7_107 C pX5_1 hP dX7_sail_18 ?_
      refine lv_iload_n C.1 C.2.1 dX7_sail_21 rfl (lv_at hl 1 rfl) ?_
      refine lv_iadd C.1 C.2.1 dX7_sail_22 ?_
      refine lv_sipush (v := (9999 : Int32)) C.1 C.2.1 dX7_sail_23 (by decide) ?_
      refine lv_icmp_le (tgt := 32) C.1 C.2.1 dX7_sail_26 (by decide) (fun hc => ?_) (fun hc => ?_)
      · have hf := g_t hc hf
        refine lv_aload_n C.1 C.2.1 dX7_sail_32 rfl (lv_at hl 0 rfl) ?_
        obtain ⟨q1, eq1, hf⟩ := g_b hf
        refine cv_X7_73 hA C hX hP hS eq1 ⟨Nat.le_of_ble_eq_true rfl, Nat.le_of_ble_eq_true rfl⟩ hl.1 (Nat.le_of_ble_eq_true rfl) dX7_sail_33 (fun H locs hP hS => ?_)
        refine lv_iconst (v := (0 : Int32)) C.1 C.2.1 dX7_sail_36 (by decide) ?_
        refine lv_istore_n (lv' := [(2, .int (0 : Int32)), (0, .ref (ad 0)), (1, .int a1)]) C.1 C.2.1 dX7_sail_37 rfl hl (by decide) rfl (fun ls hl => ?_)
        refine lv_iconst (v := (0 : Int32)) C.1 C.2.1 dX7_sail_38 (by decide) ?_
        refine lv_istore_n (lv' := [(3, .int (0 : Int32)), (2, .int (0 : Int32)), (0, .ref (ad 0)), (1, .int a1)]) C.1 C.2.1 dX7_sail_39 rfl hl (by decide) rfl (fun ls hl => ?_)
        exact w_X7_sail_40 hA C hX _ _ _ _ _ _ _ _ hf hP hS (lv_sub hl [2, 3, 1, 0] rfl)
      · have hf := g_f hc hf
        refine lv_bipush (v := (-3 : Int32)) C.1 C.2.1 dX7_sail_29 (by decide) ?_
        obtain rfl := Option.some.inj hf
        exact u_iret C hP hS dX7_sail_31
    · have hf := g_f hc hf
      refine lv_bipush (v := (-2 : Int32)) C.1 C.2.1 dX7_sail_11 (by decide) ?_
      obtain rfl := Option.some.inj hf
      exact u_iret C hP hS dX7_sail_13
theorem c_X7_sail (l : Launch) (D : va_G) (ids : Nat → ClassId) (ad tt : Nat → Nat) (hA : adOk ad 59) {a1 : Int32} {h : Hp} {rv : Int32 × Hp} (hf : f_X7_sail h a1 = some rv) : Met l yX7_sail (ws_ yX7_sail cX7_sail 4 (some .int)) rm_X7_sail (va_Pc [.ref (ad 0), .int a1] (WB D ids (cEC ids ad) ad 59 (ExC tt ad) h)) (QW D (cEC ids ad) ad 59 (some (.int rv.1)) rv.2) 0 0 (inW ad 59) :=
  u_met (own := RX7) (by decide) rfl (Nat.le_of_ble_eq_true rfl) rfl (fun p e s m args below meth c H ls C hX hP hS hl => w_X7_sail (tt := tt) hA C hX _ _ _ _ _ hf hP hS hl)
theorem cv_L_32 {p : Program} {l : Launch} {e : Env} {R : Room} {s : State} {m : MethodId} {args : Array Value} {below : List Frame} {meth : Method} {c : Code} {H : Heap} {locs : List Loc} {Q : State → Prop} {cc : ByteArray} {nL : Nat} {ret : Option FieldType} {pc : Nat} {ls : Array Slot} {rest : List Value} {D : va_G} {ids : Nat → ClassId} {ad tt : Nat → Nat} {h : Hp} (hA : adOk ad 59) (C : CX p s m args meth c cc nL ret RL D ids) (hX : (ExC tt ad) s s.heap) (hP : wp D (cEC ids ad) ad 59 h H) (hS : va_S (inW ad 59) s.heap H locs) {a1 : Int32} {a2 : Int32} {rv : Int32 × Hp} (hf : f_L_low h a1 a2 = some rv) (hR : 0 + 1 ≤ R.frames ∧ 8 + (2 + 11) + 0 ≤ R.locals) (hsz : ls.size = nL) (hcat : (rest.map fun v => v.category).sum ≤ 8) (hdg : decode cc pc = .ok (.invokestatic 32, 3)) (kk : ∀ (H1 : Heap) (locs1 : List Loc), wp D (cEC ids ad) ad 59 rv.2 H1 → va_S (inW ad 59) s.heap H1 locs1 → W p l e R s m args below meth c H1 locs1 0 0 Q (F0 m (pc + 3) ls (.int rv.1 :: rest))) : W p l e R s m args below meth c H locs 0 0 Q (F0 m pc ls (.int a2 :: .int a1 :: rest)) :=
  u_callS (As := [.int a1, .int a2]) (rv := (some (.int rv.1))) C (exC_ok hA) hX (c_L_low l D ids ad tt hA hf) q_221 q_222 q_109 q_223 ⟨rfl, rfl⟩ (by refine ⟨by decide +kernel, by decide +kernel, ?_⟩; show _ = some 2; decide +kernel) hR hP hS hsz hcat rfl hdg kk
theorem cv_L_47 {p : Program} {l : Launch} {e : Env} {R : Room} {s : State} {m : MethodId} {args : Array Value} {below : List Frame} {meth : Method} {c : Code} {H : Heap} {locs : List Loc} {Q : State → Prop} {cc : ByteArray} {nL : Nat} {ret : Option FieldType} {pc : Nat} {ls : Array Slot} {rest : List Value} {D : va_G} {ids : Nat → ClassId} {ad tt : Nat → Nat} {h : Hp} (hA : adOk ad 59) (C : CX p s m args meth c cc nL ret RL D ids) (hX : (ExC tt ad) s s.heap) (hP : wp D (cEC ids ad) ad 59 h H) (hS : va_S (inW ad 59) s.heap H locs) {a1 : Int32} {rv : Int32 × Hp} (hf : f_X7_lot h a1 = some rv) (hR : 3 + 1 ≤ R.frames ∧ 8 + (3 + 11) + 65 ≤ R.locals) (hsz : ls.size = nL) (hcat : (rest.map fun v => v.category).sum ≤ 8) (hdg : decode cc pc = .ok (.invokevirtual 47, 3)) (kk : ∀ (H1 : Heap) (locs1 : List Loc), wp D (cEC ids ad) ad 59 rv.2 H1 → va_S (inW ad 59) s.heap H1 locs1 → W p l e R s m args below meth c H1 locs1 0 0 Q (F0 m (pc + 3) ls (.int rv.1 :: rest))) : W p l e R s m args below meth c H locs 0 0 Q (F0 m pc ls (.int a1 :: .ref (ad 0) :: rest)) :=
  u_callV (As := [.int a1]) (rv := (some (.int rv.1))) C (exC_ok hA) hX (c_X7_lot l D ids ad tt hA hf) q_270 q_271 q_272 q_2 q_273 ⟨rfl, rfl⟩ (by refine ⟨by decide +kernel, by decide +kernel, ?_⟩; show _ = some 1; decide +kernel) hR (by decide) (cE_X7 _) rfl hP hS hsz hcat rfl hdg kk
theorem cv_L_43 {p : Program} {l : Launch} {e : Env} {R : Room} {s : State} {m : MethodId} {args : Array Value} {below : List Frame} {meth : Method} {c : Code} {H : Heap} {locs : List Loc} {Q : State → Prop} {cc : ByteArray} {nL : Nat} {ret : Option FieldType} {pc : Nat} {ls : Array Slot} {rest : List Value} {D : va_G} {ids : Nat → ClassId} {ad tt : Nat → Nat} {h : Hp} (hA : adOk ad 59) (C : CX p s m args meth c cc nL ret RL D ids) (hX : (ExC tt ad) s s.heap) (hP : wp D (cEC ids ad) ad 59 h H) (hS : va_S (inW ad 59) s.heap H locs) {a1 : Int32} {a2 : Int32} {rv : Int32 × Hp} (hf : f_X7_set h a1 a2 = some rv) (hR : 3 + 1 ≤ R.frames ∧ 8 + (4 + 11) + 65 ≤ R.locals) (hsz : ls.size = nL) (hcat : (rest.map fun v => v.category).sum ≤ 8) (hdg : decode cc pc = .ok (.invokevirtual 43, 3)) (kk : ∀ (H1 : Heap) (locs1 : List Loc), wp D (cEC ids ad) ad 59 rv.2 H1 → va_S (inW ad 59) s.heap H1 locs1 → W p l e R s m args below meth c H1 locs1 0 0 Q (F0 m (pc + 3) ls (.int rv.1 :: rest))) : W p l e R s m args below meth c H locs 0 0 Q (F0 m pc ls (.int a2 :: .int a1 :: .ref (ad 0) :: rest)) :=
  u_callV (As := [.int a1, .int a2]) (rv := (some (.int rv.1))) C (exC_ok hA) hX (c_X7_set l D ids ad tt hA hf) q_257 q_258 q_259 q_2 q_260 ⟨rfl, rfl⟩ (by refine ⟨by decide +kernel, by decide +kernel, ?_⟩; show _ = some 2; decide +kernel) hR (by decide) (cE_X7 _) rfl hP hS hsz hcat rfl hdg kk
theorem cv_L_40 {p : Program} {l : Launch} {e : Env} {R : Room} {s : State} {m : MethodId} {args : Array Value} {below : List Frame} {meth : Method} {c : Code} {H : Heap} {locs : List Loc} {Q : State → Prop} {cc : ByteArray} {nL : Nat} {ret : Option FieldType} {pc : Nat} {ls : Array Slot} {rest : List Value} {D : va_G} {ids : Nat → ClassId} {ad tt : Nat → Nat} {h : Hp} (hA : adOk ad 59) (C : CX p s m args meth c cc nL ret RL D ids) (hX : (ExC tt ad) s s.heap) (hP : wp D (cEC ids ad) ad 59 h H) (hS : va_S (inW ad 59) s.heap H locs) {a1 : Int32} {rv : Int32 × Hp} (hf : f_X7_truth h a1 = some rv) (hR : 3 + 1 ≤ R.frames ∧ 8 + (3 + 11) + 65 ≤ R.locals) (hsz : ls.size = nL) (hcat : (rest.map fun v => v.category).sum ≤ 8) (hdg : decode cc pc = .ok (.invokevirtual 40, 3)) (kk : ∀ (H1 : Heap) (locs1 : List Loc), wp D (cEC ids ad) ad 59 rv.2 H1 → va_S (inW ad 59) s.heap H1 locs1 → W p l e R s m args below meth c H1 locs1 0 0 Q (F0 m (pc + 3) ls (.int rv.1 :: rest))) : W p l e R s m args below meth c H locs 0 0 Q (F0 m pc ls (.int a1 :: .ref (ad 0) :: rest)) :=
  u_callV (As := [.int a1]) (rv := (some (.int rv.1))) C (exC_ok hA) hX (c_X7_truth l D ids ad tt hA hf) q_253 q_254 q_255 q_2 q_256 ⟨rfl, rfl⟩ (by refine ⟨by decide +kernel, by decide +kernel, ?_⟩; show _ = some 1; decide +kernel) hR (by decide) (cE_X7 _) rfl hP hS hsz hcat rfl hdg kk
theorem cv_L_50 {p : Program} {l : Launch} {e : Env} {R : Room} {s : State} {m : MethodId} {args : Array Value} {below : List Frame} {meth : Method} {c : Code} {H : Heap} {locs : List Loc} {Q : State → Prop} {cc : ByteArray} {nL : Nat} {ret : Option FieldType} {pc : Nat} {ls : Array Slot} {rest : List Value} {D : va_G} {ids : Nat → ClassId} {ad tt : Nat → Nat} {h : Hp} (hA : adOk ad 59) (C : CX p s m args meth c cc nL ret RL D ids) (hX : (ExC tt ad) s s.heap) (hP : wp D (cEC ids ad) ad 59 h H) (hS : va_S (inW ad 59) s.heap H locs) {a1 : Int32} {rv : Int32 × Hp} (hf : f_X7_sail h a1 = some rv) (hR : 5 + 1 ≤ R.frames ∧ 8 + (4 + 11) + 114 ≤ R.locals) (hsz : ls.size = nL) (hcat : (rest.map fun v => v.category).sum ≤ 8) (hdg : decode cc pc = .ok (.invokevirtual 50, 3)) (kk : ∀ (H1 : Heap) (locs1 : List Loc), wp D (cEC ids ad) ad 59 rv.2 H1 → va_S (inW ad 59) s.heap H1 locs1 → W p l e R s m args below meth c H1 locs1 0 0 Q (F0 m (pc + 3) ls (.int rv.1 :: rest))) : W p l e R s m args below meth c H locs 0 0 Q (F0 m pc ls (.int a1 :: .ref (ad 0) :: rest)) :=
  u_callV (As := [.int a1]) (rv := (some (.int rv.1))) C (exC_ok hA) hX (c_X7_sail l D ids ad tt hA hf) q_275 q_276 q_277 q_2 q_278 ⟨rfl, rfl⟩ (by refine ⟨by decide +kernel, by decide +kernel, ?_⟩; show _ = some 1; decide +kernel) hR (by decide) (cE_X7 _) rfl hP hS hsz hcat rfl hdg kk
theorem cv_L_37 {p : Program} {l : Launch} {e : Env} {R : Room} {s : State} {m : MethodId} {args : Array Value} {below : List Frame} {meth : Method} {c : Code} {H : Heap} {locs : List Loc} {Q : State → Prop} {cc : ByteArray} {nL : Nat} {ret : Option FieldType} {pc : Nat} {ls : Array Slot} {rest : List Value} {D : va_G} {ids : Nat → ClassId} {ad tt : Nat → Nat} {h : Hp} (hA : adOk ad 59) (C : CX p s m args meth c cc nL ret RL D ids) (hX : (ExC tt ad) s s.heap) (hP : wp D (cEC ids ad) ad 59 h H) (hS : va_S (inW ad 59) s.heap H locs) {a1 : Int32} {a2 : Int32} {a3 : Int32} {rv : Int32 × Hp} (hf : f_X7_captain h a1 a2 a3 = some rv) (hR : 3 + 1 ≤ R.frames ∧ 8 + (5 + 11) + 65 ≤ R.locals) (hsz : ls.size = nL) (hcat : (rest.map fun v => v.category).sum ≤ 8) (hdg : decode cc pc = .ok (.invokevirtual 37, 3)) (kk : ∀ (H1 : Heap) (locs1 : List Loc), wp D (cEC ids ad) ad 59 rv.2 H1 → va_S (inW ad 59) s.heap H1 locs1 → W p l e R s m args below meth c H1 locs1 0 0 Q (F0 m (pc + 3) ls (.int rv.1 :: rest))) : W p l e R s m args below meth c H locs 0 0 Q (F0 m pc ls (.int a3 :: .int a2 :: .int a1 :: .ref (ad 0) :: rest)) :=
  u_callV (As := [.int a1, .int a2, .int a3]) (rv := (some (.int rv.1))) C (exC_ok hA) hX (c_X7_captain l D ids ad tt hA hf) q_225 q_226 q_227 q_2 q_228 ⟨rfl, rfl⟩ (by refine ⟨by decide +kernel, by decide +kernel, ?_⟩; show _ = some 3; decide +kernel) hR (by decide) (cE_X7 _) rfl hP hS hsz hcat rfl hdg kk
abbrev rm_L_act : Room := { frames := 6, cells := 0, slots := 0, locals := 137 }
set_option maxRecDepth 100000 in
set_option maxHeartbeats 4000000 in
theorem w_L_act_58 {p : Program} {l : Launch} {e : Env} {s : State} {m : MethodId} {args : Array Value} {below : List Frame} {meth : Method} {c : Code} {D : va_G} {ids : Nat → ClassId} {ad tt : Nat → Nat} {rv : Int32 × Hp} (hA : adOk ad 59) (C : CX p s m args meth c cL_act 5 (some .int) RL D ids) (hX : (ExC tt ad) s s.heap) : ∀ (h : Hp) (t1 : Int32) (t2 : Int32) (t3 : Int32) (t4 : Int32) (H : Heap) (locs : List Loc) (ls : Array Slot), f_L_act_58 h t1 t2 t3 t4 = some rv → wp D (cEC ids ad) ad 59 h H → va_S (inW ad 59) s.heap H locs → lv_has ls 5 [] → W p l e rm_L_act s m args below meth c H locs 0 0 (MQ below (QW D (cEC ids ad) ad 59 (some (.int rv.1)) rv.2) args s 0 0 (inW ad 59)) (F0 m 58 ls [.int t4, .int t3, .int t2, .int t1, .ref (ad 0)]) := by
  intro h t1 t2 t3 t4 H locs ls hf hP hS hl
  unfold f_L_act_58 at hf
  obtain ⟨q1, eq1, hf⟩ := g_b hf
  refine cv_L_32 hA C hX hP hS eq1 ⟨Nat.le_of_ble_eq_true rfl, Nat.le_of_ble_eq_true rfl⟩ hl.1 (Nat.le_of_ble_eq_true rfl) dL_act_58 (fun H locs hP hS => ?_)
  obtain ⟨q2, eq2, hf⟩ := g_b hf
  refine cv_L_37 hA C hX hP hS eq2 ⟨Nat.le_of_ble_eq_true rfl, Nat.le_of_ble_eq_true rfl⟩ hl.1 (Nat.le_of_ble_eq_true rfl) dL_act_61 (fun H locs hP hS => ?_)
  obtain rfl := Option.some.inj hf
  exact u_iret C hP hS dL_act_64
set_option maxRecDepth 100000 in
set_option maxHeartbeats 4000000 in
theorem w_L_act_159 {p : Program} {l : Launch} {e : Env} {s : State} {m : MethodId} {args : Array Value} {below : List Frame} {meth : Method} {c : Code} {D : va_G} {ids : Nat → ClassId} {ad tt : Nat → Nat} {rv : Int32 × Hp} (hA : adOk ad 59) (C : CX p s m args meth c cL_act 5 (some .int) RL D ids) (hX : (ExC tt ad) s s.heap) : ∀ (h : Hp) (t1 : Int32) (t2 : Int32) (t3 : Int32) (H : Heap) (locs : List Loc) (ls : Array Slot), f_L_act_159 h t1 t2 t3 = some rv → wp D (cEC ids ad) ad 59 h H → va_S (inW ad 59) s.heap H locs → lv_has ls 5 [] → W p l e rm_L_act s m args below meth c H locs 0 0 (MQ below (QW D (cEC ids ad) ad 59 (some (.int rv.1)) rv.2) args s 0 0 (inW ad 59)) (F0 m 159 ls [.int t3, .int t2, .int t1, .ref (ad 0)]) := by
  intro h t1 t2 t3 H locs ls hf hP hS hl
  unfold f_L_act_159 at hf
  obtain ⟨q1, eq1, hf⟩ := g_b hf
  refine cv_L_32 hA C hX hP hS eq1 ⟨Nat.le_of_ble_eq_true rfl, Nat.le_of_ble_eq_true rfl⟩ hl.1 (Nat.le_of_ble_eq_true rfl) dL_act_159 (fun H locs hP hS => ?_)
  refine lv_iadd C.1 C.2.1 dL_act_162 ?_
  obtain ⟨q2, eq2, hf⟩ := g_b hf
  refine cv_L_50 hA C hX hP hS eq2 ⟨Nat.le_of_ble_eq_true rfl, Nat.le_of_ble_eq_true rfl⟩ hl.1 (Nat.le_of_ble_eq_true rfl) dL_act_163 (fun H locs hP hS => ?_)
  obtain rfl := Option.some.inj hf
  exact u_iret C hP hS dL_act_166
set_option maxRecDepth 100000 in
set_option maxHeartbeats 4000000 in
theorem w_L_act {p : Program} {l : Launch} {e : Env} {s : State} {m : MethodId} {args : Array Value} {below : List Frame} {meth : Method} {c : Code} {D : va_G} {ids : Nat → ClassId} {ad tt : Nat → Nat} {rv : Int32 × Hp} (hA : adOk ad 59) (C : CX p s m args meth c cL_act 5 (some .int) RL D ids) (hX : (ExC tt ad) s s.heap) : ∀ (h : Hp) (a2 : Int32) (a3 : Int32) (H : Heap) (locs : List Loc) (ls : Array Slot), f_L_act h a2 a3 = some rv → wp D (cEC ids ad) ad 59 h H → va_S (inW ad 59) s.heap H locs → lv_has ls 5 [(0, .ref (ad 0)), (1, .int a2), (2, .int a3)] → W p l e rm_L_act s m args below meth c H locs 0 0 (MQ below (QW D (cEC ids ad) ad 59 (some (.int rv.1)) rv.2) args s 0 0 (inW ad 59)) (F0 m 0 ls []) := by
  intro h a2 a3 H locs ls hf hP hS hl
  unfold f_L_act at hf
  refine lv_iload_n C.1 C.2.1 dL_act_0 rfl (lv_at hl 1 rfl) ?_
  refine lv_iconst (v := (3 : Int32)) C.1 C.2.1 dL_act_1 (by decide) ?_
  refine lv_ishr C.1 C.2.1 dL_act_2 ?_
  refine lv_bipush (v := (12 : Int32)) C.1 C.2.1 dL_act_3 (by decide) ?_
  obtain ⟨q1, eq1, hf⟩ := g_b hf
  refine cv_L_32 hA C hX hP hS eq1 ⟨Nat.le_of_ble_eq_true rfl, Nat.le_of_ble_eq_true rfl⟩ hl.1 (Nat.le_of_ble_eq_true rfl) dL_act_5 (fun H locs hP hS => ?_)
  refine lv_istore_n (lv' := [(3, .int q1.1), (0, .ref (ad 0)), (1, .int a2), (2, .int a3)]) C.1 C.2.1 dL_act_8 rfl hl (by decide) rfl (fun ls hl => ?_)
  refine lv_iload_n C.1 C.2.1 dL_act_9 rfl (lv_at hl 0 rfl) ?_
  refine lv_bipush (v := (6 : Int32)) C.1 C.2.1 dL_act_10 (by decide) ?_
  refine lv_icmp_ge (tgt := 65) C.1 C.2.1 dL_act_12 (by decide) (fun hc => ?_) (fun hc => ?_)
  · have hf := g_t hc hf
    refine lv_iload_n C.1 C.2.1 dL_act_65 rfl (lv_at hl 0 rfl) ?_
    refine lv_bipush (v := (6 : Int32)) C.1 C.2.1 dL_act_66 (by decide) ?_
    refine lv_icmp_ne (tgt := 82) C.1 C.2.1 dL_act_68 (by decide) (fun hc => ?_) (fun hc => ?_)
    · have hf := g_f hc hf
      refine lv_iload_n C.1 C.2.1 dL_act_82 rfl (lv_at hl 0 rfl) ?_
      refine lv_bipush (v := (7 : Int32)) C.1 C.2.1 dL_act_83 (by decide) ?_
      refine lv_icmp_ne (tgt := 125) C.1 C.2.1 dL_act_85 (by decide) (fun hc => ?_) (fun hc => ?_)
      · have hf := g_f hc hf
        refine lv_iload_n C.1 C.2.1 dL_act_125 rfl (lv_at hl 0 rfl) ?_
        refine lv_bipush (v := (8 : Int32)) C.1 C.2.1 dL_act_126 (by decide) ?_
        refine lv_icmp_ne (tgt := 144) C.1 C.2.1 dL_act_128 (by decide) (fun hc => ?_) (fun hc => ?_)
        · have hf := g_f hc hf
          refine lv_aload_n C.1 C.2.1 dL_act_144 rfl (lv_at hl 1 rfl) ?_
          refine lv_iconst (v := (1 : Int32)) C.1 C.2.1 dL_act_145 (by decide) ?_
          refine lv_iload_n C.1 C.2.1 dL_act_146 rfl (lv_at hl 3 rfl) ?_
          refine lv_iload_n C.1 C.2.1 dL_act_147 rfl (lv_at hl 0 rfl) ?_
          refine lv_bipush (v := (11 : Int32)) C.1 C.2.1 dL_act_148 (by decide) ?_
          refine lv_icmp_ne (tgt := 158) C.1 C.2.1 dL_act_150 (by decide) (fun hc => ?_) (fun hc => ?_)
          · have hf := g_f hc hf
            refine lv_iconst (v := (3 : Int32)) C.1 C.2.1 dL_act_158 (by decide) ?_
            exact w_L_act_159 hA C hX _ _ _ _ _ _ _ hf hP hS (lv_sub hl [] rfl)
          · have hf := g_t hc hf
            refine lv_bipush (v := (30 : Int32)) C.1 C.2.1 dL_act_153 (by decide) ?_
            refine lv_goto (tgt := 159) C.1 C.2.1 dL_act_155 (by decide) ?_
            exact w_L_act_159 hA C hX _ _ _ _ _ _ _ hf hP hS (lv_sub hl [] rfl)
        · have hf := g_t hc hf
          refine lv_aload_n C.1 C.2.1 dL_act_131 rfl (lv_at hl 1 rfl) ?_
          refine lv_iload_n C.1 C.2.1 dL_act_132 rfl (lv_at hl 3 rfl) ?_
          refine lv_ldc (v := (65538 : Int32)) C.1 C.2.1 C.2.2.2.2.2.1 (C.2.2.2.2.2.2.1 _ q_220) dL_act_133 ?_
          obtain ⟨q2, eq2, hf⟩ := g_b hf
          refine cv_L_32 hA C hX hP hS eq2 ⟨Nat.le_of_ble_eq_true rfl, Nat.le_of_ble_eq_true rfl⟩ hl.1 (Nat.le_of_ble_eq_true rfl) dL_act_135 (fun H locs hP hS => ?_)
          obtain ⟨q3, eq3, hf⟩ := g_b hf
          refine cv_L_47 hA C hX hP hS eq3 ⟨Nat.le_of_ble_eq_true rfl, Nat.le_of_ble_eq_true rfl⟩ hl.1 (Nat.le_of_ble_eq_true rfl) dL_act_138 (fun H locs hP hS => ?_)
          refine lv_goto (tgt := 166) C.1 C.2.1 dL_act_141 (by decide) ?_
          obtain rfl := Option.some.inj hf
          exact u_iret C hP hS dL_act_166
      · have hf := g_t hc hf
        refine lv_iload_n C.1 C.2.1 dL_act_88 rfl (lv_at hl 3 rfl) ?_
        refine lv_iconst (v := (2 : Int32)) C.1 C.2.1 dL_act_89 (by decide) ?_
        obtain ⟨q4, eq4, hf⟩ := g_b hf
        refine cv_L_32 hA C hX hP hS eq4 ⟨Nat.le_of_ble_eq_true rfl, Nat.le_of_ble_eq_true rfl⟩ hl.1 (Nat.le_of_ble_eq_true rfl) dL_act_90 (fun H locs hP hS => ?_)
        refine lv_if_ne (tgt := 111) C.1 C.2.1 dL_act_93 (by decide) (fun hc => ?_) (fun hc => ?_)
        · have hf := g_f hc hf
          refine lv_aload_n C.1 C.2.1 dL_act_111 rfl (lv_at hl 1 rfl) ?_
          refine lv_iconst (v := (1 : Int32)) C.1 C.2.1 dL_act_112 (by decide) ?_
          refine lv_iload_n C.1 C.2.1 dL_act_113 rfl (lv_at hl 3 rfl) ?_
          refine lv_iconst (v := (2 : Int32)) C.1 C.2.1 dL_act_114 (by decide) ?_
          refine lv_ishr C.1 C.2.1 dL_act_115 ?_
          refine lv_bipush (v := (10 : Int32)) C.1 C.2.1 dL_act_116 (by decide) ?_
          obtain ⟨q5, eq5, hf⟩ := g_b hf
          refine cv_L_32 hA C hX hP hS eq5 ⟨Nat.le_of_ble_eq_true rfl, Nat.le_of_ble_eq_true rfl⟩ hl.1 (Nat.le_of_ble_eq_true rfl) dL_act_118 (fun H locs hP hS => ?_)
          obtain ⟨q6, eq6, hf⟩ := g_b hf
          refine cv_L_43 hA C hX hP hS eq6 ⟨Nat.le_of_ble_eq_true rfl, Nat.le_of_ble_eq_true rfl⟩ hl.1 (Nat.le_of_ble_eq_true rfl) dL_act_121 (fun H locs hP hS => ?_)
          obtain rfl := Option.some.inj hf
          exact u_iret C hP hS dL_act_124
        · have hf := g_t hc hf
          refine lv_aload_n C.1 C.2.1 dL_act_96 rfl (lv_at hl 1 rfl) ?_
          refine lv_iconst (v := (0 : Int32)) C.1 C.2.1 dL_act_97 (by decide) ?_
          refine lv_iload_n C.1 C.2.1 dL_act_98 rfl (lv_at hl 3 rfl) ?_
          refine lv_iconst (v := (2 : Int32)) C.1 C.2.1 dL_act_99 (by decide) ?_
          refine lv_ishr C.1 C.2.1 dL_act_100 ?_
          refine lv_iconst (v := (3 : Int32)) C.1 C.2.1 dL_act_101 (by decide) ?_
          obtain ⟨q7, eq7, hf⟩ := g_b hf
          refine cv_L_32 hA C hX hP hS eq7 ⟨Nat.le_of_ble_eq_true rfl, Nat.le_of_ble_eq_true rfl⟩ hl.1 (Nat.le_of_ble_eq_true rfl) dL_act_102 (fun H locs hP hS => ?_)
          obtain ⟨q8, eq8, hf⟩ := g_b hf
          refine cv_L_43 hA C hX hP hS eq8 ⟨Nat.le_of_ble_eq_true rfl, Nat.le_of_ble_eq_true rfl⟩ hl.1 (Nat.le_of_ble_eq_true rfl) dL_act_105 (fun H locs hP hS => ?_)
          refine lv_goto (tgt := 124) C.1 C.2.1 dL_act_108 (by decide) ?_
          obtain rfl := Option.some.inj hf
          exact u_iret C hP hS dL_act_124
    · have hf := g_t hc hf
      refine lv_aload_n C.1 C.2.1 dL_act_71 rfl (lv_at hl 1 rfl) ?_
      refine lv_iload_n C.1 C.2.1 dL_act_72 rfl (lv_at hl 3 rfl) ?_
      refine lv_bipush (v := (13 : Int32)) C.1 C.2.1 dL_act_73 (by decide) ?_
      obtain ⟨q9, eq9, hf⟩ := g_b hf
      refine cv_L_32 hA C hX hP hS eq9 ⟨Nat.le_of_ble_eq_true rfl, Nat.le_of_ble_eq_true rfl⟩ hl.1 (Nat.le_of_ble_eq_true rfl) dL_act_75 (fun H locs hP hS => ?_)
      obtain ⟨q10, eq10, hf⟩ := g_b hf
      refine cv_L_40 hA C hX hP hS eq10 ⟨Nat.le_of_ble_eq_true rfl, Nat.le_of_ble_eq_true rfl⟩ hl.1 (Nat.le_of_ble_eq_true rfl) dL_act_78 (fun H locs hP hS => ?_)
      obtain rfl := Option.some.inj hf
      exact u_iret C hP hS dL_act_81
  · have hf := g_f hc hf
    refine lv_iload_n C.1 C.2.1 dL_act_15 rfl (lv_at hl 3 rfl) ?_
    refine lv_iconst (v := (2 : Int32)) C.1 C.2.1 dL_act_16 (by decide) ?_
    refine lv_ishr C.1 C.2.1 dL_act_17 ?_
    refine lv_iconst (v := (4 : Int32)) C.1 C.2.1 dL_act_18 (by decide) ?_
    obtain ⟨q11, eq11, hf⟩ := g_b hf
    refine cv_L_32 hA C hX hP hS eq11 ⟨Nat.le_of_ble_eq_true rfl, Nat.le_of_ble_eq_true rfl⟩ hl.1 (Nat.le_of_ble_eq_true rfl) dL_act_19 (fun H locs hP hS => ?_)
    refine lv_istore (lv' := [(4, .int q11.1), (3, .int q1.1), (0, .ref (ad 0)), (1, .int a2), (2, .int a3)]) C.1 C.2.1 dL_act_22 hl (by decide) rfl (fun ls hl => ?_)
    refine lv_aload_n C.1 C.2.1 dL_act_24 rfl (lv_at hl 2 rfl) ?_
    refine lv_iload_n C.1 C.2.1 dL_act_25 rfl (lv_at hl 4 rfl) ?_
    refine lv_iconst (v := (3 : Int32)) C.1 C.2.1 dL_act_26 (by decide) ?_
    obtain ⟨q12, eq12, hf⟩ := g_b hf
    refine cv_L_32 hA C hX hP hS eq12 ⟨Nat.le_of_ble_eq_true rfl, Nat.le_of_ble_eq_true rfl⟩ hl.1 (Nat.le_of_ble_eq_true rfl) dL_act_27 (fun H locs hP hS => ?_)
    refine lv_iload C.1 C.2.1 dL_act_30 (lv_at hl 0 rfl) ?_
    refine lv_iload_n C.1 C.2.1 dL_act_32 rfl (lv_at hl 4 rfl) ?_
    refine lv_iconst (v := (4 : Int32)) C.1 C.2.1 dL_act_33 (by decide) ?_
    refine lv_ishr C.1 C.2.1 dL_act_34 ?_
    refine lv_iload C.1 C.2.1 dL_act_35 (lv_at hl 0 rfl) ?_
    refine lv_iconst (v := (2 : Int32)) C.1 C.2.1 dL_act_37 (by decide) ?_
    refine lv_icmp_ne (tgt := 46) C.1 C.2.1 dL_act_38 (by decide) (fun hc => ?_) (fun hc => ?_)
    · have hf := g_f hc hf
      refine lv_iload C.1 C.2.1 dL_act_46 (lv_at hl 0 rfl) ?_
      refine lv_iconst (v := (3 : Int32)) C.1 C.2.1 dL_act_48 (by decide) ?_
      refine lv_icmp_ne (tgt := 56) C.1 C.2.1 dL_act_49 (by decide) (fun hc => ?_) (fun hc => ?_)
      · have hf := g_f hc hf
        refine lv_bipush (v := (13 : Int32)) C.1 C.2.1 dL_act_56 (by decide) ?_
        exact w_L_act_58 hA C hX _ _ _ _ _ _ _ _ hf hP hS (lv_sub hl [] rfl)
      · have hf := g_t hc hf
        refine lv_iconst (v := (3 : Int32)) C.1 C.2.1 dL_act_52 (by decide) ?_
        refine lv_goto (tgt := 58) C.1 C.2.1 dL_act_53 (by decide) ?_
        exact w_L_act_58 hA C hX _ _ _ _ _ _ _ _ hf hP hS (lv_sub hl [] rfl)
    · have hf := g_t hc hf
      refine lv_bipush (v := (25 : Int32)) C.1 C.2.1 dL_act_41 (by decide) ?_
      refine lv_goto (tgt := 58) C.1 C.2.1 dL_act_43 (by decide) ?_
      exact w_L_act_58 hA C hX _ _ _ _ _ _ _ _ hf hP hS (lv_sub hl [] rfl)
theorem c_L_act (l : Launch) (D : va_G) (ids : Nat → ClassId) (ad tt : Nat → Nat) (hA : adOk ad 59) {a2 : Int32} {a3 : Int32} {h : Hp} {rv : Int32 × Hp} (hf : f_L_act h a2 a3 = some rv) : Met l yL_act (ws_ yL_act cL_act 5 (some .int)) rm_L_act (va_Pc [.ref (ad 0), .int a2, .int a3] (WB D ids (cEC ids ad) ad 59 (ExC tt ad) h)) (QW D (cEC ids ad) ad 59 (some (.int rv.1)) rv.2) 0 0 (inW ad 59) :=
  u_met (own := RL) (by decide) rfl (Nat.le_of_ble_eq_true rfl) rfl (fun p e s m args below meth c H ls C hX hP hS hl => w_L_act (tt := tt) hA C hX _ _ _ _ _ _ hf hP hS hl)
abbrev rm_X7_undo : Room := { frames := 2, cells := 0, slots := 0, locals := 43 }
set_option maxRecDepth 100000 in
set_option maxHeartbeats 4000000 in
theorem w_X7_undo {p : Program} {l : Launch} {e : Env} {s : State} {m : MethodId} {args : Array Value} {below : List Frame} {meth : Method} {c : Code} {D : va_G} {ids : Nat → ClassId} {ad tt : Nat → Nat} {rv : Int32 × Hp} (hA : adOk ad 59) (C : CX p s m args meth c cX7_undo 2 (some .int) RX7 D ids) (hX : (ExC tt ad) s s.heap) : ∀ (h : Hp) (H : Heap) (locs : List Loc) (ls : Array Slot), f_X7_undo h = some rv → wp D (cEC ids ad) ad 59 h H → va_S (inW ad 59) s.heap H locs → lv_has ls 2 [(0, .ref (ad 0))] → W p l e rm_X7_undo s m args below meth c H locs 0 0 (MQ below (QW D (cEC ids ad) ad 59 (some (.int rv.1)) rv.2) args s 0 0 (inW ad 59)) (F0 m 0 ls []) := by
  intro h H locs ls hf hP hS hl
  unfold f_X7_undo at hf
  refine lv_aload_n C.1 C.2.1 dX7_undo_0 rfl (lv_at hl 0 rfl) ?_
  refine gf_X7_27 C hP dX7_undo_1 ?_
  refine lv_iconst (v := (1 : Int32)) C.1 C.2.1 dX7_undo_4 (by decide) ?_
  refine lv_isub C.1 C.2.1 dX7_undo_5 ?_
  refine lv_istore_n (lv' := [(1, .int ((h 0 4) - (1 : Int32))), (0, .ref (ad 0))]) C.1 C.2.1 dX7_undo_6 rfl hl (by decide) rfl (fun ls hl => ?_)
  refine lv_iload_n C.1 C.2.1 dX7_undo_7 rfl (lv_at hl 0 rfl) ?_
  refine lv_if_lt (tgt := 20) C.1 C.2.1 dX7_undo_8 (by decide) (fun hc => ?_) (fun hc => ?_)
  · have hf := g_t hc hf
    refine lv_bipush (v := (-5 : Int32)) C.1 C.2.1 dX7_undo_20 (by decide) ?_
    obtain rfl := Option.some.inj hf
    exact u_iret C hP hS dX7_undo_22
  · have hf := g_f hc hf
    refine lv_iload_n C.1 C.2.1 dX7_undo_11 rfl (lv_at hl 0 rfl) ?_
    refine lv_aload_n C.1 C.2.1 dX7_undo_12 rfl (lv_at hl 1 rfl) ?_
    refine gf_X7_23 C hP dX7_undo_13 ?_
    refine ln_aSt C hP dX7_undo_16 ?_
    refine lv_icmp_lt (tgt := 23) C.1 C.2.1 dX7_undo_17 (by decide) (fun hc => ?_) (fun hc => ?_)
    · have hf := g_t hc hf
      refine lv_aload_n C.1 C.2.1 dX7_undo_23 rfl (lv_at hl 1 rfl) ?_
      refine gf_X7_12 C hP dX7_undo_24 ?_
      refine lv_aload_n C.1 C.2.1 dX7_undo_27 rfl (lv_at hl 1 rfl) ?_
      refine gf_X7_23 C hP dX7_undo_28 ?_
      refine lv_iload_n C.1 C.2.1 dX7_undo_31 rfl (lv_at hl 0 rfl) ?_
      obtain ⟨hg1, hf⟩ := g_if hf
      obtain ⟨hg2, hf⟩ := g_if hf
      refine rl_aSt C hP hg1 dX7_undo_32 ?_
      obtain ⟨q3, eq3, hf⟩ := g_b hf
      refine cv_X7_80 hA C hX hP hS pX5_1 (hi_el hg2) eq3 ⟨Nat.le_of_ble_eq_true rfl, Nat.le_of_ble_eq_true rfl⟩ hl.1 (Nat.le_of_ble_eq_true rfl) dX7_undo_33 (fun H locs hP hS => ?_)
      refine lv_aload_n C.1 C.2.1 dX7_undo_36 rfl (lv_at hl 1 rfl) ?_
      refine lv_iload_n C.1 C.2.1 dX7_undo_37 rfl (lv_at hl 0 rfl) ?_
      refine pf_X7_27 hA C hP hS dX7_undo_38 (fun H locs hP hS => ?_)
      refine lv_aload_n C.1 C.2.1 dX7_undo_41 rfl (lv_at hl 1 rfl) ?_
      refine gf_X7_27 C hP dX7_undo_42 ?_
      obtain rfl := Option.some.inj hf
      exact u_iret C hP hS dX7_undo_45
    · have hf := g_f hc hf
      refine lv_bipush (v := (-5 : Int32)) C.1 C.2.1 dX7_undo_20 (by decide) ?_
      obtain rfl := Option.some.inj hf
      exact u_iret C hP hS dX7_undo_22
theorem c_X7_undo (l : Launch) (D : va_G) (ids : Nat → ClassId) (ad tt : Nat → Nat) (hA : adOk ad 59) {h : Hp} {rv : Int32 × Hp} (hf : f_X7_undo h = some rv) : Met l yX7_undo (ws_ yX7_undo cX7_undo 2 (some .int)) rm_X7_undo (va_Pc [.ref (ad 0)] (WB D ids (cEC ids ad) ad 59 (ExC tt ad) h)) (QW D (cEC ids ad) ad 59 (some (.int rv.1)) rv.2) 0 0 (inW ad 59) :=
  u_met (own := RX7) (by decide) rfl (Nat.le_of_ble_eq_true rfl) rfl (fun p e s m args below meth c H ls C hX hP hS hl => w_X7_undo (tt := tt) hA C hX _ _ _ _ hf hP hS hl)
theorem cv_X7_136 {p : Program} {l : Launch} {e : Env} {R : Room} {s : State} {m : MethodId} {args : Array Value} {below : List Frame} {meth : Method} {c : Code} {H : Heap} {locs : List Loc} {Q : State → Prop} {cc : ByteArray} {nL : Nat} {ret : Option FieldType} {pc : Nat} {ls : Array Slot} {rest : List Value} {D : va_G} {ids : Nat → ClassId} {ad tt : Nat → Nat} {h : Hp} (hA : adOk ad 59) (C : CX p s m args meth c cc nL ret RX7 D ids) (hX : (ExC tt ad) s s.heap) (hP : wp D (cEC ids ad) ad 59 h H) (hS : va_S (inW ad 59) s.heap H locs) {k : Nat} (hk : isX6 k) {a1 : Int32} {rv : Int32 × Hp} (hf : f_X6_has h k a1 = some rv) (hR : 0 + 1 ≤ R.frames ∧ 8 + (2 + 11) + 0 ≤ R.locals) (hsz : ls.size = nL) (hcat : (rest.map fun v => v.category).sum ≤ 8) (hdg : decode cc pc = .ok (.invokevirtual 136, 3)) (kk : ∀ (H1 : Heap) (locs1 : List Loc), wp D (cEC ids ad) ad 59 rv.2 H1 → va_S (inW ad 59) s.heap H1 locs1 → W p l e R s m args below meth c H1 locs1 0 0 Q (F0 m (pc + 3) ls (.int rv.1 :: rest))) : W p l e R s m args below meth c H locs 0 0 Q (F0 m pc ls (.int a1 :: .ref (ad k) :: rest)) :=
  u_callV (As := [.int a1]) (rv := (some (.int rv.1))) C (exC_ok hA) hX (c_X6_has l D ids ad tt hA hk hf) q_375 q_153 q_154 q_73 q_155 ⟨rfl, rfl⟩ (by refine ⟨by decide +kernel, by decide +kernel, ?_⟩; show _ = some 1; decide +kernel) hR (lt_X6 hk) (cE_X6 hk _) rfl hP hS hsz hcat rfl hdg kk
theorem cv_X7_139 {p : Program} {l : Launch} {e : Env} {R : Room} {s : State} {m : MethodId} {args : Array Value} {below : List Frame} {meth : Method} {c : Code} {H : Heap} {locs : List Loc} {Q : State → Prop} {cc : ByteArray} {nL : Nat} {ret : Option FieldType} {pc : Nat} {ls : Array Slot} {rest : List Value} {D : va_G} {ids : Nat → ClassId} {ad tt : Nat → Nat} {h : Hp} (hA : adOk ad 59) (C : CX p s m args meth c cc nL ret RX7 D ids) (hX : (ExC tt ad) s s.heap) (hP : wp D (cEC ids ad) ad 59 h H) (hS : va_S (inW ad 59) s.heap H locs) {k : Nat} (hk : isX6 k) {a1 : Int32} {rv : Int32 × Hp} (hf : f_X6_hourOf h k a1 = some rv) (hR : 1 + 1 ≤ R.frames ∧ 8 + (2 + 11) + 21 ≤ R.locals) (hsz : ls.size = nL) (hcat : (rest.map fun v => v.category).sum ≤ 8) (hdg : decode cc pc = .ok (.invokevirtual 139, 3)) (kk : ∀ (H1 : Heap) (locs1 : List Loc), wp D (cEC ids ad) ad 59 rv.2 H1 → va_S (inW ad 59) s.heap H1 locs1 → W p l e R s m args below meth c H1 locs1 0 0 Q (F0 m (pc + 3) ls (.int rv.1 :: rest))) : W p l e R s m args below meth c H locs 0 0 Q (F0 m pc ls (.int a1 :: .ref (ad k) :: rest)) :=
  u_callV (As := [.int a1]) (rv := (some (.int rv.1))) C (exC_ok hA) hX (c_X6_hourOf l D ids ad tt hA hk hf) q_376 q_149 q_150 q_73 q_151 ⟨rfl, rfl⟩ (by refine ⟨by decide +kernel, by decide +kernel, ?_⟩; show _ = some 1; decide +kernel) hR (lt_X6 hk) (cE_X6 hk _) rfl hP hS hsz hcat rfl hdg kk
theorem cv_X7_142 {p : Program} {l : Launch} {e : Env} {R : Room} {s : State} {m : MethodId} {args : Array Value} {below : List Frame} {meth : Method} {c : Code} {H : Heap} {locs : List Loc} {Q : State → Prop} {cc : ByteArray} {nL : Nat} {ret : Option FieldType} {pc : Nat} {ls : Array Slot} {rest : List Value} {D : va_G} {ids : Nat → ClassId} {ad tt : Nat → Nat} {h : Hp} (hA : adOk ad 59) (C : CX p s m args meth c cc nL ret RX7 D ids) (hX : (ExC tt ad) s s.heap) (hP : wp D (cEC ids ad) ad 59 h H) (hS : va_S (inW ad 59) s.heap H locs) {k : Nat} (hk : isX6 k) {a1 : Int32} {rv : Int32 × Hp} (hf : f_X6_pierOf h k a1 = some rv) (hR : 0 + 1 ≤ R.frames ∧ 8 + (2 + 11) + 0 ≤ R.locals) (hsz : ls.size = nL) (hcat : (rest.map fun v => v.category).sum ≤ 8) (hdg : decode cc pc = .ok (.invokevirtual 142, 3)) (kk : ∀ (H1 : Heap) (locs1 : List Loc), wp D (cEC ids ad) ad 59 rv.2 H1 → va_S (inW ad 59) s.heap H1 locs1 → W p l e R s m args below meth c H1 locs1 0 0 Q (F0 m (pc + 3) ls (.int rv.1 :: rest))) : W p l e R s m args below meth c H locs 0 0 Q (F0 m pc ls (.int a1 :: .ref (ad k) :: rest)) :=
  u_callV (As := [.int a1]) (rv := (some (.int rv.1))) C (exC_ok hA) hX (c_X6_pierOf l D ids ad tt hA hk hf) q_377 q_157 q_158 q_73 q_159 ⟨rfl, rfl⟩ (by refine ⟨by decide +kernel, by decide +kernel, ?_⟩; show _ = some 1; decide +kernel) hR (lt_X6 hk) (cE_X6 hk _) rfl hP hS hsz hcat rfl hdg kk
abbrev rm_X7_printed : Room := { frames := 5, cells := 0, slots := 0, locals := 109 }
set_option maxRecDepth 100000 in
set_option maxHeartbeats 4000000 in
theorem w_X7_printed {p : Program} {l : Launch} {e : Env} {s : State} {m : MethodId} {args : Array Value} {below : List Frame} {meth : Method} {c : Code} {D : va_G} {ids : Nat → ClassId} {ad tt : Nat → Nat} {rv : Int32 × Hp} (hA : adOk ad 59) (C : CX p s m args meth c cX7_printed 5 (some .int) RX7 D ids) (hX : (ExC tt ad) s s.heap) : ∀ (h : Hp) (a1 : Int32) (a2 : Int32) (a3 : Int32) (H : Heap) (locs : List Loc) (ls : Array Slot), f_X7_printed h a1 a2 a3 = some rv → wp D (cEC ids ad) ad 59 h H → va_S (inW ad 59) s.heap H locs → lv_has ls 5 [(0, .ref (ad 0)), (1, .int a1), (2, .int a2), (3, .int a3)] → W p l e rm_X7_printed s m args below meth c H locs 0 0 (MQ below (QW D (cEC ids ad) ad 59 (some (.int rv.1)) rv.2) args s 0 0 (inW ad 59)) (F0 m 0 ls []) := by
  intro h a1 a2 a3 H locs ls hf hP hS hl
  unfold f_X7_printed at hf
  refine lv_iload_n C.1 C.2.1 dX7_printed_0 rfl (lv_at hl 1 rfl) ?_
  obtain ⟨q1, eq1, hf⟩ := g_b hf
  refine cv_X7_55 hA C hX hP hS eq1 ⟨Nat.le_of_ble_eq_true rfl, Nat.le_of_ble_eq_true rfl⟩ hl.1 (Nat.le_of_ble_eq_true rfl) dX7_printed_1 (fun H locs hP hS => ?_)
  refine lv_if_ne (tgt := 9) C.1 C.2.1 dX7_printed_4 (by decide) (fun hc => ?_) (fun hc => ?_)
  · have hf := g_f hc hf
    refine lv_aload_n C.1 C.2.1 dX7_printed_9 rfl (lv_at hl 0 rfl) ?_
    refine lv_iload_n C.1 C.2.1 dX7_printed_10 rfl (lv_at hl 1 rfl) ?_
    obtain ⟨q2, eq2, hf⟩ := g_b hf
    refine cv_X7_127 hA C hX hP hS eq2 ⟨Nat.le_of_ble_eq_true rfl, Nat.le_of_ble_eq_true rfl⟩ hl.1 (Nat.le_of_ble_eq_true rfl) dX7_printed_11 (fun H locs hP hS => ?_)
    obtain ⟨hg3, hf⟩ := g_if hf
    refine lv_astore (lv' := [(4, .ref (ad q2.1)), (0, .ref (ad 0)), (1, .int a1), (2, .int a2), (3, .int a3)]) C.1 C.2.1 dX7_printed_14 hl (by decide) rfl (fun ls hl => ?_)
    refine lv_aload C.1 C.2.1 dX7_printed_16 (lv_at hl 0 rfl) ?_
    refine lv_iload_n C.1 C.2.1 dX7_printed_18 rfl (lv_at hl 3 rfl) ?_
    obtain ⟨q4, eq4, hf⟩ := g_b hf
    refine cv_X7_136 hA C hX hP hS hg3 eq4 ⟨Nat.le_of_ble_eq_true rfl, Nat.le_of_ble_eq_true rfl⟩ hl.1 (Nat.le_of_ble_eq_true rfl) dX7_printed_19 (fun H locs hP hS => ?_)
    refine lv_if_ne (tgt := 27) C.1 C.2.1 dX7_printed_22 (by decide) (fun hc => ?_) (fun hc => ?_)
    · have hf := g_f hc hf
      refine lv_iload_n C.1 C.2.1 dX7_printed_27 rfl (lv_at hl 4 rfl) ?_
      by_cases hc0 : a3 = 0
      · have hf := g_t hc0 hf
        refine lv_lookup (off := 28) (tgt := 56) C.1 C.2.1 dX7_printed_28 (by decide) (by rw [hc0]; decide) (by decide) ?_
        refine lv_aload C.1 C.2.1 dX7_printed_56 (lv_at hl 0 rfl) ?_
        refine lv_iload_n C.1 C.2.1 dX7_printed_58 rfl (lv_at hl 3 rfl) ?_
        obtain ⟨q5, eq5, hf⟩ := g_b hf
        refine cv_X7_139 hA C hX hP hS hg3 eq5 ⟨Nat.le_of_ble_eq_true rfl, Nat.le_of_ble_eq_true rfl⟩ hl.1 (Nat.le_of_ble_eq_true rfl) dX7_printed_59 (fun H locs hP hS => ?_)
        obtain rfl := Option.some.inj hf
        exact u_iret C hP hS dX7_printed_62
      · have hf := g_f hc0 hf
        by_cases hc1 : a3 = 1
        · have hf := g_t hc1 hf
          refine lv_lookup (off := 35) (tgt := 63) C.1 C.2.1 dX7_printed_28 (by decide) (by rw [hc1]; decide) (by decide) ?_
          refine lv_aload C.1 C.2.1 dX7_printed_63 (lv_at hl 0 rfl) ?_
          refine lv_iload_n C.1 C.2.1 dX7_printed_65 rfl (lv_at hl 3 rfl) ?_
          obtain ⟨q6, eq6, hf⟩ := g_b hf
          refine cv_X7_142 hA C hX hP hS hg3 eq6 ⟨Nat.le_of_ble_eq_true rfl, Nat.le_of_ble_eq_true rfl⟩ hl.1 (Nat.le_of_ble_eq_true rfl) dX7_printed_66 (fun H locs hP hS => ?_)
          obtain rfl := Option.some.inj hf
          exact u_iret C hP hS dX7_printed_69
        · have hf := g_f hc1 hf
          refine lv_lookup (off := 42) (tgt := 70) C.1 C.2.1 dX7_printed_28 (by decide) (by show Op.lookupswitch.offset [(0, 28), (1, 35)] 42 (a3).toInt = _; rw [lv_osw hc0 (by decide), lv_osw hc1 (by decide)]; rfl) (by decide) ?_
          refine lv_bipush (v := (-2 : Int32)) C.1 C.2.1 dX7_printed_70 (by decide) ?_
          obtain rfl := Option.some.inj hf
          exact u_iret C hP hS dX7_printed_72
    · have hf := g_t hc hf
      refine lv_iconst (v := (-1 : Int32)) C.1 C.2.1 dX7_printed_25 (by decide) ?_
      obtain rfl := Option.some.inj hf
      exact u_iret C hP hS dX7_printed_26
  · have hf := g_t hc hf
    refine lv_iconst (v := (-1 : Int32)) C.1 C.2.1 dX7_printed_7 (by decide) ?_
    obtain rfl := Option.some.inj hf
    exact u_iret C hP hS dX7_printed_8
theorem c_X7_printed (l : Launch) (D : va_G) (ids : Nat → ClassId) (ad tt : Nat → Nat) (hA : adOk ad 59) {a1 : Int32} {a2 : Int32} {a3 : Int32} {h : Hp} {rv : Int32 × Hp} (hf : f_X7_printed h a1 a2 a3 = some rv) : Met l yX7_printed (ws_ yX7_printed cX7_printed 5 (some .int)) rm_X7_printed (va_Pc [.ref (ad 0), .int a1, .int a2, .int a3] (WB D ids (cEC ids ad) ad 59 (ExC tt ad) h)) (QW D (cEC ids ad) ad 59 (some (.int rv.1)) rv.2) 0 0 (inW ad 59) :=
  u_met (own := RX7) (by decide) rfl (Nat.le_of_ble_eq_true rfl) rfl (fun p e s m args below meth c H ls C hX hP hS hl => w_X7_printed (tt := tt) hA C hX _ _ _ _ _ _ _ hf hP hS hl)
theorem cv_X7_148 {p : Program} {l : Launch} {e : Env} {R : Room} {s : State} {m : MethodId} {args : Array Value} {below : List Frame} {meth : Method} {c : Code} {H : Heap} {locs : List Loc} {Q : State → Prop} {cc : ByteArray} {nL : Nat} {ret : Option FieldType} {pc : Nat} {ls : Array Slot} {rest : List Value} {D : va_G} {ids : Nat → ClassId} {ad tt : Nat → Nat} {h : Hp} (hA : adOk ad 59) (C : CX p s m args meth c cc nL ret RX7 D ids) (hX : (ExC tt ad) s s.heap) (hP : wp D (cEC ids ad) ad 59 h H) (hS : va_S (inW ad 59) s.heap H locs) {a1 : Int32} {a2 : Int32} {rv : Int32 × Hp} (hf : f_X7_levelAt h a1 a2 = some rv) (hR : 1 + 1 ≤ R.frames ∧ 8 + (2 + 11) + 21 ≤ R.locals) (hsz : ls.size = nL) (hcat : (rest.map fun v => v.category).sum ≤ 8) (hdg : decode cc pc = .ok (.invokestatic 148, 3)) (kk : ∀ (H1 : Heap) (locs1 : List Loc), wp D (cEC ids ad) ad 59 rv.2 H1 → va_S (inW ad 59) s.heap H1 locs1 → W p l e R s m args below meth c H1 locs1 0 0 Q (F0 m (pc + 3) ls (.int rv.1 :: rest))) : W p l e R s m args below meth c H locs 0 0 Q (F0 m pc ls (.int a2 :: .int a1 :: rest)) :=
  u_callS (As := [.int a1, .int a2]) (rv := (some (.int rv.1))) C (exC_ok hA) hX (c_X7_levelAt l D ids ad tt hA hf) q_387 q_137 q_2 q_138 ⟨rfl, rfl⟩ (by refine ⟨by decide +kernel, by decide +kernel, ?_⟩; show _ = some 2; decide +kernel) hR hP hS hsz hcat rfl hdg kk
abbrev rm_X7_hoursWithWater : Room := { frames := 2, cells := 0, slots := 0, locals := 42 }
set_option maxRecDepth 100000 in
set_option maxHeartbeats 4000000 in
theorem w_X7_hoursWithWater_25 {p : Program} {l : Launch} {e : Env} {s : State} {m : MethodId} {args : Array Value} {below : List Frame} {meth : Method} {c : Code} {D : va_G} {ids : Nat → ClassId} {ad tt : Nat → Nat} {rv : Int32 × Hp} (hA : adOk ad 59) (C : CX p s m args meth c cX7_hoursWithWater 4 (some .int) RX7 D ids) (hX : (ExC tt ad) s s.heap) {K4 : Hp → Int32 → Int32 → Int32 → Int32 → Option (Int32 × Hp)} (hK4 : ∀ (h : Hp) (x0 : Int32) (x1 : Int32) (x2 : Int32) (x3 : Int32) (H : Heap) (locs : List Loc) (ls : Array Slot), K4 h x0 x1 x2 x3 = some rv → wp D (cEC ids ad) ad 59 h H → va_S (inW ad 59) s.heap H locs → lv_has ls 4 [(0, .int x0), (1, .int x1), (2, .int x2), (3, .int x3)] → W p l e rm_X7_hoursWithWater s m args below meth c H locs 0 0 (MQ below (QW D (cEC ids ad) ad 59 (some (.int rv.1)) rv.2) args s 0 0 (inW ad 59)) (F0 m 4 ls [])) : ∀ (h : Hp) (x0 : Int32) (x1 : Int32) (x2 : Int32) (x3 : Int32) (H : Heap) (locs : List Loc) (ls : Array Slot), f_X7_hoursWithWater_25 K4 h x0 x1 x2 x3 = some rv → wp D (cEC ids ad) ad 59 h H → va_S (inW ad 59) s.heap H locs → lv_has ls 4 [(0, .int x0), (1, .int x1), (2, .int x2), (3, .int x3)] → W p l e rm_X7_hoursWithWater s m args below meth c H locs 0 0 (MQ below (QW D (cEC ids ad) ad 59 (some (.int rv.1)) rv.2) args s 0 0 (inW ad 59)) (F0 m 25 ls []) := by
  intro h x0 x1 x2 x3 H locs ls hf hP hS hl
  unfold f_X7_hoursWithWater_25 at hf
  refine lv_iinc (v := (x3 + 1)) (lv' := [(3, .int (x3 + 1)), (0, .int x0), (1, .int x1), (2, .int x2)]) C.1 C.2.1 dX7_hoursWithWater_25 hl (k := 3) rfl (by rfl) (by decide) rfl (fun ls hl => ?_)
  refine lv_goto (tgt := 4) C.1 C.2.1 dX7_hoursWithWater_28 (by decide) ?_
  exact hK4 _ _ _ _ _ _ _ _ hf hP hS (lv_sub hl [1, 2, 3, 0] rfl)
set_option maxRecDepth 100000 in
set_option maxHeartbeats 4000000 in
theorem w_X7_hoursWithWater_4 {p : Program} {l : Launch} {e : Env} {s : State} {m : MethodId} {args : Array Value} {below : List Frame} {meth : Method} {c : Code} {D : va_G} {ids : Nat → ClassId} {ad tt : Nat → Nat} {rv : Int32 × Hp} (hA : adOk ad 59) (C : CX p s m args meth c cX7_hoursWithWater 4 (some .int) RX7 D ids) (hX : (ExC tt ad) s s.heap) : ∀ (fu : Nat), ∀ (h : Hp) (x0 : Int32) (x1 : Int32) (x2 : Int32) (x3 : Int32) (H : Heap) (locs : List Loc) (ls : Array Slot), f_X7_hoursWithWater_4 fu h x0 x1 x2 x3 = some rv → wp D (cEC ids ad) ad 59 h H → va_S (inW ad 59) s.heap H locs → lv_has ls 4 [(0, .int x0), (1, .int x1), (2, .int x2), (3, .int x3)] → W p l e rm_X7_hoursWithWater s m args below meth c H locs 0 0 (MQ below (QW D (cEC ids ad) ad 59 (some (.int rv.1)) rv.2) args s 0 0 (inW ad 59)) (F0 m 4 ls []) := by
  intro fu
  induction fu with
  | zero =>
    intro h x0 x1 x2 x3 H locs ls hf hP hS hl
    cases hf
  | succ fu ih =>
    intro h x0 x1 x2 x3 H locs ls hf hP hS hl
    rw [f_X7_hoursWithWater_4_s] at hf
    refine lv_iload_n C.1 C.2.1 dX7_hoursWithWater_4 rfl (lv_at hl 3 rfl) ?_
    refine lv_bipush (v := (24 : Int32)) C.1 C.2.1 dX7_hoursWithWater_5 (by decide) ?_
    refine lv_icmp_ge (tgt := 31) C.1 C.2.1 dX7_hoursWithWater_7 (by decide) (fun hc => ?_) (fun hc => ?_)
    · have hf := g_t hc hf
      refine lv_iload_n C.1 C.2.1 dX7_hoursWithWater_31 rfl (lv_at hl 2 rfl) ?_
      obtain rfl := Option.some.inj hf
      exact u_iret C hP hS dX7_hoursWithWater_32
    · have hf := g_f hc hf
      refine lv_iload_n C.1 C.2.1 dX7_hoursWithWater_10 rfl (lv_at hl 0 rfl) ?_
      refine lv_iload_n C.1 C.2.1 dX7_hoursWithWater_11 rfl (lv_at hl 3 rfl) ?_
      obtain ⟨q1, eq1, hf⟩ := g_b hf
      refine cv_X7_148 hA C hX hP hS eq1 ⟨Nat.le_of_ble_eq_true rfl, Nat.le_of_ble_eq_true rfl⟩ hl.1 (Nat.le_of_ble_eq_true rfl) dX7_hoursWithWater_12 (fun H locs hP hS => ?_)
      refine lv_iload_n C.1 C.2.1 dX7_hoursWithWater_15 rfl (lv_at hl 1 rfl) ?_
      refine lv_icmp_lt (tgt := 25) C.1 C.2.1 dX7_hoursWithWater_16 (by decide) (fun hc => ?_) (fun hc => ?_)
      · have hf := g_t hc hf
        exact w_X7_hoursWithWater_25 hA C hX ih _ _ _ _ _ _ _ _ hf hP hS (lv_sub hl [0, 1, 2, 3] rfl)
      · have hf := g_f hc hf
        refine lv_iload_n C.1 C.2.1 dX7_hoursWithWater_19 rfl (lv_at hl 2 rfl) ?_
        refine lv_iconst (v := (1 : Int32)) C.1 C.2.1 dX7_hoursWithWater_20 (by decide) ?_
        refine lv_iload_n C.1 C.2.1 dX7_hoursWithWater_21 rfl (lv_at hl 3 rfl) ?_
        refine lv_ishl C.1 C.2.1 dX7_hoursWithWater_22 ?_
        refine lv_ior C.1 C.2.1 dX7_hoursWithWater_23 ?_
        refine lv_istore_n (lv' := [(2, .int (x2 ||| ((1 : Int32) <<< (x3 &&& 31)))), (0, .int x0), (1, .int x1), (3, .int x3)]) C.1 C.2.1 dX7_hoursWithWater_24 rfl hl (by decide) rfl (fun ls hl => ?_)
        exact w_X7_hoursWithWater_25 hA C hX ih _ _ _ _ _ _ _ _ hf hP hS (lv_sub hl [1, 2, 0, 3] rfl)
set_option maxRecDepth 100000 in
set_option maxHeartbeats 4000000 in
theorem w_X7_hoursWithWater {p : Program} {l : Launch} {e : Env} {s : State} {m : MethodId} {args : Array Value} {below : List Frame} {meth : Method} {c : Code} {D : va_G} {ids : Nat → ClassId} {ad tt : Nat → Nat} {rv : Int32 × Hp} (hA : adOk ad 59) (C : CX p s m args meth c cX7_hoursWithWater 4 (some .int) RX7 D ids) (hX : (ExC tt ad) s s.heap) : ∀ (h : Hp) (a1 : Int32) (a2 : Int32) (H : Heap) (locs : List Loc) (ls : Array Slot), f_X7_hoursWithWater h a1 a2 = some rv → wp D (cEC ids ad) ad 59 h H → va_S (inW ad 59) s.heap H locs → lv_has ls 4 [(0, .int a1), (1, .int a2)] → W p l e rm_X7_hoursWithWater s m args below meth c H locs 0 0 (MQ below (QW D (cEC ids ad) ad 59 (some (.int rv.1)) rv.2) args s 0 0 (inW ad 59)) (F0 m 0 ls []) := by
  intro h a1 a2 H locs ls hf hP hS hl
  unfold f_X7_hoursWithWater at hf
  refine lv_iconst (v := (0 : Int32)) C.1 C.2.1 dX7_hoursWithWater_0 (by decide) ?_
  refine lv_istore_n (lv' := [(2, .int (0 : Int32)), (0, .int a1), (1, .int a2)]) C.1 C.2.1 dX7_hoursWithWater_1 rfl hl (by decide) rfl (fun ls hl => ?_)
  refine lv_iconst (v := (0 : Int32)) C.1 C.2.1 dX7_hoursWithWater_2 (by decide) ?_
  refine lv_istore_n (lv' := [(3, .int (0 : Int32)), (2, .int (0 : Int32)), (0, .int a1), (1, .int a2)]) C.1 C.2.1 dX7_hoursWithWater_3 rfl hl (by decide) rfl (fun ls hl => ?_)
  exact w_X7_hoursWithWater_4 hA C hX _ _ _ _ _ _ _ _ _ hf hP hS (lv_sub hl [2, 3, 1, 0] rfl)
theorem c_X7_hoursWithWater (l : Launch) (D : va_G) (ids : Nat → ClassId) (ad tt : Nat → Nat) (hA : adOk ad 59) {a1 : Int32} {a2 : Int32} {h : Hp} {rv : Int32 × Hp} (hf : f_X7_hoursWithWater h a1 a2 = some rv) : Met l yX7_hoursWithWater (ws_ yX7_hoursWithWater cX7_hoursWithWater 4 (some .int)) rm_X7_hoursWithWater (va_Pc [.int a1, .int a2] (WB D ids (cEC ids ad) ad 59 (ExC tt ad) h)) (QW D (cEC ids ad) ad 59 (some (.int rv.1)) rv.2) 0 0 (inW ad 59) :=
  u_met (own := RX7) (by decide) rfl (Nat.le_of_ble_eq_true rfl) rfl (fun p e s m args below meth c H ls C hX hP hS hl => w_X7_hoursWithWater (tt := tt) hA C hX _ _ _ _ _ _ hf hP hS hl)
