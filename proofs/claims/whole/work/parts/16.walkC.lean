theorem gf_X7_107 {p : Program} {l : Launch} {e : Env} {R : Room} {s : State} {m : MethodId} {args : Array Value} {below : List Frame} {meth : Method} {c : Code} {H : Heap} {locs : List Loc} {cells slots : Nat} {Q : State → Prop} {cc : ByteArray} {nL : Nat} {ret : Option FieldType} {pc : Nat} {ls : Array Slot} {rest : List Value} {D : va_G} {ids : Nat → ClassId} {ad : Nat → Nat} {h : Hp} (C : CX p s m args meth c cc nL ret RX7 D ids) {k : Nat} (hk : isX5 k) (hP : wp D (cEC ids ad) ad 59 h H) (hdg : decode cc pc = .ok (.getfield 107, 3)) (kk : W p l e R s m args below meth c H locs cells slots Q (F0 m (pc + 3) ls (.int (h k 6) :: rest))) : W p l e R s m args below meth c H locs cells slots Q (F0 m pc ls (.ref (ad k) :: rest)) :=
  u_get C hP (lt_X5 hk) (cE_X5 hk) rfl inX5 6 (by decide) rfl q_310 hdg kk
theorem gf_X7_51 {p : Program} {l : Launch} {e : Env} {R : Room} {s : State} {m : MethodId} {args : Array Value} {below : List Frame} {meth : Method} {c : Code} {H : Heap} {locs : List Loc} {cells slots : Nat} {Q : State → Prop} {cc : ByteArray} {nL : Nat} {ret : Option FieldType} {pc : Nat} {ls : Array Slot} {rest : List Value} {D : va_G} {ids : Nat → ClassId} {ad : Nat → Nat} {h : Hp} (C : CX p s m args meth c cc nL ret RX7 D ids) (hP : wp D (cEC ids ad) ad 59 h H) (hdg : decode cc pc = .ok (.getfield 51, 3)) (kk : W p l e R s m args below meth c H locs cells slots Q (F0 m (pc + 3) ls (.ref (ad 48) :: rest))) : W p l e R s m args below meth c H locs cells slots Q (F0 m pc ls (.ref (ad 0) :: rest)) :=
  u_get C hP (by decide) cE_X7 rfl inX7 8 (by decide) rfl q_32 hdg kk
theorem cv_X7_110 {p : Program} {l : Launch} {e : Env} {R : Room} {s : State} {m : MethodId} {args : Array Value} {below : List Frame} {meth : Method} {c : Code} {H : Heap} {locs : List Loc} {Q : State → Prop} {cc : ByteArray} {nL : Nat} {ret : Option FieldType} {pc : Nat} {ls : Array Slot} {rest : List Value} {D : va_G} {ids : Nat → ClassId} {ad tt : Nat → Nat} {h : Hp} (hA : adOk ad 59) (C : CX p s m args meth c cc nL ret RX7 D ids) (hX : (ExC tt ad) s s.heap) (hP : wp D (cEC ids ad) ad 59 h H) (hS : va_S (inW ad 59) s.heap H locs) {k1 : Nat} (hk1 : isX5 k1) {rv : Hp} (hf : f_X4_run h k1 = some rv) (hR : 4 + 1 ≤ R.frames ∧ 8 + (8 + 11) + 87 ≤ R.locals) (hsz : ls.size = nL) (hcat : (rest.map fun v => v.category).sum ≤ 8) (hdg : decode cc pc = .ok (.invokevirtual 110, 3)) (kk : ∀ (H1 : Heap) (locs1 : List Loc), wp D (cEC ids ad) ad 59 rv H1 → va_S (inW ad 59) s.heap H1 locs1 → W p l e R s m args below meth c H1 locs1 0 0 Q (F0 m (pc + 3) ls (rest))) : W p l e R s m args below meth c H locs 0 0 Q (F0 m pc ls (.ref (ad k1) :: .ref (ad 48) :: rest)) :=
  u_callV (As := [.ref (ad k1)]) (rv := none) C (exC_ok hA) hX (c_X4_run l D ids ad tt hA hk1 hf) q_311 q_312 q_313 q_31 q_314 ⟨rfl, rfl⟩ (by refine ⟨by decide +kernel, by decide +kernel, ?_⟩; show _ = some 1; decide +kernel) hR (by decide) (cE_X4 _) rfl hP hS hsz hcat rfl hdg kk
theorem cv_X7_113 {p : Program} {l : Launch} {e : Env} {R : Room} {s : State} {m : MethodId} {args : Array Value} {below : List Frame} {meth : Method} {c : Code} {H : Heap} {locs : List Loc} {Q : State → Prop} {cc : ByteArray} {nL : Nat} {ret : Option FieldType} {pc : Nat} {ls : Array Slot} {rest : List Value} {D : va_G} {ids : Nat → ClassId} {ad tt : Nat → Nat} {h : Hp} (hA : adOk ad 59) (C : CX p s m args meth c cc nL ret RX7 D ids) (hX : (ExC tt ad) s s.heap) (hP : wp D (cEC ids ad) ad 59 h H) (hS : va_S (inW ad 59) s.heap H locs) {k : Nat} (hk : isX5 k) {rv : Hp} (hf : f_X5_endDay h k = some rv) (hR : 2 + 1 ≤ R.frames ∧ 8 + (4 + 11) + 41 ≤ R.locals) (hsz : ls.size = nL) (hcat : (rest.map fun v => v.category).sum ≤ 8) (hdg : decode cc pc = .ok (.invokevirtual 113, 3)) (kk : ∀ (H1 : Heap) (locs1 : List Loc), wp D (cEC ids ad) ad 59 rv H1 → va_S (inW ad 59) s.heap H1 locs1 → W p l e R s m args below meth c H1 locs1 0 0 Q (F0 m (pc + 3) ls (rest))) : W p l e R s m args below meth c H locs 0 0 Q (F0 m pc ls (.ref (ad 48) :: .ref (ad k) :: rest)) :=
  u_callV (As := [.ref (ad 48)]) (rv := none) C (exC_ok hA) hX (c_X5_endDay l D ids ad tt hA hk hf) q_376 q_377 q_378 q_14 q_379 ⟨rfl, rfl⟩ (by refine ⟨by decide +kernel, by decide +kernel, ?_⟩; show _ = some 1; decide +kernel) hR (lt_X5 hk) (cE_X5 hk _) rfl hP hS hsz hcat rfl hdg kk
theorem cv_X7_117 {p : Program} {l : Launch} {e : Env} {R : Room} {s : State} {m : MethodId} {args : Array Value} {below : List Frame} {meth : Method} {c : Code} {H : Heap} {locs : List Loc} {Q : State → Prop} {cc : ByteArray} {nL : Nat} {ret : Option FieldType} {pc : Nat} {ls : Array Slot} {rest : List Value} {D : va_G} {ids : Nat → ClassId} {ad tt : Nat → Nat} {h : Hp} (hA : adOk ad 59) (C : CX p s m args meth c cc nL ret RX7 D ids) (hX : (ExC tt ad) s s.heap) (hP : wp D (cEC ids ad) ad 59 h H) (hS : va_S (inW ad 59) s.heap H locs) {a1 : Int32} {rv : Int32 × Hp} (hf : f_X4_sumOf h a1 = some rv) (hR : 2 + 1 ≤ R.frames ∧ 8 + (7 + 11) + 41 ≤ R.locals) (hsz : ls.size = nL) (hcat : (rest.map fun v => v.category).sum ≤ 8) (hdg : decode cc pc = .ok (.invokevirtual 117, 3)) (kk : ∀ (H1 : Heap) (locs1 : List Loc), wp D (cEC ids ad) ad 59 rv.2 H1 → va_S (inW ad 59) s.heap H1 locs1 → W p l e R s m args below meth c H1 locs1 0 0 Q (F0 m (pc + 3) ls (.int rv.1 :: rest))) : W p l e R s m args below meth c H locs 0 0 Q (F0 m pc ls (.int a1 :: .ref (ad 48) :: rest)) :=
  u_callV (As := [.int a1]) (rv := (some (.int rv.1))) C (exC_ok hA) hX (c_X4_sumOf l D ids ad tt hA hf) q_404 q_405 q_406 q_31 q_407 ⟨rfl, rfl⟩ (by refine ⟨by decide +kernel, by decide +kernel, ?_⟩; show _ = some 1; decide +kernel) hR (by decide) (cE_X4 _) rfl hP hS hsz hcat rfl hdg kk
abbrev rm_X7_sail : Room := { frames := 5, cells := 0, slots := 0, locals := 114 }
set_option maxRecDepth 100000 in
set_option maxHeartbeats 4000000 in
theorem w_X7_sail_40 {p : Program} {l : Launch} {e : Env} {s : State} {m : MethodId} {args : Array Value} {below : List Frame} {meth : Method} {c : Code} {D : va_G} {ids : Nat → ClassId} {ad tt : Nat → Nat} {rv : Int32 × Hp} (hA : adOk ad 59) (C : CX p s m args meth c cX7_sail 4 (some .int) RX7 D ids) (hX : (ExC tt ad) s s.heap) : ∀ (fu : Nat), ∀ (h : Hp) (x1 : Int32) (x2 : Int32) (x3 : Int32) (H : Heap) (locs : List Loc) (ls : Array Slot), f_X7_sail_40 fu h x1 x2 x3 = some rv → wp D (cEC ids ad) ad 59 h H → va_S (inW ad 59) s.heap H locs → lv_has ls 4 [(0, .ref (ad 0)), (1, .int x1), (2, .int x2), (3, .int x3)] → W p l e rm_X7_sail s m args below meth c H locs 0 0 (MQ below (QW D (cEC ids ad) ad 59 (some (.int rv.1)) rv.2) args s 0 0 (inW ad 59)) (F0 m 40 ls []) := by
  intro fu
  induction fu with
  | zero =>
    intro h x1 x2 x3 H locs ls hf hP hS hl
    cases hf
  | succ fu ih =>
    intro h x1 x2 x3 H locs ls hf hP hS hl
    rw [f_X7_sail_40_s] at hf
    refine lv_iload_n C.1 C.2.1 dX7_sail_40 rfl (lv_at hl 3 rfl) ?_
    refine lv_iload_n C.1 C.2.1 dX7_sail_41 rfl (lv_at hl 1 rfl) ?_
    refine lv_icmp_ge (tgt := 84) C.1 C.2.1 dX7_sail_42 (by decide) (fun hc => ?_) (fun hc => ?_)
    · have hf := g_t hc hf
      refine lv_iload_n C.1 C.2.1 dX7_sail_84 rfl (lv_at hl 2 rfl) ?_
      obtain rfl := Option.some.inj hf
      exact u_iret C hP hS dX7_sail_85
    · have hf := g_f hc hf
      refine lv_aload_n C.1 C.2.1 dX7_sail_45 rfl (lv_at hl 0 rfl) ?_
      refine gf_X7_51 C hP dX7_sail_46 ?_
      refine lv_aload_n C.1 C.2.1 dX7_sail_49 rfl (lv_at hl 0 rfl) ?_
      refine gf_X7_12 C hP dX7_sail_50 ?_
      obtain ⟨q1, eq1, hf⟩ := g_b hf
      refine cv_X7_110 hA C hX hP hS pX5_1 eq1 ⟨Nat.le_of_ble_eq_true rfl, Nat.le_of_ble_eq_true rfl⟩ hl.1 (Nat.le_of_ble_eq_true rfl) dX7_sail_53 (fun H locs hP hS => ?_)
      refine lv_aload_n C.1 C.2.1 dX7_sail_56 rfl (lv_at hl 0 rfl) ?_
      refine gf_X7_12 C hP dX7_sail_57 ?_
      refine lv_aload_n C.1 C.2.1 dX7_sail_60 rfl (lv_at hl 0 rfl) ?_
      refine gf_X7_51 C hP dX7_sail_61 ?_
      obtain ⟨q2, eq2, hf⟩ := g_b hf
      refine cv_X7_113 hA C hX hP hS pX5_1 eq2 ⟨Nat.le_of_ble_eq_true rfl, Nat.le_of_ble_eq_true rfl⟩ hl.1 (Nat.le_of_ble_eq_true rfl) dX7_sail_64 (fun H locs hP hS => ?_)
      refine lv_iload_n C.1 C.2.1 dX7_sail_67 rfl (lv_at hl 2 rfl) ?_
      refine lv_aload_n C.1 C.2.1 dX7_sail_68 rfl (lv_at hl 0 rfl) ?_
      refine gf_X7_51 C hP dX7_sail_69 ?_
      refine lv_iconst (v := (5 : Int32)) C.1 C.2.1 dX7_sail_72 (by decide) ?_
      obtain ⟨q3, eq3, hf⟩ := g_b hf
      refine cv_X7_117 hA C hX hP hS eq3 ⟨Nat.le_of_ble_eq_true rfl, Nat.le_of_ble_eq_true rfl⟩ hl.1 (Nat.le_of_ble_eq_true rfl) dX7_sail_73 (fun H locs hP hS => ?_)
      refine lv_iadd C.1 C.2.1 dX7_sail_76 ?_
      refine lv_istore_n (lv' := [(2, .int (x2 + q3.1)), (0, .ref (ad 0)), (1, .int x1), (3, .int x3)]) C.1 C.2.1 dX7_sail_77 rfl hl (by decide) rfl (fun ls hl => ?_)
      refine lv_iinc (v := (x3 + 1)) (lv' := [(3, .int (x3 + 1)), (2, .int (x2 + q3.1)), (0, .ref (ad 0)), (1, .int x1)]) C.1 C.2.1 dX7_sail_78 hl (k := 3) rfl (by rfl) (by decide) rfl (fun ls hl => ?_)
      refine lv_goto (tgt := 40) C.1 C.2.1 dX7_sail_81 (by decide) ?_
      exact ih _ _ _ _ _ _ _ hf hP hS (lv_sub hl [2, 3, 1, 0] rfl)
set_option maxRecDepth 100000 in
set_option maxHeartbeats 4000000 in
theorem w_X7_sail {p : Program} {l : Launch} {e : Env} {s : State} {m : MethodId} {args : Array Value} {below : List Frame} {meth : Method} {c : Code} {D : va_G} {ids : Nat → ClassId} {ad tt : Nat → Nat} {rv : Int32 × Hp} (hA : adOk ad 59) (C : CX p s m args meth c cX7_sail 4 (some .int) RX7 D ids) (hX : (ExC tt ad) s s.heap) : ∀ (h : Hp) (a1 : Int32) (H : Heap) (locs : List Loc) (ls : Array Slot), f_X7_sail h a1 = some rv → wp D (cEC ids ad) ad 59 h H → va_S (inW ad 59) s.heap H locs → lv_has ls 4 [(0, .ref (ad 0)), (1, .int a1)] → W p l e rm_X7_sail s m args below meth c H locs 0 0 (MQ below (QW D (cEC ids ad) ad 59 (some (.int rv.1)) rv.2) args s 0 0 (inW ad 59)) (F0 m 0 ls []) := by
  intro h a1 H locs ls hf hP hS hl
  unfold f_X7_sail at hf
  refine lv_iload_n C.1 C.2.1 dX7_sail_0 rfl (lv_at hl 1 rfl) ?_
  refine lv_iconst (v := (1 : Int32)) C.1 C.2.1 dX7_sail_1 (by decide) ?_
  refine lv_icmp_lt (tgt := 11) C.1 C.2.1 dX7_sail_2 (by decide) (fun hc => ?_) (fun hc => ?_)
  · have hf := g_t hc hf
    refine lv_bipush (v := (-2 : Int32)) C.1 C.2.1 dX7_sail_11 (by decide) ?_
    obtain rfl := Option.some.inj hf
    exact u_iret C hP hS dX7_sail_13
  · have hf := g_f hc hf
    refine lv_iload_n C.1 C.2.1 dX7_sail_5 rfl (lv_at hl 1 rfl) ?_
    refine lv_bipush (v := (30 : Int32)) C.1 C.2.1 dX7_sail_6 (by decide) ?_
    refine lv_icmp_le (tgt := 14) C.1 C.2.1 dX7_sail_8 (by decide) (fun hc => ?_) (fun hc => ?_)
    · have hf := g_t hc hf
      refine lv_aload_n C.1 C.2.1 dX7_sail_14 rfl (lv_at hl 0 rfl) ?_
      refine gf_X7_12 C hP dX7_sail_15 ?_
      refine gf_X7_107 C pX5_1 hP dX7_sail_18 ?_
      refine lv_iload_n C.1 C.2.1 dX7_sail_21 rfl (lv_at hl 1 rfl) ?_
      refine lv_iadd C.1 C.2.1 dX7_sail_22 ?_
      refine lv_sipush (v := (9999 : Int32)) C.1 C.2.1 dX7_sail_23 (by decide) ?_
      refine lv_icmp_le (tgt := 32) C.1 C.2.1 dX7_sail_26 (by decide) (fun hc => ?_) (fun hc => ?_)
      · have hf := g_t hc hf
        refine lv_aload_n C.1 C.2.1 dX7_sail_32 rfl (lv_at hl 0 rfl) ?_
        obtain ⟨q1, eq1, hf⟩ := g_b hf
        refine cv_X7_73 hA C hX hP hS eq1 ⟨Nat.le_of_ble_eq_true rfl, Nat.le_of_ble_eq_true rfl⟩ hl.1 (Nat.le_of_ble_eq_true rfl) dX7_sail_33 (fun H locs hP hS => ?_)
        refine lv_iconst (v := (0 : Int32)) C.1 C.2.1 dX7_sail_36 (by decide) ?_
        refine lv_istore_n (lv' := [(2, .int (0 : Int32)), (0, .ref (ad 0)), (1, .int a1)]) C.1 C.2.1 dX7_sail_37 rfl hl (by decide) rfl (fun ls hl => ?_)
        refine lv_iconst (v := (0 : Int32)) C.1 C.2.1 dX7_sail_38 (by decide) ?_
        refine lv_istore_n (lv' := [(3, .int (0 : Int32)), (2, .int (0 : Int32)), (0, .ref (ad 0)), (1, .int a1)]) C.1 C.2.1 dX7_sail_39 rfl hl (by decide) rfl (fun ls hl => ?_)
        exact w_X7_sail_40 hA C hX _ _ _ _ _ _ _ _ hf hP hS (lv_sub hl [2, 3, 1, 0] rfl)
      · have hf := g_f hc hf
        refine lv_bipush (v := (-3 : Int32)) C.1 C.2.1 dX7_sail_29 (by decide) ?_
        obtain rfl := Option.some.inj hf
        exact u_iret C hP hS dX7_sail_31
    · have hf := g_f hc hf
      refine lv_bipush (v := (-2 : Int32)) C.1 C.2.1 dX7_sail_11 (by decide) ?_
      obtain rfl := Option.some.inj hf
      exact u_iret C hP hS dX7_sail_13
theorem c_X7_sail (l : Launch) (D : va_G) (ids : Nat → ClassId) (ad tt : Nat → Nat) (hA : adOk ad 59) {a1 : Int32} {h : Hp} {rv : Int32 × Hp} (hf : f_X7_sail h a1 = some rv) : Met l yX7_sail (ws_ yX7_sail cX7_sail 4 (some .int)) rm_X7_sail (va_Pc [.ref (ad 0), .int a1] (WB D ids (cEC ids ad) ad 59 (ExC tt ad) h)) (QW D (cEC ids ad) ad 59 (some (.int rv.1)) rv.2) 0 0 (inW ad 59) :=
  u_met (own := RX7) (by decide) rfl (Nat.le_of_ble_eq_true rfl) rfl (fun p e s m args below meth c H ls C hX hP hS hl => w_X7_sail (tt := tt) hA C hX _ _ _ _ _ hf hP hS hl)
theorem as_aC {p : Program} {l : Launch} {e : Env} {R : Room} {s : State} {m : MethodId} {args : Array Value} {below : List Frame} {meth : Method} {c : Code} {H : Heap} {locs : List Loc} {cells slots : Nat} {Q : State → Prop} {cc : ByteArray} {nL : Nat} {ret : Option FieldType} {own : String} {pc : Nat} {ls : Array Slot} {rest : List Value} {D : va_G} {ids : Nat → ClassId} {ad : Nat → Nat} {h : Hp} {i x : Int32} (hA : adOk ad 59) (C : CX p s m args meth c cc nL ret own D ids) (hP : wp D (cEC ids ad) ad 59 h H) (hS : va_S (inW ad 59) s.heap H locs) (hg : inb i 60 = true) (hdg : decode cc pc = .ok (.castore, 1)) (kk : ∀ (H1 : Heap) (locs1 : List Loc), wp D (cEC ids ad) ad 59 (hs h 38 i.toNatClampNeg (vp_nar .char x)) H1 → va_S (inW ad 59) s.heap H1 locs1 → W p l e R s m args below meth c H1 locs1 cells slots Q (F0 m (pc + 1) ls rest)) : W p l e R s m args below meth c H locs cells slots Q (F0 m pc ls (.int x :: .int i :: .ref (ad 38) :: rest)) :=
  u_cast hA C hP hS (by decide) cE_aC hg hdg kk
theorem pf_X0_15 {p : Program} {l : Launch} {e : Env} {R : Room} {s : State} {m : MethodId} {args : Array Value} {below : List Frame} {meth : Method} {c : Code} {H : Heap} {locs : List Loc} {cells slots : Nat} {Q : State → Prop} {cc : ByteArray} {nL : Nat} {ret : Option FieldType} {pc : Nat} {ls : Array Slot} {rest : List Value} {D : va_G} {ids : Nat → ClassId} {ad : Nat → Nat} {h : Hp} {x : Int32} (hA : adOk ad 59) (C : CX p s m args meth c cc nL ret RX0 D ids) (hP : wp D (cEC ids ad) ad 59 h H) (hS : va_S (inW ad 59) s.heap H locs) (hdg : decode cc pc = .ok (.putfield 15, 3)) (kk : ∀ (H1 : Heap) (locs1 : List Loc), wp D (cEC ids ad) ad 59 (hs h 37 1 x) H1 → va_S (inW ad 59) s.heap H1 locs1 → W p l e R s m args below meth c H1 locs1 cells slots Q (F0 m (pc + 3) ls rest)) : W p l e R s m args below meth c H locs cells slots Q (F0 m pc ls (.int x :: .ref (ad 37) :: rest)) :=
  u_put hA C hP hS (by decide) cE_X0 rfl inX0 tyX0 tyX0_ok nmX0 1 (by decide) rfl q_65 rfl (ty := .int) rfl rfl rfl hdg kk
abbrev rm_X0_append : Room := { frames := 0, cells := 0, slots := 0, locals := 0 }
set_option maxRecDepth 100000 in
set_option maxHeartbeats 4000000 in
theorem w_X0_append {p : Program} {l : Launch} {e : Env} {s : State} {m : MethodId} {args : Array Value} {below : List Frame} {meth : Method} {c : Code} {D : va_G} {ids : Nat → ClassId} {ad tt : Nat → Nat} {rv : Int32 × Hp} (hA : adOk ad 59) (C : CX p s m args meth c cX0_append 2 (some .boolean) RX0 D ids) (hX : (ExC tt ad) s s.heap) : ∀ (h : Hp) (a1 : Int32) (H : Heap) (locs : List Loc) (ls : Array Slot), f_X0_append h a1 = some rv → wp D (cEC ids ad) ad 59 h H → va_S (inW ad 59) s.heap H locs → lv_has ls 2 [(0, .ref (ad 37)), (1, .int a1)] → W p l e rm_X0_append s m args below meth c H locs 0 0 (MQ below (QW D (cEC ids ad) ad 59 (some (.int rv.1)) rv.2) args s 0 0 (inW ad 59)) (F0 m 0 ls []) := by
  intro h a1 H locs ls hf hP hS hl
  unfold f_X0_append at hf
  refine lv_aload_n C.1 C.2.1 dX0_append_0 rfl (lv_at hl 0 rfl) ?_
  refine gf_X0_15 C hP dX0_append_1 ?_
  refine lv_if_lt (tgt := 19) C.1 C.2.1 dX0_append_4 (by decide) (fun hc => ?_) (fun hc => ?_)
  · have hf := g_t hc hf
    refine lv_iconst (v := (0 : Int32)) C.1 C.2.1 dX0_append_19 (by decide) ?_
    obtain rfl := Option.some.inj hf
    exact u_zret C hP hS isb_0 dX0_append_20
  · have hf := g_f hc hf
    refine lv_aload_n C.1 C.2.1 dX0_append_7 rfl (lv_at hl 0 rfl) ?_
    refine gf_X0_15 C hP dX0_append_8 ?_
    refine lv_aload_n C.1 C.2.1 dX0_append_11 rfl (lv_at hl 0 rfl) ?_
    refine gf_X0_9 C hP dX0_append_12 ?_
    refine ln_aC C hP dX0_append_15 ?_
    refine lv_icmp_lt (tgt := 21) C.1 C.2.1 dX0_append_16 (by decide) (fun hc => ?_) (fun hc => ?_)
    · have hf := g_t hc hf
      refine lv_aload_n C.1 C.2.1 dX0_append_21 rfl (lv_at hl 0 rfl) ?_
      refine gf_X0_9 C hP dX0_append_22 ?_
      refine lv_aload_n C.1 C.2.1 dX0_append_25 rfl (lv_at hl 0 rfl) ?_
      refine gf_X0_15 C hP dX0_append_26 ?_
      refine lv_iload_n C.1 C.2.1 dX0_append_29 rfl (lv_at hl 1 rfl) ?_
      obtain ⟨hg, hf⟩ := g_if hf
      refine as_aC hA C hP hS hg dX0_append_30 (fun H locs hP hS => ?_)
      refine lv_aload_n C.1 C.2.1 dX0_append_31 rfl (lv_at hl 0 rfl) ?_
      refine lv_dup C.1 C.2.1 dX0_append_32 rfl ?_
      refine gf_X0_15 C hP dX0_append_33 ?_
      refine lv_iconst (v := (1 : Int32)) C.1 C.2.1 dX0_append_36 (by decide) ?_
      refine lv_iadd C.1 C.2.1 dX0_append_37 ?_
      refine pf_X0_15 hA C hP hS dX0_append_38 (fun H locs hP hS => ?_)
      refine lv_iconst (v := (1 : Int32)) C.1 C.2.1 dX0_append_41 (by decide) ?_
      obtain rfl := Option.some.inj hf
      exact u_zret C hP hS isb_1 dX0_append_42
    · have hf := g_f hc hf
      refine lv_iconst (v := (0 : Int32)) C.1 C.2.1 dX0_append_19 (by decide) ?_
      obtain rfl := Option.some.inj hf
      exact u_zret C hP hS isb_0 dX0_append_20
theorem c_X0_append (l : Launch) (D : va_G) (ids : Nat → ClassId) (ad tt : Nat → Nat) (hA : adOk ad 59) {a1 : Int32} {h : Hp} {rv : Int32 × Hp} (hf : f_X0_append h a1 = some rv) : Met l yX0_append (ws_ yX0_append cX0_append 2 (some .boolean)) rm_X0_append (va_Pc [.ref (ad 37), .int a1] (WB D ids (cEC ids ad) ad 59 (ExC tt ad) h)) (QW D (cEC ids ad) ad 59 (some (.int rv.1)) rv.2) 0 0 (inW ad 59) :=
  u_met (own := RX0) (by decide) rfl (Nat.le_of_ble_eq_true rfl) rfl (fun p e s m args below meth c H ls C hX hP hS hl => w_X0_append (tt := tt) hA C hX _ _ _ _ _ hf hP hS hl)
theorem cv_X7_120 {p : Program} {l : Launch} {e : Env} {R : Room} {s : State} {m : MethodId} {args : Array Value} {below : List Frame} {meth : Method} {c : Code} {H : Heap} {locs : List Loc} {Q : State → Prop} {cc : ByteArray} {nL : Nat} {ret : Option FieldType} {pc : Nat} {ls : Array Slot} {rest : List Value} {D : va_G} {ids : Nat → ClassId} {ad tt : Nat → Nat} {h : Hp} (hA : adOk ad 59) (C : CX p s m args meth c cc nL ret RX7 D ids) (hX : (ExC tt ad) s s.heap) (hP : wp D (cEC ids ad) ad 59 h H) (hS : va_S (inW ad 59) s.heap H locs) {a1 : Int32} {rv : Int32 × Hp} (hf : f_X0_append h a1 = some rv) (hR : 0 + 1 ≤ R.frames ∧ 8 + (2 + 11) + 0 ≤ R.locals) (hsz : ls.size = nL) (hcat : (rest.map fun v => v.category).sum ≤ 8) (hdg : decode cc pc = .ok (.invokevirtual 120, 3)) (kk : ∀ (H1 : Heap) (locs1 : List Loc), wp D (cEC ids ad) ad 59 rv.2 H1 → va_S (inW ad 59) s.heap H1 locs1 → W p l e R s m args below meth c H1 locs1 0 0 Q (F0 m (pc + 3) ls (.int rv.1 :: rest))) : W p l e R s m args below meth c H locs 0 0 Q (F0 m pc ls (.int a1 :: .ref (ad 37) :: rest)) :=
  u_callV (As := [.int a1]) (rv := (some (.int rv.1))) C (exC_ok hA) hX (c_X0_append l D ids ad tt hA hf) q_486 q_487 q_488 q_22 q_489 ⟨rfl, rfl⟩ (by refine ⟨by decide +kernel, by decide +kernel, ?_⟩; show _ = some 1; decide +kernel) hR (by decide) (cE_X0 _) rfl hP hS hsz hcat rfl hdg kk
theorem gf_X7_124 {p : Program} {l : Launch} {e : Env} {R : Room} {s : State} {m : MethodId} {args : Array Value} {below : List Frame} {meth : Method} {c : Code} {H : Heap} {locs : List Loc} {cells slots : Nat} {Q : State → Prop} {cc : ByteArray} {nL : Nat} {ret : Option FieldType} {pc : Nat} {ls : Array Slot} {rest : List Value} {D : va_G} {ids : Nat → ClassId} {ad : Nat → Nat} {h : Hp} (C : CX p s m args meth c cc nL ret RX7 D ids) (hP : wp D (cEC ids ad) ad 59 h H) (hdg : decode cc pc = .ok (.getfield 124, 3)) (kk : W p l e R s m args below meth c H locs cells slots Q (F0 m (pc + 3) ls (.int (h 37 1) :: rest))) : W p l e R s m args below meth c H locs cells slots Q (F0 m pc ls (.ref (ad 37) :: rest)) :=
  u_get C hP (by decide) cE_X0 rfl inX0 1 (by decide) rfl q_485 hdg kk
abbrev rm_X7_type : Room := { frames := 1, cells := 0, slots := 0, locals := 21 }
set_option maxRecDepth 100000 in
set_option maxHeartbeats 4000000 in
theorem w_X7_type {p : Program} {l : Launch} {e : Env} {s : State} {m : MethodId} {args : Array Value} {below : List Frame} {meth : Method} {c : Code} {D : va_G} {ids : Nat → ClassId} {ad tt : Nat → Nat} {rv : Int32 × Hp} (hA : adOk ad 59) (C : CX p s m args meth c cX7_type 2 (some .int) RX7 D ids) (hX : (ExC tt ad) s s.heap) : ∀ (h : Hp) (a1 : Int32) (H : Heap) (locs : List Loc) (ls : Array Slot), f_X7_type h a1 = some rv → wp D (cEC ids ad) ad 59 h H → va_S (inW ad 59) s.heap H locs → lv_has ls 2 [(0, .ref (ad 0)), (1, .int a1)] → W p l e rm_X7_type s m args below meth c H locs 0 0 (MQ below (QW D (cEC ids ad) ad 59 (some (.int rv.1)) rv.2) args s 0 0 (inW ad 59)) (F0 m 0 ls []) := by
  intro h a1 H locs ls hf hP hS hl
  unfold f_X7_type at hf
  refine lv_aload_n C.1 C.2.1 dX7_type_0 rfl (lv_at hl 0 rfl) ?_
  refine gf_X7_34 C hP dX7_type_1 ?_
  refine lv_iload_n C.1 C.2.1 dX7_type_4 rfl (lv_at hl 1 rfl) ?_
  obtain ⟨q1, eq1, hf⟩ := g_b hf
  refine cv_X7_120 hA C hX hP hS eq1 ⟨Nat.le_of_ble_eq_true rfl, Nat.le_of_ble_eq_true rfl⟩ hl.1 (Nat.le_of_ble_eq_true rfl) dX7_type_5 (fun H locs hP hS => ?_)
  refine lv_if_eq (tgt := 21) C.1 C.2.1 dX7_type_8 (by decide) (fun hc => ?_) (fun hc => ?_)
  · have hf := g_t hc hf
    refine lv_bipush (v := (-3 : Int32)) C.1 C.2.1 dX7_type_21 (by decide) ?_
    obtain rfl := Option.some.inj hf
    exact u_iret C hP hS dX7_type_23
  · have hf := g_f hc hf
    refine lv_aload_n C.1 C.2.1 dX7_type_11 rfl (lv_at hl 0 rfl) ?_
    refine gf_X7_34 C hP dX7_type_12 ?_
    refine gf_X7_124 C hP dX7_type_15 ?_
    refine lv_goto (tgt := 23) C.1 C.2.1 dX7_type_18 (by decide) ?_
    obtain rfl := Option.some.inj hf
    exact u_iret C hP hS dX7_type_23
theorem c_X7_type (l : Launch) (D : va_G) (ids : Nat → ClassId) (ad tt : Nat → Nat) (hA : adOk ad 59) {a1 : Int32} {h : Hp} {rv : Int32 × Hp} (hf : f_X7_type h a1 = some rv) : Met l yX7_type (ws_ yX7_type cX7_type 2 (some .int)) rm_X7_type (va_Pc [.ref (ad 0), .int a1] (WB D ids (cEC ids ad) ad 59 (ExC tt ad) h)) (QW D (cEC ids ad) ad 59 (some (.int rv.1)) rv.2) 0 0 (inW ad 59) :=
  u_met (own := RX7) (by decide) rfl (Nat.le_of_ble_eq_true rfl) rfl (fun p e s m args below meth c H ls C hX hP hS hl => w_X7_type (tt := tt) hA C hX _ _ _ _ _ hf hP hS hl)
theorem pf_X7_124 {p : Program} {l : Launch} {e : Env} {R : Room} {s : State} {m : MethodId} {args : Array Value} {below : List Frame} {meth : Method} {c : Code} {H : Heap} {locs : List Loc} {cells slots : Nat} {Q : State → Prop} {cc : ByteArray} {nL : Nat} {ret : Option FieldType} {pc : Nat} {ls : Array Slot} {rest : List Value} {D : va_G} {ids : Nat → ClassId} {ad : Nat → Nat} {h : Hp} {x : Int32} (hA : adOk ad 59) (C : CX p s m args meth c cc nL ret RX7 D ids) (hP : wp D (cEC ids ad) ad 59 h H) (hS : va_S (inW ad 59) s.heap H locs) (hdg : decode cc pc = .ok (.putfield 124, 3)) (kk : ∀ (H1 : Heap) (locs1 : List Loc), wp D (cEC ids ad) ad 59 (hs h 37 1 x) H1 → va_S (inW ad 59) s.heap H1 locs1 → W p l e R s m args below meth c H1 locs1 cells slots Q (F0 m (pc + 3) ls rest)) : W p l e R s m args below meth c H locs cells slots Q (F0 m pc ls (.int x :: .ref (ad 37) :: rest)) :=
  u_put hA C hP hS (by decide) cE_X0 rfl inX0 tyX0 tyX0_ok nmX0 1 (by decide) rfl q_485 rfl (ty := .int) rfl rfl rfl hdg kk
abbrev rm_X7_clearText : Room := { frames := 0, cells := 0, slots := 0, locals := 0 }
set_option maxRecDepth 100000 in
set_option maxHeartbeats 4000000 in
theorem w_X7_clearText {p : Program} {l : Launch} {e : Env} {s : State} {m : MethodId} {args : Array Value} {below : List Frame} {meth : Method} {c : Code} {D : va_G} {ids : Nat → ClassId} {ad tt : Nat → Nat} {rv : Int32 × Hp} (hA : adOk ad 59) (C : CX p s m args meth c cX7_clearText 2 (some .int) RX7 D ids) (hX : (ExC tt ad) s s.heap) : ∀ (h : Hp) (H : Heap) (locs : List Loc) (ls : Array Slot), f_X7_clearText h = some rv → wp D (cEC ids ad) ad 59 h H → va_S (inW ad 59) s.heap H locs → lv_has ls 2 [(0, .ref (ad 0))] → W p l e rm_X7_clearText s m args below meth c H locs 0 0 (MQ below (QW D (cEC ids ad) ad 59 (some (.int rv.1)) rv.2) args s 0 0 (inW ad 59)) (F0 m 0 ls []) := by
  intro h H locs ls hf hP hS hl
  unfold f_X7_clearText at hf
  refine lv_aload_n C.1 C.2.1 dX7_clearText_0 rfl (lv_at hl 0 rfl) ?_
  refine gf_X7_34 C hP dX7_clearText_1 ?_
  refine gf_X7_124 C hP dX7_clearText_4 ?_
  refine lv_istore_n (lv' := [(1, .int (h 37 1)), (0, .ref (ad 0))]) C.1 C.2.1 dX7_clearText_7 rfl hl (by decide) rfl (fun ls hl => ?_)
  refine lv_aload_n C.1 C.2.1 dX7_clearText_8 rfl (lv_at hl 1 rfl) ?_
  refine gf_X7_34 C hP dX7_clearText_9 ?_
  refine lv_iconst (v := (0 : Int32)) C.1 C.2.1 dX7_clearText_12 (by decide) ?_
  refine pf_X7_124 hA C hP hS dX7_clearText_13 (fun H locs hP hS => ?_)
  refine lv_iload_n C.1 C.2.1 dX7_clearText_16 rfl (lv_at hl 0 rfl) ?_
  obtain rfl := Option.some.inj hf
  exact u_iret C hP hS dX7_clearText_17
theorem c_X7_clearText (l : Launch) (D : va_G) (ids : Nat → ClassId) (ad tt : Nat → Nat) (hA : adOk ad 59) {h : Hp} {rv : Int32 × Hp} (hf : f_X7_clearText h = some rv) : Met l yX7_clearText (ws_ yX7_clearText cX7_clearText 2 (some .int)) rm_X7_clearText (va_Pc [.ref (ad 0)] (WB D ids (cEC ids ad) ad 59 (ExC tt ad) h)) (QW D (cEC ids ad) ad 59 (some (.int rv.1)) rv.2) 0 0 (inW ad 59) :=
  u_met (own := RX7) (by decide) rfl (Nat.le_of_ble_eq_true rfl) rfl (fun p e s m args below meth c H ls C hX hP hS hl => w_X7_clearText (tt := tt) hA C hX _ _ _ _ hf hP hS hl)
abbrev rm_X7_fault : Room := { frames := 6, cells := 0, slots := 0, locals := 132 }
set_option maxRecDepth 100000 in
set_option maxHeartbeats 4000000 in
theorem w_X7_fault {p : Program} {l : Launch} {e : Env} {s : State} {m : MethodId} {args : Array Value} {below : List Frame} {meth : Method} {c : Code} {D : va_G} {ids : Nat → ClassId} {ad tt : Nat → Nat} {rv : Int32 × Hp} (hA : adOk ad 59) (C : CX p s m args meth c cX7_fault 1 (some .int) RX7 D ids) (hX : (ExC tt ad) s s.heap) : ∀ (h : Hp) (H : Heap) (locs : List Loc) (ls : Array Slot), f_X7_fault h = some rv → wp D (cEC ids ad) ad 59 h H → va_S (inW ad 59) s.heap H locs → lv_has ls 1 [(0, .ref (ad 0))] → W p l e rm_X7_fault s m args below meth c H locs 0 0 (MQ below (QW D (cEC ids ad) ad 59 (some (.int rv.1)) rv.2) args s 0 0 (inW ad 59)) (F0 m 0 ls []) := by
  intro h H locs ls hf hP hS hl
  unfold f_X7_fault at hf
  refine lv_aload_n C.1 C.2.1 dX7_fault_0 rfl (lv_at hl 0 rfl) ?_
  refine gf_X7_34 C hP dX7_fault_1 ?_
  refine lv_aload_n C.1 C.2.1 dX7_fault_4 rfl (lv_at hl 0 rfl) ?_
  refine gf_X7_38 C hP dX7_fault_5 ?_
  obtain ⟨q1, eq1, hf⟩ := g_b hf
  refine cv_X7_84 hA C hX hP hS pX5_31 eq1 ⟨Nat.le_of_ble_eq_true rfl, Nat.le_of_ble_eq_true rfl⟩ hl.1 (Nat.le_of_ble_eq_true rfl) dX7_fault_8 (fun H locs hP hS => ?_)
  obtain rfl := Option.some.inj hf
  exact u_iret C hP hS dX7_fault_11
theorem c_X7_fault (l : Launch) (D : va_G) (ids : Nat → ClassId) (ad tt : Nat → Nat) (hA : adOk ad 59) {h : Hp} {rv : Int32 × Hp} (hf : f_X7_fault h = some rv) : Met l yX7_fault (ws_ yX7_fault cX7_fault 1 (some .int)) rm_X7_fault (va_Pc [.ref (ad 0)] (WB D ids (cEC ids ad) ad 59 (ExC tt ad) h)) (QW D (cEC ids ad) ad 59 (some (.int rv.1)) rv.2) 0 0 (inW ad 59) :=
  u_met (own := RX7) (by decide) rfl (Nat.le_of_ble_eq_true rfl) rfl (fun p e s m args below meth c H ls C hX hP hS hl => w_X7_fault (tt := tt) hA C hX _ _ _ _ hf hP hS hl)
abbrev rm_X7_undo : Room := { frames := 2, cells := 0, slots := 0, locals := 43 }
set_option maxRecDepth 100000 in
set_option maxHeartbeats 4000000 in
theorem w_X7_undo {p : Program} {l : Launch} {e : Env} {s : State} {m : MethodId} {args : Array Value} {below : List Frame} {meth : Method} {c : Code} {D : va_G} {ids : Nat → ClassId} {ad tt : Nat → Nat} {rv : Int32 × Hp} (hA : adOk ad 59) (C : CX p s m args meth c cX7_undo 2 (some .int) RX7 D ids) (hX : (ExC tt ad) s s.heap) : ∀ (h : Hp) (H : Heap) (locs : List Loc) (ls : Array Slot), f_X7_undo h = some rv → wp D (cEC ids ad) ad 59 h H → va_S (inW ad 59) s.heap H locs → lv_has ls 2 [(0, .ref (ad 0))] → W p l e rm_X7_undo s m args below meth c H locs 0 0 (MQ below (QW D (cEC ids ad) ad 59 (some (.int rv.1)) rv.2) args s 0 0 (inW ad 59)) (F0 m 0 ls []) := by
  intro h H locs ls hf hP hS hl
  unfold f_X7_undo at hf
  refine lv_aload_n C.1 C.2.1 dX7_undo_0 rfl (lv_at hl 0 rfl) ?_
  refine gf_X7_27 C hP dX7_undo_1 ?_
  refine lv_iconst (v := (1 : Int32)) C.1 C.2.1 dX7_undo_4 (by decide) ?_
  refine lv_isub C.1 C.2.1 dX7_undo_5 ?_
  refine lv_istore_n (lv' := [(1, .int ((h 0 4) - (1 : Int32))), (0, .ref (ad 0))]) C.1 C.2.1 dX7_undo_6 rfl hl (by decide) rfl (fun ls hl => ?_)
  refine lv_iload_n C.1 C.2.1 dX7_undo_7 rfl (lv_at hl 0 rfl) ?_
  refine lv_if_lt (tgt := 20) C.1 C.2.1 dX7_undo_8 (by decide) (fun hc => ?_) (fun hc => ?_)
  · have hf := g_t hc hf
    refine lv_bipush (v := (-5 : Int32)) C.1 C.2.1 dX7_undo_20 (by decide) ?_
    obtain rfl := Option.some.inj hf
    exact u_iret C hP hS dX7_undo_22
  · have hf := g_f hc hf
    refine lv_iload_n C.1 C.2.1 dX7_undo_11 rfl (lv_at hl 0 rfl) ?_
    refine lv_aload_n C.1 C.2.1 dX7_undo_12 rfl (lv_at hl 1 rfl) ?_
    refine gf_X7_23 C hP dX7_undo_13 ?_
    refine ln_aSt C hP dX7_undo_16 ?_
    refine lv_icmp_lt (tgt := 23) C.1 C.2.1 dX7_undo_17 (by decide) (fun hc => ?_) (fun hc => ?_)
    · have hf := g_t hc hf
      refine lv_aload_n C.1 C.2.1 dX7_undo_23 rfl (lv_at hl 1 rfl) ?_
      refine gf_X7_12 C hP dX7_undo_24 ?_
      refine lv_aload_n C.1 C.2.1 dX7_undo_27 rfl (lv_at hl 1 rfl) ?_
      refine gf_X7_23 C hP dX7_undo_28 ?_
      refine lv_iload_n C.1 C.2.1 dX7_undo_31 rfl (lv_at hl 0 rfl) ?_
      obtain ⟨hg1, hf⟩ := g_if hf
      obtain ⟨hg2, hf⟩ := g_if hf
      refine rl_aSt C hP hg1 dX7_undo_32 ?_
      obtain ⟨q3, eq3, hf⟩ := g_b hf
      refine cv_X7_80 hA C hX hP hS pX5_1 (hi_el hg2) eq3 ⟨Nat.le_of_ble_eq_true rfl, Nat.le_of_ble_eq_true rfl⟩ hl.1 (Nat.le_of_ble_eq_true rfl) dX7_undo_33 (fun H locs hP hS => ?_)
      refine lv_aload_n C.1 C.2.1 dX7_undo_36 rfl (lv_at hl 1 rfl) ?_
      refine lv_iload_n C.1 C.2.1 dX7_undo_37 rfl (lv_at hl 0 rfl) ?_
      refine pf_X7_27 hA C hP hS dX7_undo_38 (fun H locs hP hS => ?_)
      refine lv_aload_n C.1 C.2.1 dX7_undo_41 rfl (lv_at hl 1 rfl) ?_
      refine gf_X7_27 C hP dX7_undo_42 ?_
      obtain rfl := Option.some.inj hf
      exact u_iret C hP hS dX7_undo_45
    · have hf := g_f hc hf
      refine lv_bipush (v := (-5 : Int32)) C.1 C.2.1 dX7_undo_20 (by decide) ?_
      obtain rfl := Option.some.inj hf
      exact u_iret C hP hS dX7_undo_22
theorem c_X7_undo (l : Launch) (D : va_G) (ids : Nat → ClassId) (ad tt : Nat → Nat) (hA : adOk ad 59) {h : Hp} {rv : Int32 × Hp} (hf : f_X7_undo h = some rv) : Met l yX7_undo (ws_ yX7_undo cX7_undo 2 (some .int)) rm_X7_undo (va_Pc [.ref (ad 0)] (WB D ids (cEC ids ad) ad 59 (ExC tt ad) h)) (QW D (cEC ids ad) ad 59 (some (.int rv.1)) rv.2) 0 0 (inW ad 59) :=
  u_met (own := RX7) (by decide) rfl (Nat.le_of_ble_eq_true rfl) rfl (fun p e s m args below meth c H ls C hX hP hS hl => w_X7_undo (tt := tt) hA C hX _ _ _ _ hf hP hS hl)
theorem gf_X7_16 {p : Program} {l : Launch} {e : Env} {R : Room} {s : State} {m : MethodId} {args : Array Value} {below : List Frame} {meth : Method} {c : Code} {H : Heap} {locs : List Loc} {cells slots : Nat} {Q : State → Prop} {cc : ByteArray} {nL : Nat} {ret : Option FieldType} {pc : Nat} {ls : Array Slot} {rest : List Value} {D : va_G} {ids : Nat → ClassId} {ad : Nat → Nat} {h : Hp} (C : CX p s m args meth c cc nL ret RX7 D ids) (hP : wp D (cEC ids ad) ad 59 h H) (hdg : decode cc pc = .ok (.getfield 16, 3)) (kk : W p l e R s m args below meth c H locs cells slots Q (F0 m (pc + 3) ls (.ref (ad 6) :: rest))) : W p l e R s m args below meth c H locs cells slots Q (F0 m pc ls (.ref (ad 0) :: rest)) :=
  u_get C hP (by decide) cE_X7 rfl inX7 1 (by decide) rfl q_16 hdg kk
theorem pf_X7_19 {p : Program} {l : Launch} {e : Env} {R : Room} {s : State} {m : MethodId} {args : Array Value} {below : List Frame} {meth : Method} {c : Code} {H : Heap} {locs : List Loc} {cells slots : Nat} {Q : State → Prop} {cc : ByteArray} {nL : Nat} {ret : Option FieldType} {pc : Nat} {ls : Array Slot} {rest : List Value} {D : va_G} {ids : Nat → ClassId} {ad : Nat → Nat} {h : Hp} {x : Int32} (hA : adOk ad 59) (C : CX p s m args meth c cc nL ret RX7 D ids) (hz : isb x = true) (hP : wp D (cEC ids ad) ad 59 h H) (hS : va_S (inW ad 59) s.heap H locs) (hdg : decode cc pc = .ok (.putfield 19, 3)) (kk : ∀ (H1 : Heap) (locs1 : List Loc), wp D (cEC ids ad) ad 59 (hs h 0 2 x) H1 → va_S (inW ad 59) s.heap H1 locs1 → W p l e R s m args below meth c H1 locs1 cells slots Q (F0 m (pc + 3) ls rest)) : W p l e R s m args below meth c H locs cells slots Q (F0 m pc ls (.int x :: .ref (ad 0) :: rest)) :=
  u_put hA C hP hS (by decide) cE_X7 rfl inX7 tyX7 tyX7_ok nmX7 2 (by decide) rfl q_17 rfl (ty := .boolean) rfl (isb_n hz).1 (isb_n hz).2 hdg kk
abbrev rm_X7_keep : Room := { frames := 2, cells := 0, slots := 0, locals := 43 }
set_option maxRecDepth 100000 in
set_option maxHeartbeats 4000000 in
theorem w_X7_keep {p : Program} {l : Launch} {e : Env} {s : State} {m : MethodId} {args : Array Value} {below : List Frame} {meth : Method} {c : Code} {D : va_G} {ids : Nat → ClassId} {ad tt : Nat → Nat} {rv : Int32 × Hp} (hA : adOk ad 59) (C : CX p s m args meth c cX7_keep 1 (some .int) RX7 D ids) (hX : (ExC tt ad) s s.heap) : ∀ (h : Hp) (H : Heap) (locs : List Loc) (ls : Array Slot), f_X7_keep h = some rv → wp D (cEC ids ad) ad 59 h H → va_S (inW ad 59) s.heap H locs → lv_has ls 1 [(0, .ref (ad 0))] → W p l e rm_X7_keep s m args below meth c H locs 0 0 (MQ below (QW D (cEC ids ad) ad 59 (some (.int rv.1)) rv.2) args s 0 0 (inW ad 59)) (F0 m 0 ls []) := by
  intro h H locs ls hf hP hS hl
  unfold f_X7_keep at hf
  refine lv_aload_n C.1 C.2.1 dX7_keep_0 rfl (lv_at hl 0 rfl) ?_
  refine gf_X7_16 C hP dX7_keep_1 ?_
  refine lv_aload_n C.1 C.2.1 dX7_keep_4 rfl (lv_at hl 0 rfl) ?_
  refine gf_X7_12 C hP dX7_keep_5 ?_
  obtain ⟨q1, eq1, hf⟩ := g_b hf
  refine cv_X7_80 hA C hX hP hS pX5_6 pX5_1 eq1 ⟨Nat.le_of_ble_eq_true rfl, Nat.le_of_ble_eq_true rfl⟩ hl.1 (Nat.le_of_ble_eq_true rfl) dX7_keep_8 (fun H locs hP hS => ?_)
  refine lv_aload_n C.1 C.2.1 dX7_keep_11 rfl (lv_at hl 0 rfl) ?_
  refine lv_iconst (v := (1 : Int32)) C.1 C.2.1 dX7_keep_12 (by decide) ?_
  refine pf_X7_19 hA C isb_1 hP hS dX7_keep_13 (fun H locs hP hS => ?_)
  refine lv_aload_n C.1 C.2.1 dX7_keep_16 rfl (lv_at hl 0 rfl) ?_
  refine gf_X7_12 C hP dX7_keep_17 ?_
  refine gf_X7_107 C pX5_1 hP dX7_keep_20 ?_
  obtain rfl := Option.some.inj hf
  exact u_iret C hP hS dX7_keep_23
theorem c_X7_keep (l : Launch) (D : va_G) (ids : Nat → ClassId) (ad tt : Nat → Nat) (hA : adOk ad 59) {h : Hp} {rv : Int32 × Hp} (hf : f_X7_keep h = some rv) : Met l yX7_keep (ws_ yX7_keep cX7_keep 1 (some .int)) rm_X7_keep (va_Pc [.ref (ad 0)] (WB D ids (cEC ids ad) ad 59 (ExC tt ad) h)) (QW D (cEC ids ad) ad 59 (some (.int rv.1)) rv.2) 0 0 (inW ad 59) :=
  u_met (own := RX7) (by decide) rfl (Nat.le_of_ble_eq_true rfl) rfl (fun p e s m args below meth c H ls C hX hP hS hl => w_X7_keep (tt := tt) hA C hX _ _ _ _ hf hP hS hl)
theorem gf_X7_19 {p : Program} {l : Launch} {e : Env} {R : Room} {s : State} {m : MethodId} {args : Array Value} {below : List Frame} {meth : Method} {c : Code} {H : Heap} {locs : List Loc} {cells slots : Nat} {Q : State → Prop} {cc : ByteArray} {nL : Nat} {ret : Option FieldType} {pc : Nat} {ls : Array Slot} {rest : List Value} {D : va_G} {ids : Nat → ClassId} {ad : Nat → Nat} {h : Hp} (C : CX p s m args meth c cc nL ret RX7 D ids) (hP : wp D (cEC ids ad) ad 59 h H) (hdg : decode cc pc = .ok (.getfield 19, 3)) (kk : W p l e R s m args below meth c H locs cells slots Q (F0 m (pc + 3) ls (.int (h 0 2) :: rest))) : W p l e R s m args below meth c H locs cells slots Q (F0 m pc ls (.ref (ad 0) :: rest)) :=
  u_get C hP (by decide) cE_X7 rfl inX7 2 (by decide) rfl q_17 hdg kk
abbrev rm_X7_restore : Room := { frames := 3, cells := 0, slots := 0, locals := 65 }
set_option maxRecDepth 100000 in
set_option maxHeartbeats 4000000 in
theorem w_X7_restore {p : Program} {l : Launch} {e : Env} {s : State} {m : MethodId} {args : Array Value} {below : List Frame} {meth : Method} {c : Code} {D : va_G} {ids : Nat → ClassId} {ad tt : Nat → Nat} {rv : Int32 × Hp} (hA : adOk ad 59) (C : CX p s m args meth c cX7_restore 1 (some .int) RX7 D ids) (hX : (ExC tt ad) s s.heap) : ∀ (h : Hp) (H : Heap) (locs : List Loc) (ls : Array Slot), f_X7_restore h = some rv → wp D (cEC ids ad) ad 59 h H → va_S (inW ad 59) s.heap H locs → lv_has ls 1 [(0, .ref (ad 0))] → W p l e rm_X7_restore s m args below meth c H locs 0 0 (MQ below (QW D (cEC ids ad) ad 59 (some (.int rv.1)) rv.2) args s 0 0 (inW ad 59)) (F0 m 0 ls []) := by
  intro h H locs ls hf hP hS hl
  unfold f_X7_restore at hf
  refine lv_aload_n C.1 C.2.1 dX7_restore_0 rfl (lv_at hl 0 rfl) ?_
  refine gf_X7_19 C hP dX7_restore_1 ?_
  refine lv_if_ne (tgt := 10) C.1 C.2.1 dX7_restore_4 (by decide) (fun hc => ?_) (fun hc => ?_)
  · have hf := g_f hc hf
    refine lv_aload_n C.1 C.2.1 dX7_restore_10 rfl (lv_at hl 0 rfl) ?_
    obtain ⟨q1, eq1, hf⟩ := g_b hf
    refine cv_X7_73 hA C hX hP hS eq1 ⟨Nat.le_of_ble_eq_true rfl, Nat.le_of_ble_eq_true rfl⟩ hl.1 (Nat.le_of_ble_eq_true rfl) dX7_restore_11 (fun H locs hP hS => ?_)
    refine lv_aload_n C.1 C.2.1 dX7_restore_14 rfl (lv_at hl 0 rfl) ?_
    refine gf_X7_12 C hP dX7_restore_15 ?_
    refine lv_aload_n C.1 C.2.1 dX7_restore_18 rfl (lv_at hl 0 rfl) ?_
    refine gf_X7_16 C hP dX7_restore_19 ?_
    obtain ⟨q2, eq2, hf⟩ := g_b hf
    refine cv_X7_80 hA C hX hP hS pX5_1 pX5_6 eq2 ⟨Nat.le_of_ble_eq_true rfl, Nat.le_of_ble_eq_true rfl⟩ hl.1 (Nat.le_of_ble_eq_true rfl) dX7_restore_22 (fun H locs hP hS => ?_)
    refine lv_aload_n C.1 C.2.1 dX7_restore_25 rfl (lv_at hl 0 rfl) ?_
    refine gf_X7_12 C hP dX7_restore_26 ?_
    refine gf_X7_107 C pX5_1 hP dX7_restore_29 ?_
    obtain rfl := Option.some.inj hf
    exact u_iret C hP hS dX7_restore_32
  · have hf := g_t hc hf
    refine lv_bipush (v := (-5 : Int32)) C.1 C.2.1 dX7_restore_7 (by decide) ?_
    obtain rfl := Option.some.inj hf
    exact u_iret C hP hS dX7_restore_9
theorem c_X7_restore (l : Launch) (D : va_G) (ids : Nat → ClassId) (ad tt : Nat → Nat) (hA : adOk ad 59) {h : Hp} {rv : Int32 × Hp} (hf : f_X7_restore h = some rv) : Met l yX7_restore (ws_ yX7_restore cX7_restore 1 (some .int)) rm_X7_restore (va_Pc [.ref (ad 0)] (WB D ids (cEC ids ad) ad 59 (ExC tt ad) h)) (QW D (cEC ids ad) ad 59 (some (.int rv.1)) rv.2) 0 0 (inW ad 59) :=
  u_met (own := RX7) (by decide) rfl (Nat.le_of_ble_eq_true rfl) rfl (fun p e s m args below meth c H ls C hX hP hS hl => w_X7_restore (tt := tt) hA C hX _ _ _ _ hf hP hS hl)
theorem gf_X6_19 {p : Program} {l : Launch} {e : Env} {R : Room} {s : State} {m : MethodId} {args : Array Value} {below : List Frame} {meth : Method} {c : Code} {H : Heap} {locs : List Loc} {cells slots : Nat} {Q : State → Prop} {cc : ByteArray} {nL : Nat} {ret : Option FieldType} {pc : Nat} {ls : Array Slot} {rest : List Value} {D : va_G} {ids : Nat → ClassId} {ad : Nat → Nat} {h : Hp} (C : CX p s m args meth c cc nL ret RX6 D ids) {k : Nat} (hk : isX6 k) (hP : wp D (cEC ids ad) ad 59 h H) (hdg : decode cc pc = .ok (.getfield 19, 3)) (kk : W p l e R s m args below meth c H locs cells slots Q (F0 m (pc + 3) ls (.int (h k 2) :: rest))) : W p l e R s m args below meth c H locs cells slots Q (F0 m pc ls (.ref (ad k) :: rest)) :=
  u_get C hP (lt_X6 hk) (cE_X6 hk) rfl inX6 2 (by decide) rfl q_85 hdg kk
abbrev rm_X6_pierOf : Room := { frames := 0, cells := 0, slots := 0, locals := 0 }
set_option maxRecDepth 100000 in
set_option maxHeartbeats 4000000 in
theorem w_X6_pierOf {p : Program} {l : Launch} {e : Env} {s : State} {m : MethodId} {args : Array Value} {below : List Frame} {meth : Method} {c : Code} {D : va_G} {ids : Nat → ClassId} {ad tt : Nat → Nat} {rv : Int32 × Hp} (hA : adOk ad 59) (C : CX p s m args meth c cX6_pierOf 2 (some .int) RX6 D ids) (hX : (ExC tt ad) s s.heap) {k : Nat} (hk : isX6 k) : ∀ (h : Hp) (a1 : Int32) (H : Heap) (locs : List Loc) (ls : Array Slot), f_X6_pierOf h k a1 = some rv → wp D (cEC ids ad) ad 59 h H → va_S (inW ad 59) s.heap H locs → lv_has ls 2 [(0, .ref (ad k)), (1, .int a1)] → W p l e rm_X6_pierOf s m args below meth c H locs 0 0 (MQ below (QW D (cEC ids ad) ad 59 (some (.int rv.1)) rv.2) args s 0 0 (inW ad 59)) (F0 m 0 ls []) := by
  intro h a1 H locs ls hf hP hS hl
  unfold f_X6_pierOf at hf
  refine lv_aload_n C.1 C.2.1 dX6_pierOf_0 rfl (lv_at hl 0 rfl) ?_
  refine gf_X6_19 C hk hP dX6_pierOf_1 ?_
  refine lv_iload_n C.1 C.2.1 dX6_pierOf_4 rfl (lv_at hl 1 rfl) ?_
  refine lv_iadd C.1 C.2.1 dX6_pierOf_5 ?_
  refine lv_iconst (v := (2 : Int32)) C.1 C.2.1 dX6_pierOf_6 (by decide) ?_
  refine lv_irem C.1 C.2.1 dX6_pierOf_7 (by decide) ?_
  obtain rfl := Option.some.inj hf
  exact u_iret C hP hS dX6_pierOf_8
theorem c_X6_pierOf (l : Launch) (D : va_G) (ids : Nat → ClassId) (ad tt : Nat → Nat) (hA : adOk ad 59) {k : Nat} (hk : isX6 k) {a1 : Int32} {h : Hp} {rv : Int32 × Hp} (hf : f_X6_pierOf h k a1 = some rv) : Met l yX6_pierOf (ws_ yX6_pierOf cX6_pierOf 2 (some .int)) rm_X6_pierOf (va_Pc [.ref (ad k), .int a1] (WB D ids (cEC ids ad) ad 59 (ExC tt ad) h)) (QW D (cEC ids ad) ad 59 (some (.int rv.1)) rv.2) 0 0 (inW ad 59) :=
  u_met (own := RX6) (by decide) rfl (Nat.le_of_ble_eq_true rfl) rfl (fun p e s m args below meth c H ls C hX hP hS hl => w_X6_pierOf (tt := tt) hA C hX hk _ _ _ _ _ hf hP hS hl)
abbrev rm_X1_placeOf : Room := { frames := 0, cells := 0, slots := 0, locals := 0 }
set_option maxRecDepth 100000 in
set_option maxHeartbeats 4000000 in
theorem w_X1_placeOf {p : Program} {l : Launch} {e : Env} {s : State} {m : MethodId} {args : Array Value} {below : List Frame} {meth : Method} {c : Code} {D : va_G} {ids : Nat → ClassId} {ad tt : Nat → Nat} {rv : Int32 × Hp} (hA : adOk ad 59) (C : CX p s m args meth c cX1_placeOf 2 (some .int) RX1 D ids) (hX : (ExC tt ad) s s.heap) : ∀ (h : Hp) (a1 : Int32) (a2 : Int32) (H : Heap) (locs : List Loc) (ls : Array Slot), f_X1_placeOf h a1 a2 = some rv → wp D (cEC ids ad) ad 59 h H → va_S (inW ad 59) s.heap H locs → lv_has ls 2 [(0, .int a1), (1, .int a2)] → W p l e rm_X1_placeOf s m args below meth c H locs 0 0 (MQ below (QW D (cEC ids ad) ad 59 (some (.int rv.1)) rv.2) args s 0 0 (inW ad 59)) (F0 m 0 ls []) := by
  intro h a1 a2 H locs ls hf hP hS hl
  unfold f_X1_placeOf at hf
  refine lv_iload_n C.1 C.2.1 dX1_placeOf_0 rfl (lv_at hl 0 rfl) ?_
  refine lv_iconst (v := (2 : Int32)) C.1 C.2.1 dX1_placeOf_1 (by decide) ?_
  refine lv_imul C.1 C.2.1 dX1_placeOf_2 ?_
  refine lv_iload_n C.1 C.2.1 dX1_placeOf_3 rfl (lv_at hl 1 rfl) ?_
  refine lv_iadd C.1 C.2.1 dX1_placeOf_4 ?_
  obtain rfl := Option.some.inj hf
  exact u_iret C hP hS dX1_placeOf_5
theorem c_X1_placeOf (l : Launch) (D : va_G) (ids : Nat → ClassId) (ad tt : Nat → Nat) (hA : adOk ad 59) {a1 : Int32} {a2 : Int32} {h : Hp} {rv : Int32 × Hp} (hf : f_X1_placeOf h a1 a2 = some rv) : Met l yX1_placeOf (ws_ yX1_placeOf cX1_placeOf 2 (some .int)) rm_X1_placeOf (va_Pc [.int a1, .int a2] (WB D ids (cEC ids ad) ad 59 (ExC tt ad) h)) (QW D (cEC ids ad) ad 59 (some (.int rv.1)) rv.2) 0 0 (inW ad 59) :=
  u_met (own := RX1) (by decide) rfl (Nat.le_of_ble_eq_true rfl) rfl (fun p e s m args below meth c H ls C hX hP hS hl => w_X1_placeOf (tt := tt) hA C hX _ _ _ _ _ _ hf hP hS hl)
theorem gf_X1_18 {p : Program} {l : Launch} {e : Env} {R : Room} {s : State} {m : MethodId} {args : Array Value} {below : List Frame} {meth : Method} {c : Code} {H : Heap} {locs : List Loc} {cells slots : Nat} {Q : State → Prop} {cc : ByteArray} {nL : Nat} {ret : Option FieldType} {pc : Nat} {ls : Array Slot} {rest : List Value} {D : va_G} {ids : Nat → ClassId} {ad : Nat → Nat} {h : Hp} (C : CX p s m args meth c cc nL ret RX1 D ids) (hP : wp D (cEC ids ad) ad 59 h H) (hdg : decode cc pc = .ok (.getfield 18, 3)) (kk : W p l e R s m args below meth c H locs cells slots Q (F0 m (pc + 3) ls (.ref (ad 41) :: rest))) : W p l e R s m args below meth c H locs cells slots Q (F0 m pc ls (.ref (ad 39) :: rest)) :=
  u_get C hP (by decide) cE_X1 rfl inX1 1 (by decide) rfl q_79 hdg kk
theorem ln_aU {p : Program} {l : Launch} {e : Env} {R : Room} {s : State} {m : MethodId} {args : Array Value} {below : List Frame} {meth : Method} {c : Code} {H : Heap} {locs : List Loc} {cells slots : Nat} {Q : State → Prop} {cc : ByteArray} {nL : Nat} {ret : Option FieldType} {own : String} {pc : Nat} {ls : Array Slot} {rest : List Value} {D : va_G} {ids : Nat → ClassId} {ad : Nat → Nat} {h : Hp} (C : CX p s m args meth c cc nL ret own D ids) (hP : wp D (cEC ids ad) ad 59 h H) (hdg : decode cc pc = .ok (.arraylength, 1)) (kk : W p l e R s m args below meth c H locs cells slots Q (F0 m (pc + 1) ls (.int (48 : Int32) :: rest))) : W p l e R s m args below meth c H locs cells slots Q (F0 m pc ls (.ref (ad 41) :: rest)) :=
  u_alen C hP 1 rfl (by decide) (cE_aU _) rfl hdg kk
theorem al_aU {p : Program} {l : Launch} {e : Env} {R : Room} {s : State} {m : MethodId} {args : Array Value} {below : List Frame} {meth : Method} {c : Code} {H : Heap} {locs : List Loc} {cells slots : Nat} {Q : State → Prop} {cc : ByteArray} {nL : Nat} {ret : Option FieldType} {own : String} {pc : Nat} {ls : Array Slot} {rest : List Value} {D : va_G} {ids : Nat → ClassId} {ad : Nat → Nat} {h : Hp} (C : CX p s m args meth c cc nL ret own D ids) (hP : wp D (cEC ids ad) ad 59 h H) {i : Int32} (hg : inb i 48 = true) (hdg : decode cc pc = .ok (.iaload, 1)) (kk : W p l e R s m args below meth c H locs cells slots Q (F0 m (pc + 1) ls (.int (h 41 i.toNatClampNeg) :: rest))) : W p l e R s m args below meth c H locs cells slots Q (F0 m pc ls (.int i :: .ref (ad 41) :: rest)) :=
  u_iald C hP (by decide) cE_aU hg hdg kk
theorem as_aU {p : Program} {l : Launch} {e : Env} {R : Room} {s : State} {m : MethodId} {args : Array Value} {below : List Frame} {meth : Method} {c : Code} {H : Heap} {locs : List Loc} {cells slots : Nat} {Q : State → Prop} {cc : ByteArray} {nL : Nat} {ret : Option FieldType} {own : String} {pc : Nat} {ls : Array Slot} {rest : List Value} {D : va_G} {ids : Nat → ClassId} {ad : Nat → Nat} {h : Hp} {i x : Int32} (hA : adOk ad 59) (C : CX p s m args meth c cc nL ret own D ids) (hP : wp D (cEC ids ad) ad 59 h H) (hS : va_S (inW ad 59) s.heap H locs) (hg : inb i 48 = true) (hdg : decode cc pc = .ok (.iastore, 1)) (kk : ∀ (H1 : Heap) (locs1 : List Loc), wp D (cEC ids ad) ad 59 (hs h 41 i.toNatClampNeg x) H1 → va_S (inW ad 59) s.heap H1 locs1 → W p l e R s m args below meth c H1 locs1 cells slots Q (F0 m (pc + 1) ls rest)) : W p l e R s m args below meth c H locs cells slots Q (F0 m pc ls (.int x :: .int i :: .ref (ad 41) :: rest)) :=
  u_iast hA C hP hS (by decide) cE_aU hg hdg kk
abbrev rm_X1_noteUse : Room := { frames := 0, cells := 0, slots := 0, locals := 0 }
set_option maxRecDepth 100000 in
set_option maxHeartbeats 4000000 in
theorem w_X1_noteUse {p : Program} {l : Launch} {e : Env} {s : State} {m : MethodId} {args : Array Value} {below : List Frame} {meth : Method} {c : Code} {D : va_G} {ids : Nat → ClassId} {ad tt : Nat → Nat} {rv : Hp} (hA : adOk ad 59) (C : CX p s m args meth c cX1_noteUse 3 none RX1 D ids) (hX : (ExC tt ad) s s.heap) : ∀ (h : Hp) (a1 : Int32) (a2 : Int32) (H : Heap) (locs : List Loc) (ls : Array Slot), f_X1_noteUse h a1 a2 = some rv → wp D (cEC ids ad) ad 59 h H → va_S (inW ad 59) s.heap H locs → lv_has ls 3 [(0, .ref (ad 39)), (1, .int a1), (2, .int a2)] → W p l e rm_X1_noteUse s m args below meth c H locs 0 0 (MQ below (QW D (cEC ids ad) ad 59 none rv) args s 0 0 (inW ad 59)) (F0 m 0 ls []) := by
  intro h a1 a2 H locs ls hf hP hS hl
  unfold f_X1_noteUse at hf
  refine lv_iload_n C.1 C.2.1 dX1_noteUse_0 rfl (lv_at hl 1 rfl) ?_
  refine lv_if_lt (tgt := 23) C.1 C.2.1 dX1_noteUse_1 (by decide) (fun hc => ?_) (fun hc => ?_)
  · have hf := g_t hc hf
    obtain rfl := Option.some.inj hf
    exact u_vret C hP hS dX1_noteUse_23
  · have hf := g_f hc hf
    refine lv_iload_n C.1 C.2.1 dX1_noteUse_4 rfl (lv_at hl 1 rfl) ?_
    refine lv_aload_n C.1 C.2.1 dX1_noteUse_5 rfl (lv_at hl 0 rfl) ?_
    refine gf_X1_18 C hP dX1_noteUse_6 ?_
    refine ln_aU C hP dX1_noteUse_9 ?_
    refine lv_icmp_ge (tgt := 23) C.1 C.2.1 dX1_noteUse_10 (by decide) (fun hc => ?_) (fun hc => ?_)
    · have hf := g_t hc hf
      obtain rfl := Option.some.inj hf
      exact u_vret C hP hS dX1_noteUse_23
    · have hf := g_f hc hf
      refine lv_aload_n C.1 C.2.1 dX1_noteUse_13 rfl (lv_at hl 0 rfl) ?_
      refine gf_X1_18 C hP dX1_noteUse_14 ?_
      refine lv_iload_n C.1 C.2.1 dX1_noteUse_17 rfl (lv_at hl 1 rfl) ?_
      refine lv_dup2_11 C.1 C.2.1 dX1_noteUse_18 rfl rfl ?_
      obtain ⟨hg, hf⟩ := g_if hf
      refine al_aU C hP hg dX1_noteUse_19 ?_
      refine lv_iload_n C.1 C.2.1 dX1_noteUse_20 rfl (lv_at hl 2 rfl) ?_
      refine lv_ior C.1 C.2.1 dX1_noteUse_21 ?_
      obtain ⟨hg, hf⟩ := g_if hf
      refine as_aU hA C hP hS hg dX1_noteUse_22 (fun H locs hP hS => ?_)
      obtain rfl := Option.some.inj hf
      exact u_vret C hP hS dX1_noteUse_23
theorem c_X1_noteUse (l : Launch) (D : va_G) (ids : Nat → ClassId) (ad tt : Nat → Nat) (hA : adOk ad 59) {a1 : Int32} {a2 : Int32} {h : Hp} {rv : Hp} (hf : f_X1_noteUse h a1 a2 = some rv) : Met l yX1_noteUse (ws_ yX1_noteUse cX1_noteUse 3 none) rm_X1_noteUse (va_Pc [.ref (ad 39), .int a1, .int a2] (WB D ids (cEC ids ad) ad 59 (ExC tt ad) h)) (QW D (cEC ids ad) ad 59 none rv) 0 0 (inW ad 59) :=
  u_met (own := RX1) (by decide) rfl (Nat.le_of_ble_eq_true rfl) rfl (fun p e s m args below meth c H ls C hX hP hS hl => w_X1_noteUse (tt := tt) hA C hX _ _ _ _ _ _ hf hP hS hl)
theorem gf_X1_36 {p : Program} {l : Launch} {e : Env} {R : Room} {s : State} {m : MethodId} {args : Array Value} {below : List Frame} {meth : Method} {c : Code} {H : Heap} {locs : List Loc} {cells slots : Nat} {Q : State → Prop} {cc : ByteArray} {nL : Nat} {ret : Option FieldType} {pc : Nat} {ls : Array Slot} {rest : List Value} {D : va_G} {ids : Nat → ClassId} {ad : Nat → Nat} {h : Hp} (C : CX p s m args meth c cc nL ret RX1 D ids) {k : Nat} (hk : isX6 k) (hP : wp D (cEC ids ad) ad 59 h H) (hdg : decode cc pc = .ok (.getfield 36, 3)) (kk : W p l e R s m args below meth c H locs cells slots Q (F0 m (pc + 3) ls (.int (h k 1) :: rest))) : W p l e R s m args below meth c H locs cells slots Q (F0 m pc ls (.ref (ad k) :: rest)) :=
  u_get C hP (lt_X6 hk) (cE_X6 hk) rfl inX6 1 (by decide) rfl q_555 hdg kk
theorem cv_X1_40 {p : Program} {l : Launch} {e : Env} {R : Room} {s : State} {m : MethodId} {args : Array Value} {below : List Frame} {meth : Method} {c : Code} {H : Heap} {locs : List Loc} {Q : State → Prop} {cc : ByteArray} {nL : Nat} {ret : Option FieldType} {pc : Nat} {ls : Array Slot} {rest : List Value} {D : va_G} {ids : Nat → ClassId} {ad tt : Nat → Nat} {h : Hp} (hA : adOk ad 59) (C : CX p s m args meth c cc nL ret RX1 D ids) (hX : (ExC tt ad) s s.heap) (hP : wp D (cEC ids ad) ad 59 h H) (hS : va_S (inW ad 59) s.heap H locs) {k : Nat} (hk : isX6 k) {a1 : Int32} {rv : Int32 × Hp} (hf : f_X6_hourOf h k a1 = some rv) (hR : 1 + 1 ≤ R.frames ∧ 8 + (2 + 11) + 21 ≤ R.locals) (hsz : ls.size = nL) (hcat : (rest.map fun v => v.category).sum ≤ 8) (hdg : decode cc pc = .ok (.invokevirtual 40, 3)) (kk : ∀ (H1 : Heap) (locs1 : List Loc), wp D (cEC ids ad) ad 59 rv.2 H1 → va_S (inW ad 59) s.heap H1 locs1 → W p l e R s m args below meth c H1 locs1 0 0 Q (F0 m (pc + 3) ls (.int rv.1 :: rest))) : W p l e R s m args below meth c H locs 0 0 Q (F0 m pc ls (.int a1 :: .ref (ad k) :: rest)) :=
  u_callV (As := [.int a1]) (rv := (some (.int rv.1))) C (exC_ok hA) hX (c_X6_hourOf l D ids ad tt hA hk hf) q_556 q_347 q_348 q_76 q_349 ⟨rfl, rfl⟩ (by refine ⟨by decide +kernel, by decide +kernel, ?_⟩; show _ = some 1; decide +kernel) hR (lt_X6 hk) (cE_X6 hk _) rfl hP hS hsz hcat rfl hdg kk
theorem cv_X1_44 {p : Program} {l : Launch} {e : Env} {R : Room} {s : State} {m : MethodId} {args : Array Value} {below : List Frame} {meth : Method} {c : Code} {H : Heap} {locs : List Loc} {Q : State → Prop} {cc : ByteArray} {nL : Nat} {ret : Option FieldType} {pc : Nat} {ls : Array Slot} {rest : List Value} {D : va_G} {ids : Nat → ClassId} {ad tt : Nat → Nat} {h : Hp} (hA : adOk ad 59) (C : CX p s m args meth c cc nL ret RX1 D ids) (hX : (ExC tt ad) s s.heap) (hP : wp D (cEC ids ad) ad 59 h H) (hS : va_S (inW ad 59) s.heap H locs) {k : Nat} (hk : isX6 k) {a1 : Int32} {rv : Int32 × Hp} (hf : f_X6_pierOf h k a1 = some rv) (hR : 0 + 1 ≤ R.frames ∧ 8 + (2 + 11) + 0 ≤ R.locals) (hsz : ls.size = nL) (hcat : (rest.map fun v => v.category).sum ≤ 8) (hdg : decode cc pc = .ok (.invokevirtual 44, 3)) (kk : ∀ (H1 : Heap) (locs1 : List Loc), wp D (cEC ids ad) ad 59 rv.2 H1 → va_S (inW ad 59) s.heap H1 locs1 → W p l e R s m args below meth c H1 locs1 0 0 Q (F0 m (pc + 3) ls (.int rv.1 :: rest))) : W p l e R s m args below meth c H locs 0 0 Q (F0 m pc ls (.int a1 :: .ref (ad k) :: rest)) :=
  u_callV (As := [.int a1]) (rv := (some (.int rv.1))) C (exC_ok hA) hX (c_X6_pierOf l D ids ad tt hA hk hf) q_557 q_558 q_559 q_76 q_560 ⟨rfl, rfl⟩ (by refine ⟨by decide +kernel, by decide +kernel, ?_⟩; show _ = some 1; decide +kernel) hR (lt_X6 hk) (cE_X6 hk _) rfl hP hS hsz hcat rfl hdg kk
theorem cv_X1_47 {p : Program} {l : Launch} {e : Env} {R : Room} {s : State} {m : MethodId} {args : Array Value} {below : List Frame} {meth : Method} {c : Code} {H : Heap} {locs : List Loc} {Q : State → Prop} {cc : ByteArray} {nL : Nat} {ret : Option FieldType} {pc : Nat} {ls : Array Slot} {rest : List Value} {D : va_G} {ids : Nat → ClassId} {ad tt : Nat → Nat} {h : Hp} (hA : adOk ad 59) (C : CX p s m args meth c cc nL ret RX1 D ids) (hX : (ExC tt ad) s s.heap) (hP : wp D (cEC ids ad) ad 59 h H) (hS : va_S (inW ad 59) s.heap H locs) {a1 : Int32} {a2 : Int32} {rv : Int32 × Hp} (hf : f_X1_placeOf h a1 a2 = some rv) (hR : 0 + 1 ≤ R.frames ∧ 8 + (2 + 11) + 0 ≤ R.locals) (hsz : ls.size = nL) (hcat : (rest.map fun v => v.category).sum ≤ 8) (hdg : decode cc pc = .ok (.invokestatic 47, 3)) (kk : ∀ (H1 : Heap) (locs1 : List Loc), wp D (cEC ids ad) ad 59 rv.2 H1 → va_S (inW ad 59) s.heap H1 locs1 → W p l e R s m args below meth c H1 locs1 0 0 Q (F0 m (pc + 3) ls (.int rv.1 :: rest))) : W p l e R s m args below meth c H locs 0 0 Q (F0 m pc ls (.int a2 :: .int a1 :: rest)) :=
  u_callS (As := [.int a1, .int a2]) (rv := (some (.int rv.1))) C (exC_ok hA) hX (c_X1_placeOf l D ids ad tt hA hf) q_561 q_562 q_27 q_563 ⟨rfl, rfl⟩ (by refine ⟨by decide +kernel, by decide +kernel, ?_⟩; show _ = some 2; decide +kernel) hR hP hS hsz hcat rfl hdg kk
theorem cv_X1_51 {p : Program} {l : Launch} {e : Env} {R : Room} {s : State} {m : MethodId} {args : Array Value} {below : List Frame} {meth : Method} {c : Code} {H : Heap} {locs : List Loc} {Q : State → Prop} {cc : ByteArray} {nL : Nat} {ret : Option FieldType} {pc : Nat} {ls : Array Slot} {rest : List Value} {D : va_G} {ids : Nat → ClassId} {ad tt : Nat → Nat} {h : Hp} (hA : adOk ad 59) (C : CX p s m args meth c cc nL ret RX1 D ids) (hX : (ExC tt ad) s s.heap) (hP : wp D (cEC ids ad) ad 59 h H) (hS : va_S (inW ad 59) s.heap H locs) {a1 : Int32} {a2 : Int32} {rv : Hp} (hf : f_X1_noteUse h a1 a2 = some rv) (hR : 0 + 1 ≤ R.frames ∧ 8 + (3 + 11) + 0 ≤ R.locals) (hsz : ls.size = nL) (hcat : (rest.map fun v => v.category).sum ≤ 8) (hdg : decode cc pc = .ok (.invokevirtual 51, 3)) (kk : ∀ (H1 : Heap) (locs1 : List Loc), wp D (cEC ids ad) ad 59 rv H1 → va_S (inW ad 59) s.heap H1 locs1 → W p l e R s m args below meth c H1 locs1 0 0 Q (F0 m (pc + 3) ls (rest))) : W p l e R s m args below meth c H locs 0 0 Q (F0 m pc ls (.int a2 :: .int a1 :: .ref (ad 39) :: rest)) :=
  u_callV (As := [.int a1, .int a2]) (rv := none) C (exC_ok hA) hX (c_X1_noteUse l D ids ad tt hA hf) q_564 q_565 q_566 q_27 q_567 ⟨rfl, rfl⟩ (by refine ⟨by decide +kernel, by decide +kernel, ?_⟩; show _ = some 2; decide +kernel) hR (by decide) (cE_X1 _) rfl hP hS hsz hcat rfl hdg kk
abbrev rm_X1_noteUses : Room := { frames := 2, cells := 0, slots := 0, locals := 42 }
set_option maxRecDepth 100000 in
set_option maxHeartbeats 4000000 in
theorem w_X1_noteUses_2 {p : Program} {l : Launch} {e : Env} {s : State} {m : MethodId} {args : Array Value} {below : List Frame} {meth : Method} {c : Code} {D : va_G} {ids : Nat → ClassId} {ad tt : Nat → Nat} {rv : Hp} (hA : adOk ad 59) (C : CX p s m args meth c cX1_noteUses 5 none RX1 D ids) (hX : (ExC tt ad) s s.heap) {k1 : Nat} (hk1 : isX6 k1) : ∀ (fu : Nat), ∀ (h : Hp) (x2 : Int32) (x3 : Int32) (H : Heap) (locs : List Loc) (ls : Array Slot), f_X1_noteUses_2 k1 fu h x2 x3 = some rv → wp D (cEC ids ad) ad 59 h H → va_S (inW ad 59) s.heap H locs → lv_has ls 5 [(0, .ref (ad 39)), (1, .ref (ad k1)), (2, .int x2), (3, .int x3)] → W p l e rm_X1_noteUses s m args below meth c H locs 0 0 (MQ below (QW D (cEC ids ad) ad 59 none rv) args s 0 0 (inW ad 59)) (F0 m 2 ls []) := by
  intro fu
  induction fu with
  | zero =>
    intro h x2 x3 H locs ls hf hP hS hl
    cases hf
  | succ fu ih =>
    intro h x2 x3 H locs ls hf hP hS hl
    rw [f_X1_noteUses_2_s] at hf
    refine lv_iload_n C.1 C.2.1 dX1_noteUses_2 rfl (lv_at hl 3 rfl) ?_
    refine lv_aload_n C.1 C.2.1 dX1_noteUses_3 rfl (lv_at hl 1 rfl) ?_
    refine gf_X1_36 C hk1 hP dX1_noteUses_4 ?_
    refine lv_icmp_ge (tgt := 57) C.1 C.2.1 dX1_noteUses_7 (by decide) (fun hc => ?_) (fun hc => ?_)
    · have hf := g_t hc hf
      obtain rfl := Option.some.inj hf
      exact u_vret C hP hS dX1_noteUses_57
    · have hf := g_f hc hf
      refine lv_aload_n C.1 C.2.1 dX1_noteUses_10 rfl (lv_at hl 1 rfl) ?_
      refine lv_iload_n C.1 C.2.1 dX1_noteUses_11 rfl (lv_at hl 3 rfl) ?_
      obtain ⟨q1, eq1, hf⟩ := g_b hf
      refine cv_X1_40 hA C hX hP hS hk1 eq1 ⟨Nat.le_of_ble_eq_true rfl, Nat.le_of_ble_eq_true rfl⟩ hl.1 (Nat.le_of_ble_eq_true rfl) dX1_noteUses_12 (fun H locs hP hS => ?_)
      refine lv_istore (lv' := [(4, .int q1.1), (0, .ref (ad 39)), (1, .ref (ad k1)), (2, .int x2), (3, .int x3)]) C.1 C.2.1 dX1_noteUses_15 hl (by decide) rfl (fun ls hl => ?_)
      refine lv_aload_n C.1 C.2.1 dX1_noteUses_17 rfl (lv_at hl 1 rfl) ?_
      refine lv_iload C.1 C.2.1 dX1_noteUses_18 (lv_at hl 0 rfl) ?_
      refine lv_aload_n C.1 C.2.1 dX1_noteUses_20 rfl (lv_at hl 2 rfl) ?_
      refine lv_iload_n C.1 C.2.1 dX1_noteUses_21 rfl (lv_at hl 4 rfl) ?_
      obtain ⟨q2, eq2, hf⟩ := g_b hf
      refine cv_X1_44 hA C hX hP hS hk1 eq2 ⟨Nat.le_of_ble_eq_true rfl, Nat.le_of_ble_eq_true rfl⟩ hl.1 (Nat.le_of_ble_eq_true rfl) dX1_noteUses_22 (fun H locs hP hS => ?_)
      obtain ⟨q3, eq3, hf⟩ := g_b hf
      refine cv_X1_47 hA C hX hP hS eq3 ⟨Nat.le_of_ble_eq_true rfl, Nat.le_of_ble_eq_true rfl⟩ hl.1 (Nat.le_of_ble_eq_true rfl) dX1_noteUses_25 (fun H locs hP hS => ?_)
      refine lv_iload_n C.1 C.2.1 dX1_noteUses_28 rfl (lv_at hl 3 rfl) ?_
      obtain ⟨q4, eq4, hf⟩ := g_b hf
      refine cv_X1_51 hA C hX hP hS eq4 ⟨Nat.le_of_ble_eq_true rfl, Nat.le_of_ble_eq_true rfl⟩ hl.1 (Nat.le_of_ble_eq_true rfl) dX1_noteUses_29 (fun H locs hP hS => ?_)
      refine lv_aload_n C.1 C.2.1 dX1_noteUses_32 rfl (lv_at hl 1 rfl) ?_
      refine lv_iload C.1 C.2.1 dX1_noteUses_33 (lv_at hl 0 rfl) ?_
      refine lv_iconst (v := (2 : Int32)) C.1 C.2.1 dX1_noteUses_35 (by decide) ?_
      refine lv_iadd C.1 C.2.1 dX1_noteUses_36 ?_
      refine lv_aload_n C.1 C.2.1 dX1_noteUses_37 rfl (lv_at hl 2 rfl) ?_
      refine lv_iload_n C.1 C.2.1 dX1_noteUses_38 rfl (lv_at hl 4 rfl) ?_
      refine lv_iconst (v := (1 : Int32)) C.1 C.2.1 dX1_noteUses_39 (by decide) ?_
      refine lv_iadd C.1 C.2.1 dX1_noteUses_40 ?_
      obtain ⟨q5, eq5, hf⟩ := g_b hf
      refine cv_X1_44 hA C hX hP hS hk1 eq5 ⟨Nat.le_of_ble_eq_true rfl, Nat.le_of_ble_eq_true rfl⟩ hl.1 (Nat.le_of_ble_eq_true rfl) dX1_noteUses_41 (fun H locs hP hS => ?_)
      obtain ⟨q6, eq6, hf⟩ := g_b hf
      refine cv_X1_47 hA C hX hP hS eq6 ⟨Nat.le_of_ble_eq_true rfl, Nat.le_of_ble_eq_true rfl⟩ hl.1 (Nat.le_of_ble_eq_true rfl) dX1_noteUses_44 (fun H locs hP hS => ?_)
      refine lv_iload_n C.1 C.2.1 dX1_noteUses_47 rfl (lv_at hl 3 rfl) ?_
      obtain ⟨q7, eq7, hf⟩ := g_b hf
      refine cv_X1_51 hA C hX hP hS eq7 ⟨Nat.le_of_ble_eq_true rfl, Nat.le_of_ble_eq_true rfl⟩ hl.1 (Nat.le_of_ble_eq_true rfl) dX1_noteUses_48 (fun H locs hP hS => ?_)
      refine lv_iinc (v := (x3 + 1)) (lv' := [(3, .int (x3 + 1)), (4, .int q1.1), (0, .ref (ad 39)), (1, .ref (ad k1)), (2, .int x2)]) C.1 C.2.1 dX1_noteUses_51 hl (k := 4) rfl (by rfl) (by decide) rfl (fun ls hl => ?_)
      refine lv_goto (tgt := 2) C.1 C.2.1 dX1_noteUses_54 (by decide) ?_
      exact ih _ _ _ _ _ _ hf hP hS (lv_sub hl [2, 3, 4, 0] rfl)
set_option maxRecDepth 100000 in
set_option maxHeartbeats 4000000 in
theorem w_X1_noteUses {p : Program} {l : Launch} {e : Env} {s : State} {m : MethodId} {args : Array Value} {below : List Frame} {meth : Method} {c : Code} {D : va_G} {ids : Nat → ClassId} {ad tt : Nat → Nat} {rv : Hp} (hA : adOk ad 59) (C : CX p s m args meth c cX1_noteUses 5 none RX1 D ids) (hX : (ExC tt ad) s s.heap) {k1 : Nat} (hk1 : isX6 k1) : ∀ (h : Hp) (a2 : Int32) (H : Heap) (locs : List Loc) (ls : Array Slot), f_X1_noteUses h k1 a2 = some rv → wp D (cEC ids ad) ad 59 h H → va_S (inW ad 59) s.heap H locs → lv_has ls 5 [(0, .ref (ad 39)), (1, .ref (ad k1)), (2, .int a2)] → W p l e rm_X1_noteUses s m args below meth c H locs 0 0 (MQ below (QW D (cEC ids ad) ad 59 none rv) args s 0 0 (inW ad 59)) (F0 m 0 ls []) := by
  intro h a2 H locs ls hf hP hS hl
  unfold f_X1_noteUses at hf
  refine lv_iconst (v := (0 : Int32)) C.1 C.2.1 dX1_noteUses_0 (by decide) ?_
  refine lv_istore_n (lv' := [(3, .int (0 : Int32)), (0, .ref (ad 39)), (1, .ref (ad k1)), (2, .int a2)]) C.1 C.2.1 dX1_noteUses_1 rfl hl (by decide) rfl (fun ls hl => ?_)
  exact w_X1_noteUses_2 hA C hX hk1 _ _ _ _ _ _ _ hf hP hS (lv_sub hl [1, 2, 3, 0] rfl)
theorem c_X1_noteUses (l : Launch) (D : va_G) (ids : Nat → ClassId) (ad tt : Nat → Nat) (hA : adOk ad 59) {k1 : Nat} (hk1 : isX6 k1) {a2 : Int32} {h : Hp} {rv : Hp} (hf : f_X1_noteUses h k1 a2 = some rv) : Met l yX1_noteUses (ws_ yX1_noteUses cX1_noteUses 5 none) rm_X1_noteUses (va_Pc [.ref (ad 39), .ref (ad k1), .int a2] (WB D ids (cEC ids ad) ad 59 (ExC tt ad) h)) (QW D (cEC ids ad) ad 59 none rv) 0 0 (inW ad 59) :=
  u_met (own := RX1) (by decide) rfl (Nat.le_of_ble_eq_true rfl) rfl (fun p e s m args below meth c H ls C hX hP hS hl => w_X1_noteUses (tt := tt) hA C hX hk1 _ _ _ _ _ hf hP hS hl)
theorem gf_X1_12 {p : Program} {l : Launch} {e : Env} {R : Room} {s : State} {m : MethodId} {args : Array Value} {below : List Frame} {meth : Method} {c : Code} {H : Heap} {locs : List Loc} {cells slots : Nat} {Q : State → Prop} {cc : ByteArray} {nL : Nat} {ret : Option FieldType} {pc : Nat} {ls : Array Slot} {rest : List Value} {D : va_G} {ids : Nat → ClassId} {ad : Nat → Nat} {h : Hp} (C : CX p s m args meth c cc nL ret RX1 D ids) (hP : wp D (cEC ids ad) ad 59 h H) (hdg : decode cc pc = .ok (.getfield 12, 3)) (kk : W p l e R s m args below meth c H locs cells slots Q (F0 m (pc + 3) ls (.ref (ad 40) :: rest))) : W p l e R s m args below meth c H locs cells slots Q (F0 m pc ls (.ref (ad 39) :: rest)) :=
  u_get C hP (by decide) cE_X1 rfl inX1 0 (by decide) rfl q_77 hdg kk
theorem rl_aTt {p : Program} {l : Launch} {e : Env} {R : Room} {s : State} {m : MethodId} {args : Array Value} {below : List Frame} {meth : Method} {c : Code} {H : Heap} {locs : List Loc} {cells slots : Nat} {Q : State → Prop} {cc : ByteArray} {nL : Nat} {ret : Option FieldType} {own : String} {pc : Nat} {ls : Array Slot} {rest : List Value} {D : va_G} {ids : Nat → ClassId} {ad : Nat → Nat} {h : Hp} (C : CX p s m args meth c cc nL ret own D ids) (hP : wp D (cEC ids ad) ad 59 h H) {i : Int32} (hg : inb i 3 = true) (hdg : decode cc pc = .ok (.aaload, 1)) (kk : W p l e R s m args below meth c H locs cells slots Q (F0 m (pc + 1) ls (.ref (ad (42 + 2 * i.toNatClampNeg)) :: rest))) : W p l e R s m args below meth c H locs cells slots Q (F0 m pc ls (.int i :: .ref (ad 40) :: rest)) :=
  u_aald C hP 5 rfl (by decide) cE_aTt hg rfl hdg kk
theorem gf_X1_22 {p : Program} {l : Launch} {e : Env} {R : Room} {s : State} {m : MethodId} {args : Array Value} {below : List Frame} {meth : Method} {c : Code} {H : Heap} {locs : List Loc} {cells slots : Nat} {Q : State → Prop} {cc : ByteArray} {nL : Nat} {ret : Option FieldType} {pc : Nat} {ls : Array Slot} {rest : List Value} {D : va_G} {ids : Nat → ClassId} {ad : Nat → Nat} {h : Hp} (C : CX p s m args meth c cc nL ret RX1 D ids) {k : Nat} (hk : isX5 k) (hP : wp D (cEC ids ad) ad 59 h H) (hdg : decode cc pc = .ok (.getfield 22, 3)) (kk : W p l e R s m args below meth c H locs cells slots Q (F0 m (pc + 3) ls (.ref (ad (k + 1)) :: rest))) : W p l e R s m args below meth c H locs cells slots Q (F0 m pc ls (.ref (ad k) :: rest)) :=
  u_get C hP (lt_X5 hk) (cE_X5 hk) rfl inX5 0 (by decide) rfl q_549 hdg kk
theorem cv_X1_28 {p : Program} {l : Launch} {e : Env} {R : Room} {s : State} {m : MethodId} {args : Array Value} {below : List Frame} {meth : Method} {c : Code} {H : Heap} {locs : List Loc} {Q : State → Prop} {cc : ByteArray} {nL : Nat} {ret : Option FieldType} {pc : Nat} {ls : Array Slot} {rest : List Value} {D : va_G} {ids : Nat → ClassId} {ad tt : Nat → Nat} {h : Hp} (hA : adOk ad 59) (C : CX p s m args meth c cc nL ret RX1 D ids) (hX : (ExC tt ad) s s.heap) (hP : wp D (cEC ids ad) ad 59 h H) (hS : va_S (inW ad 59) s.heap H locs) {k : Nat} (hk : isX6 k) {k1 : Nat} (hk1 : isX2 k1) {rv : Hp} (hf : f_X6_print h k k1 = some rv) (hR : 2 + 1 ≤ R.frames ∧ 8 + (5 + 11) + 42 ≤ R.locals) (hsz : ls.size = nL) (hcat : (rest.map fun v => v.category).sum ≤ 8) (hdg : decode cc pc = .ok (.invokevirtual 28, 3)) (kk : ∀ (H1 : Heap) (locs1 : List Loc), wp D (cEC ids ad) ad 59 rv H1 → va_S (inW ad 59) s.heap H1 locs1 → W p l e R s m args below meth c H1 locs1 0 0 Q (F0 m (pc + 3) ls (rest))) : W p l e R s m args below meth c H locs 0 0 Q (F0 m pc ls (.ref (ad k1) :: .ref (ad k) :: rest)) :=
  u_callV (As := [.ref (ad k1)]) (rv := none) C (exC_ok hA) hX (c_X6_print l D ids ad tt hA hk hk1 hf) q_550 q_325 q_326 q_76 q_327 ⟨rfl, rfl⟩ (by refine ⟨by decide +kernel, by decide +kernel, ?_⟩; show _ = some 1; decide +kernel) hR (lt_X6 hk) (cE_X6 hk _) rfl hP hS hsz hcat rfl hdg kk
theorem cv_X1_32 {p : Program} {l : Launch} {e : Env} {R : Room} {s : State} {m : MethodId} {args : Array Value} {below : List Frame} {meth : Method} {c : Code} {H : Heap} {locs : List Loc} {Q : State → Prop} {cc : ByteArray} {nL : Nat} {ret : Option FieldType} {pc : Nat} {ls : Array Slot} {rest : List Value} {D : va_G} {ids : Nat → ClassId} {ad tt : Nat → Nat} {h : Hp} (hA : adOk ad 59) (C : CX p s m args meth c cc nL ret RX1 D ids) (hX : (ExC tt ad) s s.heap) (hP : wp D (cEC ids ad) ad 59 h H) (hS : va_S (inW ad 59) s.heap H locs) {k1 : Nat} (hk1 : isX6 k1) {a2 : Int32} {rv : Hp} (hf : f_X1_noteUses h k1 a2 = some rv) (hR : 2 + 1 ≤ R.frames ∧ 8 + (5 + 11) + 42 ≤ R.locals) (hsz : ls.size = nL) (hcat : (rest.map fun v => v.category).sum ≤ 8) (hdg : decode cc pc = .ok (.invokevirtual 32, 3)) (kk : ∀ (H1 : Heap) (locs1 : List Loc), wp D (cEC ids ad) ad 59 rv H1 → va_S (inW ad 59) s.heap H1 locs1 → W p l e R s m args below meth c H1 locs1 0 0 Q (F0 m (pc + 3) ls (rest))) : W p l e R s m args below meth c H locs 0 0 Q (F0 m pc ls (.int a2 :: .ref (ad k1) :: .ref (ad 39) :: rest)) :=
  u_callV (As := [.ref (ad k1), .int a2]) (rv := none) C (exC_ok hA) hX (c_X1_noteUses l D ids ad tt hA hk1 hf) q_551 q_552 q_553 q_27 q_554 ⟨rfl, rfl⟩ (by refine ⟨by decide +kernel, by decide +kernel, ?_⟩; show _ = some 2; decide +kernel) hR (by decide) (cE_X1 _) rfl hP hS hsz hcat rfl hdg kk
abbrev rm_X1_print : Room := { frames := 3, cells := 0, slots := 0, locals := 66 }
set_option maxRecDepth 100000 in
set_option maxHeartbeats 4000000 in
theorem w_X1_print_26 {p : Program} {l : Launch} {e : Env} {s : State} {m : MethodId} {args : Array Value} {below : List Frame} {meth : Method} {c : Code} {D : va_G} {ids : Nat → ClassId} {ad tt : Nat → Nat} {rv : Hp} (hA : adOk ad 59) (C : CX p s m args meth c cX1_print 3 none RX1 D ids) (hX : (ExC tt ad) s s.heap) {k1 : Nat} (hk1 : isX5 k1) : ∀ (fu : Nat), ∀ (h : Hp) (x2 : Int32) (H : Heap) (locs : List Loc) (ls : Array Slot), f_X1_print_26 k1 fu h x2 = some rv → wp D (cEC ids ad) ad 59 h H → va_S (inW ad 59) s.heap H locs → lv_has ls 3 [(0, .ref (ad 39)), (1, .ref (ad k1)), (2, .int x2)] → W p l e rm_X1_print s m args below meth c H locs 0 0 (MQ below (QW D (cEC ids ad) ad 59 none rv) args s 0 0 (inW ad 59)) (F0 m 26 ls []) := by
  intro fu
  induction fu with
  | zero =>
    intro h x2 H locs ls hf hP hS hl
    cases hf
  | succ fu ih =>
    intro h x2 H locs ls hf hP hS hl
    rw [f_X1_print_26_s] at hf
    refine lv_iload_n C.1 C.2.1 dX1_print_26 rfl (lv_at hl 2 rfl) ?_
    refine lv_iconst (v := (3 : Int32)) C.1 C.2.1 dX1_print_27 (by decide) ?_
    refine lv_icmp_ge (tgt := 65) C.1 C.2.1 dX1_print_28 (by decide) (fun hc => ?_) (fun hc => ?_)
    · have hf := g_t hc hf
      obtain rfl := Option.some.inj hf
      exact u_vret C hP hS dX1_print_65
    · have hf := g_f hc hf
      refine lv_aload_n C.1 C.2.1 dX1_print_31 rfl (lv_at hl 0 rfl) ?_
      refine gf_X1_12 C hP dX1_print_32 ?_
      refine lv_iload_n C.1 C.2.1 dX1_print_35 rfl (lv_at hl 2 rfl) ?_
      obtain ⟨hg1, hf⟩ := g_if hf
      refine rl_aTt C hP hg1 dX1_print_36 ?_
      refine lv_aload_n C.1 C.2.1 dX1_print_37 rfl (lv_at hl 1 rfl) ?_
      refine gf_X1_22 C hk1 hP dX1_print_38 ?_
      refine lv_iload_n C.1 C.2.1 dX1_print_41 rfl (lv_at hl 2 rfl) ?_
      obtain ⟨hg2, hf⟩ := g_if hf
      refine rl_aCap C (cap_of hk1) hP hg2 dX1_print_42 ?_
      obtain ⟨q3, eq3, hf⟩ := g_b hf
      refine cv_X1_28 hA C hX hP hS (tt_el hg1) (cp_el (cap_of hk1) hg2) eq3 ⟨Nat.le_of_ble_eq_true rfl, Nat.le_of_ble_eq_true rfl⟩ hl.1 (Nat.le_of_ble_eq_true rfl) dX1_print_43 (fun H locs hP hS => ?_)
      refine lv_aload_n C.1 C.2.1 dX1_print_46 rfl (lv_at hl 0 rfl) ?_
      refine lv_aload_n C.1 C.2.1 dX1_print_47 rfl (lv_at hl 0 rfl) ?_
      refine gf_X1_12 C hP dX1_print_48 ?_
      refine lv_iload_n C.1 C.2.1 dX1_print_51 rfl (lv_at hl 2 rfl) ?_
      obtain ⟨hg4, hf⟩ := g_if hf
      refine rl_aTt C hP hg4 dX1_print_52 ?_
      refine lv_iconst (v := (1 : Int32)) C.1 C.2.1 dX1_print_53 (by decide) ?_
      refine lv_iload_n C.1 C.2.1 dX1_print_54 rfl (lv_at hl 2 rfl) ?_
      refine lv_ishl C.1 C.2.1 dX1_print_55 ?_
      obtain ⟨q5, eq5, hf⟩ := g_b hf
      refine cv_X1_32 hA C hX hP hS (tt_el hg4) eq5 ⟨Nat.le_of_ble_eq_true rfl, Nat.le_of_ble_eq_true rfl⟩ hl.1 (Nat.le_of_ble_eq_true rfl) dX1_print_56 (fun H locs hP hS => ?_)
      refine lv_iinc (v := (x2 + 1)) (lv' := [(2, .int (x2 + 1)), (0, .ref (ad 39)), (1, .ref (ad k1))]) C.1 C.2.1 dX1_print_59 hl (k := 2) rfl (by rfl) (by decide) rfl (fun ls hl => ?_)
      refine lv_goto (tgt := 26) C.1 C.2.1 dX1_print_62 (by decide) ?_
      exact ih _ _ _ _ _ hf hP hS (lv_sub hl [1, 2, 0] rfl)
set_option maxRecDepth 100000 in
set_option maxHeartbeats 4000000 in
theorem w_X1_print_2 {p : Program} {l : Launch} {e : Env} {s : State} {m : MethodId} {args : Array Value} {below : List Frame} {meth : Method} {c : Code} {D : va_G} {ids : Nat → ClassId} {ad tt : Nat → Nat} {rv : Hp} (hA : adOk ad 59) (C : CX p s m args meth c cX1_print 3 none RX1 D ids) (hX : (ExC tt ad) s s.heap) {k1 : Nat} (hk1 : isX5 k1) : ∀ (fu : Nat), ∀ (h : Hp) (x2 : Int32) (H : Heap) (locs : List Loc) (ls : Array Slot), f_X1_print_2 k1 fu h x2 = some rv → wp D (cEC ids ad) ad 59 h H → va_S (inW ad 59) s.heap H locs → lv_has ls 3 [(0, .ref (ad 39)), (1, .ref (ad k1)), (2, .int x2)] → W p l e rm_X1_print s m args below meth c H locs 0 0 (MQ below (QW D (cEC ids ad) ad 59 none rv) args s 0 0 (inW ad 59)) (F0 m 2 ls []) := by
  intro fu
  induction fu with
  | zero =>
    intro h x2 H locs ls hf hP hS hl
    cases hf
  | succ fu ih =>
    intro h x2 H locs ls hf hP hS hl
    rw [f_X1_print_2_s] at hf
    refine lv_iload_n C.1 C.2.1 dX1_print_2 rfl (lv_at hl 2 rfl) ?_
    refine lv_aload_n C.1 C.2.1 dX1_print_3 rfl (lv_at hl 0 rfl) ?_
    refine gf_X1_18 C hP dX1_print_4 ?_
    refine ln_aU C hP dX1_print_7 ?_
    refine lv_icmp_ge (tgt := 24) C.1 C.2.1 dX1_print_8 (by decide) (fun hc => ?_) (fun hc => ?_)
    · have hf := g_t hc hf
      refine lv_iconst (v := (0 : Int32)) C.1 C.2.1 dX1_print_24 (by decide) ?_
      refine lv_istore_n (lv' := [(2, .int (0 : Int32)), (0, .ref (ad 39)), (1, .ref (ad k1))]) C.1 C.2.1 dX1_print_25 rfl hl (by decide) rfl (fun ls hl => ?_)
      exact w_X1_print_26 hA C hX hk1 _ _ _ _ _ _ hf hP hS (lv_sub hl [1, 2, 0] rfl)
    · have hf := g_f hc hf
      refine lv_aload_n C.1 C.2.1 dX1_print_11 rfl (lv_at hl 0 rfl) ?_
      refine gf_X1_18 C hP dX1_print_12 ?_
      refine lv_iload_n C.1 C.2.1 dX1_print_15 rfl (lv_at hl 2 rfl) ?_
      refine lv_iconst (v := (0 : Int32)) C.1 C.2.1 dX1_print_16 (by decide) ?_
      obtain ⟨hg, hf⟩ := g_if hf
      refine as_aU hA C hP hS hg dX1_print_17 (fun H locs hP hS => ?_)
      refine lv_iinc (v := (x2 + 1)) (lv' := [(2, .int (x2 + 1)), (0, .ref (ad 39)), (1, .ref (ad k1))]) C.1 C.2.1 dX1_print_18 hl (k := 2) rfl (by rfl) (by decide) rfl (fun ls hl => ?_)
      refine lv_goto (tgt := 2) C.1 C.2.1 dX1_print_21 (by decide) ?_
      exact ih _ _ _ _ _ hf hP hS (lv_sub hl [1, 2, 0] rfl)
set_option maxRecDepth 100000 in
set_option maxHeartbeats 4000000 in
theorem w_X1_print {p : Program} {l : Launch} {e : Env} {s : State} {m : MethodId} {args : Array Value} {below : List Frame} {meth : Method} {c : Code} {D : va_G} {ids : Nat → ClassId} {ad tt : Nat → Nat} {rv : Hp} (hA : adOk ad 59) (C : CX p s m args meth c cX1_print 3 none RX1 D ids) (hX : (ExC tt ad) s s.heap) {k1 : Nat} (hk1 : isX5 k1) : ∀ (h : Hp) (H : Heap) (locs : List Loc) (ls : Array Slot), f_X1_print h k1 = some rv → wp D (cEC ids ad) ad 59 h H → va_S (inW ad 59) s.heap H locs → lv_has ls 3 [(0, .ref (ad 39)), (1, .ref (ad k1))] → W p l e rm_X1_print s m args below meth c H locs 0 0 (MQ below (QW D (cEC ids ad) ad 59 none rv) args s 0 0 (inW ad 59)) (F0 m 0 ls []) := by
  intro h H locs ls hf hP hS hl
  unfold f_X1_print at hf
  refine lv_iconst (v := (0 : Int32)) C.1 C.2.1 dX1_print_0 (by decide) ?_
  refine lv_istore_n (lv' := [(2, .int (0 : Int32)), (0, .ref (ad 39)), (1, .ref (ad k1))]) C.1 C.2.1 dX1_print_1 rfl hl (by decide) rfl (fun ls hl => ?_)
  exact w_X1_print_2 hA C hX hk1 _ _ _ _ _ _ hf hP hS (lv_sub hl [1, 2, 0] rfl)
theorem c_X1_print (l : Launch) (D : va_G) (ids : Nat → ClassId) (ad tt : Nat → Nat) (hA : adOk ad 59) {k1 : Nat} (hk1 : isX5 k1) {h : Hp} {rv : Hp} (hf : f_X1_print h k1 = some rv) : Met l yX1_print (ws_ yX1_print cX1_print 3 none) rm_X1_print (va_Pc [.ref (ad 39), .ref (ad k1)] (WB D ids (cEC ids ad) ad 59 (ExC tt ad) h)) (QW D (cEC ids ad) ad 59 none rv) 0 0 (inW ad 59) :=
  u_met (own := RX1) (by decide) rfl (Nat.le_of_ble_eq_true rfl) rfl (fun p e s m args below meth c H ls C hX hP hS hl => w_X1_print (tt := tt) hA C hX hk1 _ _ _ _ hf hP hS hl)
theorem gf_X7_44 {p : Program} {l : Launch} {e : Env} {R : Room} {s : State} {m : MethodId} {args : Array Value} {below : List Frame} {meth : Method} {c : Code} {H : Heap} {locs : List Loc} {cells slots : Nat} {Q : State → Prop} {cc : ByteArray} {nL : Nat} {ret : Option FieldType} {pc : Nat} {ls : Array Slot} {rest : List Value} {D : va_G} {ids : Nat → ClassId} {ad : Nat → Nat} {h : Hp} (C : CX p s m args meth c cc nL ret RX7 D ids) (hP : wp D (cEC ids ad) ad 59 h H) (hdg : decode cc pc = .ok (.getfield 44, 3)) (kk : W p l e R s m args below meth c H locs cells slots Q (F0 m (pc + 3) ls (.ref (ad 39) :: rest))) : W p l e R s m args below meth c H locs cells slots Q (F0 m pc ls (.ref (ad 0) :: rest)) :=
  u_get C hP (by decide) cE_X7 rfl inX7 7 (by decide) rfl q_28 hdg kk
theorem cv_X7_155 {p : Program} {l : Launch} {e : Env} {R : Room} {s : State} {m : MethodId} {args : Array Value} {below : List Frame} {meth : Method} {c : Code} {H : Heap} {locs : List Loc} {Q : State → Prop} {cc : ByteArray} {nL : Nat} {ret : Option FieldType} {pc : Nat} {ls : Array Slot} {rest : List Value} {D : va_G} {ids : Nat → ClassId} {ad tt : Nat → Nat} {h : Hp} (hA : adOk ad 59) (C : CX p s m args meth c cc nL ret RX7 D ids) (hX : (ExC tt ad) s s.heap) (hP : wp D (cEC ids ad) ad 59 h H) (hS : va_S (inW ad 59) s.heap H locs) {k1 : Nat} (hk1 : isX5 k1) {rv : Hp} (hf : f_X1_print h k1 = some rv) (hR : 3 + 1 ≤ R.frames ∧ 8 + (3 + 11) + 66 ≤ R.locals) (hsz : ls.size = nL) (hcat : (rest.map fun v => v.category).sum ≤ 8) (hdg : decode cc pc = .ok (.invokevirtual 155, 3)) (kk : ∀ (H1 : Heap) (locs1 : List Loc), wp D (cEC ids ad) ad 59 rv H1 → va_S (inW ad 59) s.heap H1 locs1 → W p l e R s m args below meth c H1 locs1 0 0 Q (F0 m (pc + 3) ls (rest))) : W p l e R s m args below meth c H locs 0 0 Q (F0 m pc ls (.ref (ad k1) :: .ref (ad 39) :: rest)) :=
  u_callV (As := [.ref (ad k1)]) (rv := none) C (exC_ok hA) hX (c_X1_print l D ids ad tt hA hk1 hf) q_545 q_546 q_547 q_27 q_548 ⟨rfl, rfl⟩ (by refine ⟨by decide +kernel, by decide +kernel, ?_⟩; show _ = some 1; decide +kernel) hR (by decide) (cE_X1 _) rfl hP hS hsz hcat rfl hdg kk
theorem gf_X7_193 {p : Program} {l : Launch} {e : Env} {R : Room} {s : State} {m : MethodId} {args : Array Value} {below : List Frame} {meth : Method} {c : Code} {H : Heap} {locs : List Loc} {cells slots : Nat} {Q : State → Prop} {cc : ByteArray} {nL : Nat} {ret : Option FieldType} {pc : Nat} {ls : Array Slot} {rest : List Value} {D : va_G} {ids : Nat → ClassId} {ad : Nat → Nat} {h : Hp} (C : CX p s m args meth c cc nL ret RX7 D ids) (hP : wp D (cEC ids ad) ad 59 h H) (hdg : decode cc pc = .ok (.getfield 193, 3)) (kk : W p l e R s m args below meth c H locs cells slots Q (F0 m (pc + 3) ls (.ref (ad 40) :: rest))) : W p l e R s m args below meth c H locs cells slots Q (F0 m pc ls (.ref (ad 39) :: rest)) :=
  u_get C hP (by decide) cE_X1 rfl inX1 0 (by decide) rfl q_544 hdg kk
abbrev rm_X7_timetableOf : Room := { frames := 4, cells := 0, slots := 0, locals := 88 }
set_option maxRecDepth 100000 in
set_option maxHeartbeats 4000000 in
theorem w_X7_timetableOf {p : Program} {l : Launch} {e : Env} {s : State} {m : MethodId} {args : Array Value} {below : List Frame} {meth : Method} {c : Code} {D : va_G} {ids : Nat → ClassId} {ad tt : Nat → Nat} {rv : Nat × Hp} (hA : adOk ad 59) (C : CX p s m args meth c cX7_timetableOf 2 (some (.object "CaptainTides$Timetable")) RX7 D ids) (hX : (ExC tt ad) s s.heap) : ∀ (h : Hp) (a1 : Int32) (H : Heap) (locs : List Loc) (ls : Array Slot), f_X7_timetableOf h a1 = some rv → wp D (cEC ids ad) ad 59 h H → va_S (inW ad 59) s.heap H locs → lv_has ls 2 [(0, .ref (ad 0)), (1, .int a1)] → W p l e rm_X7_timetableOf s m args below meth c H locs 0 0 (MQ below (QW D (cEC ids ad) ad 59 (some (.ref (ad rv.1))) rv.2) args s 0 0 (inW ad 59)) (F0 m 0 ls []) := by
  intro h a1 H locs ls hf hP hS hl
  unfold f_X7_timetableOf at hf
  refine lv_aload_n C.1 C.2.1 dX7_timetableOf_0 rfl (lv_at hl 0 rfl) ?_
  refine gf_X7_44 C hP dX7_timetableOf_1 ?_
  refine lv_aload_n C.1 C.2.1 dX7_timetableOf_4 rfl (lv_at hl 0 rfl) ?_
  refine gf_X7_12 C hP dX7_timetableOf_5 ?_
  obtain ⟨q1, eq1, hf⟩ := g_b hf
  refine cv_X7_155 hA C hX hP hS pX5_1 eq1 ⟨Nat.le_of_ble_eq_true rfl, Nat.le_of_ble_eq_true rfl⟩ hl.1 (Nat.le_of_ble_eq_true rfl) dX7_timetableOf_8 (fun H locs hP hS => ?_)
  refine lv_aload_n C.1 C.2.1 dX7_timetableOf_11 rfl (lv_at hl 0 rfl) ?_
  refine gf_X7_44 C hP dX7_timetableOf_12 ?_
  refine gf_X7_193 C hP dX7_timetableOf_15 ?_
  refine lv_iload_n C.1 C.2.1 dX7_timetableOf_18 rfl (lv_at hl 1 rfl) ?_
  obtain ⟨hg2, hf⟩ := g_if hf
  refine rl_aTt C hP hg2 dX7_timetableOf_19 ?_
  obtain rfl := Option.some.inj hf
  exact u_aret C hP hS dX7_timetableOf_20
theorem c_X7_timetableOf (l : Launch) (D : va_G) (ids : Nat → ClassId) (ad tt : Nat → Nat) (hA : adOk ad 59) {a1 : Int32} {h : Hp} {rv : Nat × Hp} (hf : f_X7_timetableOf h a1 = some rv) : Met l yX7_timetableOf (ws_ yX7_timetableOf cX7_timetableOf 2 (some (.object "CaptainTides$Timetable"))) rm_X7_timetableOf (va_Pc [.ref (ad 0), .int a1] (WB D ids (cEC ids ad) ad 59 (ExC tt ad) h)) (QW D (cEC ids ad) ad 59 (some (.ref (ad rv.1))) rv.2) 0 0 (inW ad 59) :=
  u_met (own := RX7) (by decide) rfl (Nat.le_of_ble_eq_true rfl) rfl (fun p e s m args below meth c H ls C hX hP hS hl => w_X7_timetableOf (tt := tt) hA C hX _ _ _ _ _ hf hP hS hl)
theorem cv_X7_127 {p : Program} {l : Launch} {e : Env} {R : Room} {s : State} {m : MethodId} {args : Array Value} {below : List Frame} {meth : Method} {c : Code} {H : Heap} {locs : List Loc} {Q : State → Prop} {cc : ByteArray} {nL : Nat} {ret : Option FieldType} {pc : Nat} {ls : Array Slot} {rest : List Value} {D : va_G} {ids : Nat → ClassId} {ad tt : Nat → Nat} {h : Hp} (hA : adOk ad 59) (C : CX p s m args meth c cc nL ret RX7 D ids) (hX : (ExC tt ad) s s.heap) (hP : wp D (cEC ids ad) ad 59 h H) (hS : va_S (inW ad 59) s.heap H locs) {a1 : Int32} {rv : Nat × Hp} (hf : f_X7_timetableOf h a1 = some rv) (hR : 4 + 1 ≤ R.frames ∧ 8 + (2 + 11) + 88 ≤ R.locals) (hsz : ls.size = nL) (hcat : (rest.map fun v => v.category).sum ≤ 8) (hdg : decode cc pc = .ok (.invokevirtual 127, 3)) (kk : ∀ (H1 : Heap) (locs1 : List Loc), wp D (cEC ids ad) ad 59 rv.2 H1 → va_S (inW ad 59) s.heap H1 locs1 → W p l e R s m args below meth c H1 locs1 0 0 Q (F0 m (pc + 3) ls (.ref (ad rv.1) :: rest))) : W p l e R s m args below meth c H locs 0 0 Q (F0 m pc ls (.int a1 :: .ref (ad 0) :: rest)) :=
  u_callV (As := [.int a1]) (rv := (some (.ref (ad rv.1)))) C (exC_ok hA) hX (c_X7_timetableOf l D ids ad tt hA hf) q_540 q_541 q_542 q_2 q_543 ⟨rfl, rfl⟩ (by refine ⟨by decide +kernel, by decide +kernel, ?_⟩; show _ = some 1; decide +kernel) hR (by decide) (cE_X7 _) rfl hP hS hsz hcat rfl hdg kk
theorem gf_X7_131 {p : Program} {l : Launch} {e : Env} {R : Room} {s : State} {m : MethodId} {args : Array Value} {below : List Frame} {meth : Method} {c : Code} {H : Heap} {locs : List Loc} {cells slots : Nat} {Q : State → Prop} {cc : ByteArray} {nL : Nat} {ret : Option FieldType} {pc : Nat} {ls : Array Slot} {rest : List Value} {D : va_G} {ids : Nat → ClassId} {ad : Nat → Nat} {h : Hp} (C : CX p s m args meth c cc nL ret RX7 D ids) {k : Nat} (hk : isX6 k) (hP : wp D (cEC ids ad) ad 59 h H) (hdg : decode cc pc = .ok (.getfield 131, 3)) (kk : W p l e R s m args below meth c H locs cells slots Q (F0 m (pc + 3) ls (.int (h k 1) :: rest))) : W p l e R s m args below meth c H locs cells slots Q (F0 m pc ls (.ref (ad k) :: rest)) :=
  u_get C hP (lt_X6 hk) (cE_X6 hk) rfl inX6 1 (by decide) rfl q_539 hdg kk
abbrev rm_X7_captainOf : Room := { frames := 5, cells := 0, slots := 0, locals := 109 }
set_option maxRecDepth 100000 in
set_option maxHeartbeats 4000000 in
theorem w_X7_captainOf {p : Program} {l : Launch} {e : Env} {s : State} {m : MethodId} {args : Array Value} {below : List Frame} {meth : Method} {c : Code} {D : va_G} {ids : Nat → ClassId} {ad tt : Nat → Nat} {rv : Int32 × Hp} (hA : adOk ad 59) (C : CX p s m args meth c cX7_captainOf 3 (some .int) RX7 D ids) (hX : (ExC tt ad) s s.heap) : ∀ (h : Hp) (a1 : Int32) (a2 : Int32) (H : Heap) (locs : List Loc) (ls : Array Slot), f_X7_captainOf h a1 a2 = some rv → wp D (cEC ids ad) ad 59 h H → va_S (inW ad 59) s.heap H locs → lv_has ls 3 [(0, .ref (ad 0)), (1, .int a1), (2, .int a2)] → W p l e rm_X7_captainOf s m args below meth c H locs 0 0 (MQ below (QW D (cEC ids ad) ad 59 (some (.int rv.1)) rv.2) args s 0 0 (inW ad 59)) (F0 m 0 ls []) := by
  intro h a1 a2 H locs ls hf hP hS hl
  unfold f_X7_captainOf at hf
  refine lv_iload_n C.1 C.2.1 dX7_captainOf_0 rfl (lv_at hl 1 rfl) ?_
  obtain ⟨q1, eq1, hf⟩ := g_b hf
  refine cv_X7_55 hA C hX hP hS eq1 ⟨Nat.le_of_ble_eq_true rfl, Nat.le_of_ble_eq_true rfl⟩ hl.1 (Nat.le_of_ble_eq_true rfl) dX7_captainOf_1 (fun H locs hP hS => ?_)
  refine lv_if_ne (tgt := 9) C.1 C.2.1 dX7_captainOf_4 (by decide) (fun hc => ?_) (fun hc => ?_)
  · have hf := g_f hc hf
    refine lv_iload_n C.1 C.2.1 dX7_captainOf_9 rfl (lv_at hl 2 rfl) ?_
    refine lv_if_lt (tgt := 19) C.1 C.2.1 dX7_captainOf_10 (by decide) (fun hc => ?_) (fun hc => ?_)
    · have hf := g_t hc hf
      refine lv_bipush (v := (-2 : Int32)) C.1 C.2.1 dX7_captainOf_19 (by decide) ?_
      obtain rfl := Option.some.inj hf
      exact u_iret C hP hS dX7_captainOf_21
    · have hf := g_f hc hf
      refine lv_iload_n C.1 C.2.1 dX7_captainOf_13 rfl (lv_at hl 2 rfl) ?_
      refine lv_bipush (v := (10 : Int32)) C.1 C.2.1 dX7_captainOf_14 (by decide) ?_
      refine lv_icmp_le (tgt := 22) C.1 C.2.1 dX7_captainOf_16 (by decide) (fun hc => ?_) (fun hc => ?_)
      · have hf := g_t hc hf
        refine lv_iload_n C.1 C.2.1 dX7_captainOf_22 rfl (lv_at hl 2 rfl) ?_
        refine lv_iconst (v := (4 : Int32)) C.1 C.2.1 dX7_captainOf_23 (by decide) ?_
        refine lv_icmp_ne (tgt := 38) C.1 C.2.1 dX7_captainOf_24 (by decide) (fun hc => ?_) (fun hc => ?_)
        · have hf := g_f hc hf
          refine lv_aload_n C.1 C.2.1 dX7_captainOf_38 rfl (lv_at hl 0 rfl) ?_
          refine gf_X7_12 C hP dX7_captainOf_39 ?_
          refine gf_X7_63 C pX5_1 hP dX7_captainOf_42 ?_
          refine lv_iload_n C.1 C.2.1 dX7_captainOf_45 rfl (lv_at hl 1 rfl) ?_
          obtain ⟨hg2, hf⟩ := g_if hf
          refine rl_aCap C (cap_of pX5_1) hP hg2 dX7_captainOf_46 ?_
          refine lv_iload_n C.1 C.2.1 dX7_captainOf_47 rfl (lv_at hl 2 rfl) ?_
          obtain ⟨q3, eq3, hf⟩ := g_b hf
          refine cv_X7_67 hA C hX hP hS (cp_el (cap_of pX5_1) hg2) eq3 ⟨Nat.le_of_ble_eq_true rfl, Nat.le_of_ble_eq_true rfl⟩ hl.1 (Nat.le_of_ble_eq_true rfl) dX7_captainOf_48 (fun H locs hP hS => ?_)
          obtain rfl := Option.some.inj hf
          exact u_iret C hP hS dX7_captainOf_51
        · have hf := g_t hc hf
          refine lv_aload_n C.1 C.2.1 dX7_captainOf_27 rfl (lv_at hl 0 rfl) ?_
          refine lv_iload_n C.1 C.2.1 dX7_captainOf_28 rfl (lv_at hl 1 rfl) ?_
          obtain ⟨q4, eq4, hf⟩ := g_b hf
          refine cv_X7_127 hA C hX hP hS eq4 ⟨Nat.le_of_ble_eq_true rfl, Nat.le_of_ble_eq_true rfl⟩ hl.1 (Nat.le_of_ble_eq_true rfl) dX7_captainOf_29 (fun H locs hP hS => ?_)
          obtain ⟨hg5, hf⟩ := g_if hf
          refine gf_X7_131 C hg5 hP dX7_captainOf_32 ?_
          refine lv_goto (tgt := 51) C.1 C.2.1 dX7_captainOf_35 (by decide) ?_
          obtain rfl := Option.some.inj hf
          exact u_iret C hP hS dX7_captainOf_51
      · have hf := g_f hc hf
        refine lv_bipush (v := (-2 : Int32)) C.1 C.2.1 dX7_captainOf_19 (by decide) ?_
        obtain rfl := Option.some.inj hf
        exact u_iret C hP hS dX7_captainOf_21
  · have hf := g_t hc hf
    refine lv_iconst (v := (-1 : Int32)) C.1 C.2.1 dX7_captainOf_7 (by decide) ?_
    obtain rfl := Option.some.inj hf
    exact u_iret C hP hS dX7_captainOf_8
theorem c_X7_captainOf (l : Launch) (D : va_G) (ids : Nat → ClassId) (ad tt : Nat → Nat) (hA : adOk ad 59) {a1 : Int32} {a2 : Int32} {h : Hp} {rv : Int32 × Hp} (hf : f_X7_captainOf h a1 a2 = some rv) : Met l yX7_captainOf (ws_ yX7_captainOf cX7_captainOf 3 (some .int)) rm_X7_captainOf (va_Pc [.ref (ad 0), .int a1, .int a2] (WB D ids (cEC ids ad) ad 59 (ExC tt ad) h)) (QW D (cEC ids ad) ad 59 (some (.int rv.1)) rv.2) 0 0 (inW ad 59) :=
  u_met (own := RX7) (by decide) rfl (Nat.le_of_ble_eq_true rfl) rfl (fun p e s m args below meth c H ls C hX hP hS hl => w_X7_captainOf (tt := tt) hA C hX _ _ _ _ _ _ hf hP hS hl)
theorem cv_X7_136 {p : Program} {l : Launch} {e : Env} {R : Room} {s : State} {m : MethodId} {args : Array Value} {below : List Frame} {meth : Method} {c : Code} {H : Heap} {locs : List Loc} {Q : State → Prop} {cc : ByteArray} {nL : Nat} {ret : Option FieldType} {pc : Nat} {ls : Array Slot} {rest : List Value} {D : va_G} {ids : Nat → ClassId} {ad tt : Nat → Nat} {h : Hp} (hA : adOk ad 59) (C : CX p s m args meth c cc nL ret RX7 D ids) (hX : (ExC tt ad) s s.heap) (hP : wp D (cEC ids ad) ad 59 h H) (hS : va_S (inW ad 59) s.heap H locs) {k : Nat} (hk : isX6 k) {a1 : Int32} {rv : Int32 × Hp} (hf : f_X6_has h k a1 = some rv) (hR : 0 + 1 ≤ R.frames ∧ 8 + (2 + 11) + 0 ≤ R.locals) (hsz : ls.size = nL) (hcat : (rest.map fun v => v.category).sum ≤ 8) (hdg : decode cc pc = .ok (.invokevirtual 136, 3)) (kk : ∀ (H1 : Heap) (locs1 : List Loc), wp D (cEC ids ad) ad 59 rv.2 H1 → va_S (inW ad 59) s.heap H1 locs1 → W p l e R s m args below meth c H1 locs1 0 0 Q (F0 m (pc + 3) ls (.int rv.1 :: rest))) : W p l e R s m args below meth c H locs 0 0 Q (F0 m pc ls (.int a1 :: .ref (ad k) :: rest)) :=
  u_callV (As := [.int a1]) (rv := (some (.int rv.1))) C (exC_ok hA) hX (c_X6_has l D ids ad tt hA hk hf) q_576 q_343 q_344 q_76 q_345 ⟨rfl, rfl⟩ (by refine ⟨by decide +kernel, by decide +kernel, ?_⟩; show _ = some 1; decide +kernel) hR (lt_X6 hk) (cE_X6 hk _) rfl hP hS hsz hcat rfl hdg kk
theorem cv_X7_139 {p : Program} {l : Launch} {e : Env} {R : Room} {s : State} {m : MethodId} {args : Array Value} {below : List Frame} {meth : Method} {c : Code} {H : Heap} {locs : List Loc} {Q : State → Prop} {cc : ByteArray} {nL : Nat} {ret : Option FieldType} {pc : Nat} {ls : Array Slot} {rest : List Value} {D : va_G} {ids : Nat → ClassId} {ad tt : Nat → Nat} {h : Hp} (hA : adOk ad 59) (C : CX p s m args meth c cc nL ret RX7 D ids) (hX : (ExC tt ad) s s.heap) (hP : wp D (cEC ids ad) ad 59 h H) (hS : va_S (inW ad 59) s.heap H locs) {k : Nat} (hk : isX6 k) {a1 : Int32} {rv : Int32 × Hp} (hf : f_X6_hourOf h k a1 = some rv) (hR : 1 + 1 ≤ R.frames ∧ 8 + (2 + 11) + 21 ≤ R.locals) (hsz : ls.size = nL) (hcat : (rest.map fun v => v.category).sum ≤ 8) (hdg : decode cc pc = .ok (.invokevirtual 139, 3)) (kk : ∀ (H1 : Heap) (locs1 : List Loc), wp D (cEC ids ad) ad 59 rv.2 H1 → va_S (inW ad 59) s.heap H1 locs1 → W p l e R s m args below meth c H1 locs1 0 0 Q (F0 m (pc + 3) ls (.int rv.1 :: rest))) : W p l e R s m args below meth c H locs 0 0 Q (F0 m pc ls (.int a1 :: .ref (ad k) :: rest)) :=
  u_callV (As := [.int a1]) (rv := (some (.int rv.1))) C (exC_ok hA) hX (c_X6_hourOf l D ids ad tt hA hk hf) q_577 q_347 q_348 q_76 q_349 ⟨rfl, rfl⟩ (by refine ⟨by decide +kernel, by decide +kernel, ?_⟩; show _ = some 1; decide +kernel) hR (lt_X6 hk) (cE_X6 hk _) rfl hP hS hsz hcat rfl hdg kk
theorem cv_X7_142 {p : Program} {l : Launch} {e : Env} {R : Room} {s : State} {m : MethodId} {args : Array Value} {below : List Frame} {meth : Method} {c : Code} {H : Heap} {locs : List Loc} {Q : State → Prop} {cc : ByteArray} {nL : Nat} {ret : Option FieldType} {pc : Nat} {ls : Array Slot} {rest : List Value} {D : va_G} {ids : Nat → ClassId} {ad tt : Nat → Nat} {h : Hp} (hA : adOk ad 59) (C : CX p s m args meth c cc nL ret RX7 D ids) (hX : (ExC tt ad) s s.heap) (hP : wp D (cEC ids ad) ad 59 h H) (hS : va_S (inW ad 59) s.heap H locs) {k : Nat} (hk : isX6 k) {a1 : Int32} {rv : Int32 × Hp} (hf : f_X6_pierOf h k a1 = some rv) (hR : 0 + 1 ≤ R.frames ∧ 8 + (2 + 11) + 0 ≤ R.locals) (hsz : ls.size = nL) (hcat : (rest.map fun v => v.category).sum ≤ 8) (hdg : decode cc pc = .ok (.invokevirtual 142, 3)) (kk : ∀ (H1 : Heap) (locs1 : List Loc), wp D (cEC ids ad) ad 59 rv.2 H1 → va_S (inW ad 59) s.heap H1 locs1 → W p l e R s m args below meth c H1 locs1 0 0 Q (F0 m (pc + 3) ls (.int rv.1 :: rest))) : W p l e R s m args below meth c H locs 0 0 Q (F0 m pc ls (.int a1 :: .ref (ad k) :: rest)) :=
  u_callV (As := [.int a1]) (rv := (some (.int rv.1))) C (exC_ok hA) hX (c_X6_pierOf l D ids ad tt hA hk hf) q_578 q_558 q_559 q_76 q_560 ⟨rfl, rfl⟩ (by refine ⟨by decide +kernel, by decide +kernel, ?_⟩; show _ = some 1; decide +kernel) hR (lt_X6 hk) (cE_X6 hk _) rfl hP hS hsz hcat rfl hdg kk
abbrev rm_X7_printed : Room := { frames := 5, cells := 0, slots := 0, locals := 109 }
set_option maxRecDepth 100000 in
set_option maxHeartbeats 4000000 in
theorem w_X7_printed {p : Program} {l : Launch} {e : Env} {s : State} {m : MethodId} {args : Array Value} {below : List Frame} {meth : Method} {c : Code} {D : va_G} {ids : Nat → ClassId} {ad tt : Nat → Nat} {rv : Int32 × Hp} (hA : adOk ad 59) (C : CX p s m args meth c cX7_printed 5 (some .int) RX7 D ids) (hX : (ExC tt ad) s s.heap) : ∀ (h : Hp) (a1 : Int32) (a2 : Int32) (a3 : Int32) (H : Heap) (locs : List Loc) (ls : Array Slot), f_X7_printed h a1 a2 a3 = some rv → wp D (cEC ids ad) ad 59 h H → va_S (inW ad 59) s.heap H locs → lv_has ls 5 [(0, .ref (ad 0)), (1, .int a1), (2, .int a2), (3, .int a3)] → W p l e rm_X7_printed s m args below meth c H locs 0 0 (MQ below (QW D (cEC ids ad) ad 59 (some (.int rv.1)) rv.2) args s 0 0 (inW ad 59)) (F0 m 0 ls []) := by
  intro h a1 a2 a3 H locs ls hf hP hS hl
  unfold f_X7_printed at hf
  refine lv_iload_n C.1 C.2.1 dX7_printed_0 rfl (lv_at hl 1 rfl) ?_
  obtain ⟨q1, eq1, hf⟩ := g_b hf
  refine cv_X7_55 hA C hX hP hS eq1 ⟨Nat.le_of_ble_eq_true rfl, Nat.le_of_ble_eq_true rfl⟩ hl.1 (Nat.le_of_ble_eq_true rfl) dX7_printed_1 (fun H locs hP hS => ?_)
  refine lv_if_ne (tgt := 9) C.1 C.2.1 dX7_printed_4 (by decide) (fun hc => ?_) (fun hc => ?_)
  · have hf := g_f hc hf
    refine lv_aload_n C.1 C.2.1 dX7_printed_9 rfl (lv_at hl 0 rfl) ?_
    refine lv_iload_n C.1 C.2.1 dX7_printed_10 rfl (lv_at hl 1 rfl) ?_
    obtain ⟨q2, eq2, hf⟩ := g_b hf
    refine cv_X7_127 hA C hX hP hS eq2 ⟨Nat.le_of_ble_eq_true rfl, Nat.le_of_ble_eq_true rfl⟩ hl.1 (Nat.le_of_ble_eq_true rfl) dX7_printed_11 (fun H locs hP hS => ?_)
    obtain ⟨hg3, hf⟩ := g_if hf
    refine lv_astore (lv' := [(4, .ref (ad q2.1)), (0, .ref (ad 0)), (1, .int a1), (2, .int a2), (3, .int a3)]) C.1 C.2.1 dX7_printed_14 hl (by decide) rfl (fun ls hl => ?_)
    refine lv_aload C.1 C.2.1 dX7_printed_16 (lv_at hl 0 rfl) ?_
    refine lv_iload_n C.1 C.2.1 dX7_printed_18 rfl (lv_at hl 3 rfl) ?_
    obtain ⟨q4, eq4, hf⟩ := g_b hf
    refine cv_X7_136 hA C hX hP hS hg3 eq4 ⟨Nat.le_of_ble_eq_true rfl, Nat.le_of_ble_eq_true rfl⟩ hl.1 (Nat.le_of_ble_eq_true rfl) dX7_printed_19 (fun H locs hP hS => ?_)
    refine lv_if_ne (tgt := 27) C.1 C.2.1 dX7_printed_22 (by decide) (fun hc => ?_) (fun hc => ?_)
    · have hf := g_f hc hf
      refine lv_iload_n C.1 C.2.1 dX7_printed_27 rfl (lv_at hl 4 rfl) ?_
      by_cases hc0 : a3 = 0
      · have hf := g_t hc0 hf
        refine lv_lookup (off := 28) (tgt := 56) C.1 C.2.1 dX7_printed_28 (by decide) (by rw [hc0]; decide) (by decide) ?_
        refine lv_aload C.1 C.2.1 dX7_printed_56 (lv_at hl 0 rfl) ?_
        refine lv_iload_n C.1 C.2.1 dX7_printed_58 rfl (lv_at hl 3 rfl) ?_
        obtain ⟨q5, eq5, hf⟩ := g_b hf
        refine cv_X7_139 hA C hX hP hS hg3 eq5 ⟨Nat.le_of_ble_eq_true rfl, Nat.le_of_ble_eq_true rfl⟩ hl.1 (Nat.le_of_ble_eq_true rfl) dX7_printed_59 (fun H locs hP hS => ?_)
        obtain rfl := Option.some.inj hf
        exact u_iret C hP hS dX7_printed_62
      · have hf := g_f hc0 hf
        by_cases hc1 : a3 = 1
        · have hf := g_t hc1 hf
          refine lv_lookup (off := 35) (tgt := 63) C.1 C.2.1 dX7_printed_28 (by decide) (by rw [hc1]; decide) (by decide) ?_
          refine lv_aload C.1 C.2.1 dX7_printed_63 (lv_at hl 0 rfl) ?_
          refine lv_iload_n C.1 C.2.1 dX7_printed_65 rfl (lv_at hl 3 rfl) ?_
          obtain ⟨q6, eq6, hf⟩ := g_b hf
          refine cv_X7_142 hA C hX hP hS hg3 eq6 ⟨Nat.le_of_ble_eq_true rfl, Nat.le_of_ble_eq_true rfl⟩ hl.1 (Nat.le_of_ble_eq_true rfl) dX7_printed_66 (fun H locs hP hS => ?_)
          obtain rfl := Option.some.inj hf
          exact u_iret C hP hS dX7_printed_69
        · have hf := g_f hc1 hf
          refine lv_lookup (off := 42) (tgt := 70) C.1 C.2.1 dX7_printed_28 (by decide) (by show Op.lookupswitch.offset [(0, 28), (1, 35)] 42 (a3).toInt = _; rw [lv_osw hc0 (by decide), lv_osw hc1 (by decide)]; rfl) (by decide) ?_
          refine lv_bipush (v := (-2 : Int32)) C.1 C.2.1 dX7_printed_70 (by decide) ?_
          obtain rfl := Option.some.inj hf
          exact u_iret C hP hS dX7_printed_72
    · have hf := g_t hc hf
      refine lv_iconst (v := (-1 : Int32)) C.1 C.2.1 dX7_printed_25 (by decide) ?_
      obtain rfl := Option.some.inj hf
      exact u_iret C hP hS dX7_printed_26
  · have hf := g_t hc hf
    refine lv_iconst (v := (-1 : Int32)) C.1 C.2.1 dX7_printed_7 (by decide) ?_
    obtain rfl := Option.some.inj hf
    exact u_iret C hP hS dX7_printed_8
theorem c_X7_printed (l : Launch) (D : va_G) (ids : Nat → ClassId) (ad tt : Nat → Nat) (hA : adOk ad 59) {a1 : Int32} {a2 : Int32} {a3 : Int32} {h : Hp} {rv : Int32 × Hp} (hf : f_X7_printed h a1 a2 a3 = some rv) : Met l yX7_printed (ws_ yX7_printed cX7_printed 5 (some .int)) rm_X7_printed (va_Pc [.ref (ad 0), .int a1, .int a2, .int a3] (WB D ids (cEC ids ad) ad 59 (ExC tt ad) h)) (QW D (cEC ids ad) ad 59 (some (.int rv.1)) rv.2) 0 0 (inW ad 59) :=
  u_met (own := RX7) (by decide) rfl (Nat.le_of_ble_eq_true rfl) rfl (fun p e s m args below meth c H ls C hX hP hS hl => w_X7_printed (tt := tt) hA C hX _ _ _ _ _ _ _ hf hP hS hl)
