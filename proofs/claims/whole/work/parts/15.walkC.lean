theorem gf_X4_12 {p : Program} {l : Launch} {e : Env} {R : Room} {s : State} {m : MethodId} {args : Array Value} {below : List Frame} {meth : Method} {c : Code} {H : Heap} {locs : List Loc} {cells slots : Nat} {Q : State → Prop} {cc : ByteArray} {nL : Nat} {ret : Option FieldType} {pc : Nat} {ls : Array Slot} {rest : List Value} {D : va_G} {ids : Nat → ClassId} {ad : Nat → Nat} {h : Hp} (C : CX p s m args meth c cc nL ret RX4 D ids) (hP : wp D (cEC ids ad) ad 59 h H) (hdg : decode cc pc = .ok (.getfield 12, 3)) (kk : W p l e R s m args below meth c H locs cells slots Q (F0 m (pc + 3) ls (.ref (ad 49) :: rest))) : W p l e R s m args below meth c H locs cells slots Q (F0 m pc ls (.ref (ad 48) :: rest)) :=
  u_get C hP (by decide) cE_X4 rfl inX4 0 (by decide) rfl q_92 hdg kk
theorem ln_aFe {p : Program} {l : Launch} {e : Env} {R : Room} {s : State} {m : MethodId} {args : Array Value} {below : List Frame} {meth : Method} {c : Code} {H : Heap} {locs : List Loc} {cells slots : Nat} {Q : State → Prop} {cc : ByteArray} {nL : Nat} {ret : Option FieldType} {own : String} {pc : Nat} {ls : Array Slot} {rest : List Value} {D : va_G} {ids : Nat → ClassId} {ad : Nat → Nat} {h : Hp} (C : CX p s m args meth c cc nL ret own D ids) (hP : wp D (cEC ids ad) ad 59 h H) (hdg : decode cc pc = .ok (.arraylength, 1)) (kk : W p l e R s m args below meth c H locs cells slots Q (F0 m (pc + 1) ls (.int (3 : Int32) :: rest))) : W p l e R s m args below meth c H locs cells slots Q (F0 m pc ls (.ref (ad 49) :: rest)) :=
  u_alen C hP 3 rfl (by decide) (cE_aFe _) rfl hdg kk
theorem rl_aFe {p : Program} {l : Launch} {e : Env} {R : Room} {s : State} {m : MethodId} {args : Array Value} {below : List Frame} {meth : Method} {c : Code} {H : Heap} {locs : List Loc} {cells slots : Nat} {Q : State → Prop} {cc : ByteArray} {nL : Nat} {ret : Option FieldType} {own : String} {pc : Nat} {ls : Array Slot} {rest : List Value} {D : va_G} {ids : Nat → ClassId} {ad : Nat → Nat} {h : Hp} (C : CX p s m args meth c cc nL ret own D ids) (hP : wp D (cEC ids ad) ad 59 h H) {i : Int32} (hg : inb i 3 = true) (hdg : decode cc pc = .ok (.aaload, 1)) (kk : W p l e R s m args below meth c H locs cells slots Q (F0 m (pc + 1) ls (.ref (ad (50 + 3 * i.toNatClampNeg)) :: rest))) : W p l e R s m args below meth c H locs cells slots Q (F0 m pc ls (.int i :: .ref (ad 49) :: rest)) :=
  u_aald C hP 3 rfl (by decide) cE_aFe hg rfl hdg kk
theorem cv_X4_50 {p : Program} {l : Launch} {e : Env} {R : Room} {s : State} {m : MethodId} {args : Array Value} {below : List Frame} {meth : Method} {c : Code} {H : Heap} {locs : List Loc} {Q : State → Prop} {cc : ByteArray} {nL : Nat} {ret : Option FieldType} {pc : Nat} {ls : Array Slot} {rest : List Value} {D : va_G} {ids : Nat → ClassId} {ad tt : Nat → Nat} {h : Hp} (hA : adOk ad 59) (C : CX p s m args meth c cc nL ret RX4 D ids) (hX : (ExC tt ad) s s.heap) (hP : wp D (cEC ids ad) ad 59 h H) (hS : va_S (inW ad 59) s.heap H locs) {k : Nat} (hk : isX3 k) {a1 : Int32} {rv : Int32 × Hp} (hf : f_X3_wantsFrom h k a1 = some rv) (hR : 0 + 1 ≤ R.frames ∧ 8 + (2 + 11) + 0 ≤ R.locals) (hsz : ls.size = nL) (hcat : (rest.map fun v => v.category).sum ≤ 8) (hdg : decode cc pc = .ok (.invokevirtual 50, 3)) (kk : ∀ (H1 : Heap) (locs1 : List Loc), wp D (cEC ids ad) ad 59 rv.2 H1 → va_S (inW ad 59) s.heap H1 locs1 → W p l e R s m args below meth c H1 locs1 0 0 Q (F0 m (pc + 3) ls (.int rv.1 :: rest))) : W p l e R s m args below meth c H locs 0 0 Q (F0 m pc ls (.int a1 :: .ref (ad k) :: rest)) :=
  u_callV (As := [.int a1]) (rv := (some (.int rv.1))) C (exC_ok hA) hX (c_X3_wantsFrom l D ids ad tt hA hk hf) q_355 q_356 q_357 q_91 q_358 ⟨rfl, rfl⟩ (by refine ⟨by decide +kernel, by decide +kernel, ?_⟩; show _ = some 1; decide +kernel) hR (lt_X3 hk) (cE_X3 hk _) rfl hP hS hsz hcat rfl hdg kk
theorem cv_X4_57 {p : Program} {l : Launch} {e : Env} {R : Room} {s : State} {m : MethodId} {args : Array Value} {below : List Frame} {meth : Method} {c : Code} {H : Heap} {locs : List Loc} {Q : State → Prop} {cc : ByteArray} {nL : Nat} {ret : Option FieldType} {pc : Nat} {ls : Array Slot} {rest : List Value} {D : va_G} {ids : Nat → ClassId} {ad tt : Nat → Nat} {h : Hp} (hA : adOk ad 59) (C : CX p s m args meth c cc nL ret RX4 D ids) (hX : (ExC tt ad) s s.heap) (hP : wp D (cEC ids ad) ad 59 h H) (hS : va_S (inW ad 59) s.heap H locs) {a1 : Int32} {rv : Int32 × Hp} (hf : f_X4_drawLot h a1 = some rv) (hR : 0 + 1 ≤ R.frames ∧ 8 + (2 + 11) + 0 ≤ R.locals) (hsz : ls.size = nL) (hcat : (rest.map fun v => v.category).sum ≤ 8) (hdg : decode cc pc = .ok (.invokevirtual 57, 3)) (kk : ∀ (H1 : Heap) (locs1 : List Loc), wp D (cEC ids ad) ad 59 rv.2 H1 → va_S (inW ad 59) s.heap H1 locs1 → W p l e R s m args below meth c H1 locs1 0 0 Q (F0 m (pc + 3) ls (.int rv.1 :: rest))) : W p l e R s m args below meth c H locs 0 0 Q (F0 m pc ls (.int a1 :: .ref (ad 48) :: rest)) :=
  u_callV (As := [.int a1]) (rv := (some (.int rv.1))) C (exC_ok hA) hX (c_X4_drawLot l D ids ad tt hA hf) q_363 q_364 q_365 q_31 q_366 ⟨rfl, rfl⟩ (by refine ⟨by decide +kernel, by decide +kernel, ?_⟩; show _ = some 1; decide +kernel) hR (by decide) (cE_X4 _) rfl hP hS hsz hcat rfl hdg kk
theorem cv_X4_54 {p : Program} {l : Launch} {e : Env} {R : Room} {s : State} {m : MethodId} {args : Array Value} {below : List Frame} {meth : Method} {c : Code} {H : Heap} {locs : List Loc} {Q : State → Prop} {cc : ByteArray} {nL : Nat} {ret : Option FieldType} {pc : Nat} {ls : Array Slot} {rest : List Value} {D : va_G} {ids : Nat → ClassId} {ad tt : Nat → Nat} {h : Hp} (hA : adOk ad 59) (C : CX p s m args meth c cc nL ret RX4 D ids) (hX : (ExC tt ad) s s.heap) (hP : wp D (cEC ids ad) ad 59 h H) (hS : va_S (inW ad 59) s.heap H locs) {k : Nat} (hk : isX3 k) {a1 : Int32} {rv : Int32 × Hp} (hf : f_X3_arrivedAt h k a1 = some rv) (hR : 0 + 1 ≤ R.frames ∧ 8 + (2 + 11) + 0 ≤ R.locals) (hsz : ls.size = nL) (hcat : (rest.map fun v => v.category).sum ≤ 8) (hdg : decode cc pc = .ok (.invokevirtual 54, 3)) (kk : ∀ (H1 : Heap) (locs1 : List Loc), wp D (cEC ids ad) ad 59 rv.2 H1 → va_S (inW ad 59) s.heap H1 locs1 → W p l e R s m args below meth c H1 locs1 0 0 Q (F0 m (pc + 3) ls (.int rv.1 :: rest))) : W p l e R s m args below meth c H locs 0 0 Q (F0 m pc ls (.int a1 :: .ref (ad k) :: rest)) :=
  u_callV (As := [.int a1]) (rv := (some (.int rv.1))) C (exC_ok hA) hX (c_X3_arrivedAt l D ids ad tt hA hk hf) q_359 q_360 q_361 q_91 q_362 ⟨rfl, rfl⟩ (by refine ⟨by decide +kernel, by decide +kernel, ?_⟩; show _ = some 1; decide +kernel) hR (lt_X3 hk) (cE_X3 hk _) rfl hP hS hsz hcat rfl hdg kk
theorem cv_X4_61 {p : Program} {l : Launch} {e : Env} {R : Room} {s : State} {m : MethodId} {args : Array Value} {below : List Frame} {meth : Method} {c : Code} {H : Heap} {locs : List Loc} {Q : State → Prop} {cc : ByteArray} {nL : Nat} {ret : Option FieldType} {pc : Nat} {ls : Array Slot} {rest : List Value} {D : va_G} {ids : Nat → ClassId} {ad tt : Nat → Nat} {h : Hp} (hA : adOk ad 59) (C : CX p s m args meth c cc nL ret RX4 D ids) (hX : (ExC tt ad) s s.heap) (hP : wp D (cEC ids ad) ad 59 h H) (hS : va_S (inW ad 59) s.heap H locs) {k : Nat} (hk : isX3 k) {a1 : Int32} {rv : Hp} (hf : f_X3_depart h k a1 = some rv) (hR : 0 + 1 ≤ R.frames ∧ 8 + (2 + 11) + 0 ≤ R.locals) (hsz : ls.size = nL) (hcat : (rest.map fun v => v.category).sum ≤ 8) (hdg : decode cc pc = .ok (.invokevirtual 61, 3)) (kk : ∀ (H1 : Heap) (locs1 : List Loc), wp D (cEC ids ad) ad 59 rv H1 → va_S (inW ad 59) s.heap H1 locs1 → W p l e R s m args below meth c H1 locs1 0 0 Q (F0 m (pc + 3) ls (rest))) : W p l e R s m args below meth c H locs 0 0 Q (F0 m pc ls (.int a1 :: .ref (ad k) :: rest)) :=
  u_callV (As := [.int a1]) (rv := none) C (exC_ok hA) hX (c_X3_depart l D ids ad tt hA hk hf) q_368 q_369 q_370 q_91 q_371 ⟨rfl, rfl⟩ (by refine ⟨by decide +kernel, by decide +kernel, ?_⟩; show _ = some 1; decide +kernel) hR (lt_X3 hk) (cE_X3 hk _) rfl hP hS hsz hcat rfl hdg kk
theorem cv_X4_65 {p : Program} {l : Launch} {e : Env} {R : Room} {s : State} {m : MethodId} {args : Array Value} {below : List Frame} {meth : Method} {c : Code} {H : Heap} {locs : List Loc} {Q : State → Prop} {cc : ByteArray} {nL : Nat} {ret : Option FieldType} {pc : Nat} {ls : Array Slot} {rest : List Value} {D : va_G} {ids : Nat → ClassId} {ad tt : Nat → Nat} {h : Hp} (hA : adOk ad 59) (C : CX p s m args meth c cc nL ret RX4 D ids) (hX : (ExC tt ad) s s.heap) (hP : wp D (cEC ids ad) ad 59 h H) (hS : va_S (inW ad 59) s.heap H locs) {k : Nat} (hk : isX3 k) {a1 : Int32} {rv : Hp} (hf : f_X3_stay h k a1 = some rv) (hR : 0 + 1 ≤ R.frames ∧ 8 + (2 + 11) + 0 ≤ R.locals) (hsz : ls.size = nL) (hcat : (rest.map fun v => v.category).sum ≤ 8) (hdg : decode cc pc = .ok (.invokevirtual 65, 3)) (kk : ∀ (H1 : Heap) (locs1 : List Loc), wp D (cEC ids ad) ad 59 rv H1 → va_S (inW ad 59) s.heap H1 locs1 → W p l e R s m args below meth c H1 locs1 0 0 Q (F0 m (pc + 3) ls (rest))) : W p l e R s m args below meth c H locs 0 0 Q (F0 m pc ls (.int a1 :: .ref (ad k) :: rest)) :=
  u_callV (As := [.int a1]) (rv := none) C (exC_ok hA) hX (c_X3_stay l D ids ad tt hA hk hf) q_372 q_373 q_374 q_91 q_375 ⟨rfl, rfl⟩ (by refine ⟨by decide +kernel, by decide +kernel, ?_⟩; show _ = some 1; decide +kernel) hR (lt_X3 hk) (cE_X3 hk _) rfl hP hS hsz hcat rfl hdg kk
abbrev rm_X4_givePier : Room := { frames := 1, cells := 0, slots := 0, locals := 21 }
set_option maxRecDepth 100000 in
set_option maxHeartbeats 4000000 in
theorem w_X4_givePier_62 {p : Program} {l : Launch} {e : Env} {s : State} {m : MethodId} {args : Array Value} {below : List Frame} {meth : Method} {c : Code} {D : va_G} {ids : Nat → ClassId} {ad tt : Nat → Nat} {rv : Hp} (hA : adOk ad 59) (C : CX p s m args meth c cX4_givePier 12 none RX4 D ids) (hX : (ExC tt ad) s s.heap) {K19 : Hp → Int32 → Int32 → Int32 → Int32 → Int32 → Int32 → Option (Hp)} (hK19 : ∀ (h : Hp) (x1 : Int32) (x2 : Int32) (x3 : Int32) (x4 : Int32) (x6 : Int32) (x7 : Int32) (H : Heap) (locs : List Loc) (ls : Array Slot), K19 h x1 x2 x3 x4 x6 x7 = some rv → wp D (cEC ids ad) ad 59 h H → va_S (inW ad 59) s.heap H locs → lv_has ls 12 [(0, .ref (ad 48)), (1, .int x1), (2, .int x2), (3, .int x3), (4, .int x4), (5, .ref (ad 49)), (6, .int x6), (7, .int x7)] → W p l e rm_X4_givePier s m args below meth c H locs 0 0 (MQ below (QW D (cEC ids ad) ad 59 none rv) args s 0 0 (inW ad 59)) (F0 m 19 ls [])) : ∀ (h : Hp) (x1 : Int32) (x2 : Int32) (x3 : Int32) (x4 : Int32) (x6 : Int32) (x7 : Int32) (H : Heap) (locs : List Loc) (ls : Array Slot), f_X4_givePier_62 K19 h x1 x2 x3 x4 x6 x7 = some rv → wp D (cEC ids ad) ad 59 h H → va_S (inW ad 59) s.heap H locs → lv_has ls 12 [(0, .ref (ad 48)), (1, .int x1), (2, .int x2), (3, .int x3), (4, .int x4), (5, .ref (ad 49)), (6, .int x6), (7, .int x7)] → W p l e rm_X4_givePier s m args below meth c H locs 0 0 (MQ below (QW D (cEC ids ad) ad 59 none rv) args s 0 0 (inW ad 59)) (F0 m 62 ls []) := by
  intro h x1 x2 x3 x4 x6 x7 H locs ls hf hP hS hl
  unfold f_X4_givePier_62 at hf
  refine lv_iinc (v := (x7 + 1)) (lv' := [(7, .int (x7 + 1)), (0, .ref (ad 48)), (1, .int x1), (2, .int x2), (3, .int x3), (4, .int x4), (5, .ref (ad 49)), (6, .int x6)]) C.1 C.2.1 dX4_givePier_62 hl (k := 7) rfl (by rfl) (by decide) rfl (fun ls hl => ?_)
  refine lv_goto (tgt := 19) C.1 C.2.1 dX4_givePier_65 (by decide) ?_
  exact hK19 _ _ _ _ _ _ _ _ _ _ hf hP hS (lv_sub hl [1, 2, 3, 4, 5, 6, 7, 0] rfl)
set_option maxRecDepth 100000 in
set_option maxHeartbeats 4000000 in
theorem w_X4_givePier_48 {p : Program} {l : Launch} {e : Env} {s : State} {m : MethodId} {args : Array Value} {below : List Frame} {meth : Method} {c : Code} {D : va_G} {ids : Nat → ClassId} {ad tt : Nat → Nat} {rv : Hp} (hA : adOk ad 59) (C : CX p s m args meth c cX4_givePier 12 none RX4 D ids) (hX : (ExC tt ad) s s.heap) {K19 : Hp → Int32 → Int32 → Int32 → Int32 → Int32 → Int32 → Option (Hp)} (hK19 : ∀ (h : Hp) (x1 : Int32) (x2 : Int32) (x3 : Int32) (x4 : Int32) (x6 : Int32) (x7 : Int32) (H : Heap) (locs : List Loc) (ls : Array Slot), K19 h x1 x2 x3 x4 x6 x7 = some rv → wp D (cEC ids ad) ad 59 h H → va_S (inW ad 59) s.heap H locs → lv_has ls 12 [(0, .ref (ad 48)), (1, .int x1), (2, .int x2), (3, .int x3), (4, .int x4), (5, .ref (ad 49)), (6, .int x6), (7, .int x7)] → W p l e rm_X4_givePier s m args below meth c H locs 0 0 (MQ below (QW D (cEC ids ad) ad 59 none rv) args s 0 0 (inW ad 59)) (F0 m 19 ls [])) : ∀ (h : Hp) (x1 : Int32) (x2 : Int32) (x4 : Int32) (x6 : Int32) (x7 : Int32) (r8 : Nat) (t0 : Int32) (t1 : Int32) (H : Heap) (locs : List Loc) (ls : Array Slot), f_X4_givePier_48 K19 h x1 x2 x4 x6 x7 r8 t0 t1 = some rv → wp D (cEC ids ad) ad 59 h H → va_S (inW ad 59) s.heap H locs → isX3 r8 → lv_has ls 12 [(0, .ref (ad 48)), (1, .int x1), (2, .int x2), (4, .int x4), (5, .ref (ad 49)), (6, .int x6), (7, .int x7), (8, .ref (ad r8))] → W p l e rm_X4_givePier s m args below meth c H locs 0 0 (MQ below (QW D (cEC ids ad) ad 59 none rv) args s 0 0 (inW ad 59)) (F0 m 48 ls [.int t1, .int t0]) := by
  intro h x1 x2 x4 x6 x7 r8 t0 t1 H locs ls hf hP hS hr8 hl
  unfold f_X4_givePier_48 at hf
  refine lv_iadd C.1 C.2.1 dX4_givePier_48 ?_
  refine lv_istore_n (lv' := [(3, .int (t0 + t1)), (0, .ref (ad 48)), (1, .int x1), (2, .int x2), (4, .int x4), (5, .ref (ad 49)), (6, .int x6), (7, .int x7), (8, .ref (ad r8))]) C.1 C.2.1 dX4_givePier_49 rfl hl (by decide) rfl (fun ls hl => ?_)
  refine lv_aload C.1 C.2.1 dX4_givePier_50 (lv_at hl 8 rfl) ?_
  refine lv_iload_n C.1 C.2.1 dX4_givePier_52 rfl (lv_at hl 2 rfl) ?_
  obtain ⟨q1, eq1, hf⟩ := g_b hf
  refine cv_X4_54 hA C hX hP hS hr8 eq1 ⟨Nat.le_of_ble_eq_true rfl, Nat.le_of_ble_eq_true rfl⟩ hl.1 (Nat.le_of_ble_eq_true rfl) dX4_givePier_53 (fun H locs hP hS => ?_)
  refine lv_if_eq (tgt := 62) C.1 C.2.1 dX4_givePier_56 (by decide) (fun hc => ?_) (fun hc => ?_)
  · have hf := g_t hc hf
    exact w_X4_givePier_62 hA C hX hK19 _ _ _ _ _ _ _ _ _ _ hf hP hS (lv_sub hl [1, 2, 3, 0, 4, 5, 6, 7] rfl)
  · have hf := g_f hc hf
    refine lv_iconst (v := (1 : Int32)) C.1 C.2.1 dX4_givePier_59 (by decide) ?_
    refine lv_istore (lv' := [(4, .int (1 : Int32)), (3, .int (t0 + t1)), (0, .ref (ad 48)), (1, .int x1), (2, .int x2), (5, .ref (ad 49)), (6, .int x6), (7, .int x7), (8, .ref (ad r8))]) C.1 C.2.1 dX4_givePier_60 hl (by decide) rfl (fun ls hl => ?_)
    exact w_X4_givePier_62 hA C hX hK19 _ _ _ _ _ _ _ _ _ _ hf hP hS (lv_sub hl [2, 3, 4, 1, 0, 5, 6, 7] rfl)
set_option maxRecDepth 100000 in
set_option maxHeartbeats 4000000 in
theorem w_X4_givePier_172 {p : Program} {l : Launch} {e : Env} {s : State} {m : MethodId} {args : Array Value} {below : List Frame} {meth : Method} {c : Code} {D : va_G} {ids : Nat → ClassId} {ad tt : Nat → Nat} {rv : Hp} (hA : adOk ad 59) (C : CX p s m args meth c cX4_givePier 12 none RX4 D ids) (hX : (ExC tt ad) s s.heap) {K118 : Hp → Int32 → Int32 → Int32 → Int32 → Int32 → Int32 → Int32 → Int32 → Option (Hp)} (hK118 : ∀ (h : Hp) (x1 : Int32) (x2 : Int32) (x4 : Int32) (x5 : Int32) (x6 : Int32) (x7 : Int32) (x9 : Int32) (x10 : Int32) (H : Heap) (locs : List Loc) (ls : Array Slot), K118 h x1 x2 x4 x5 x6 x7 x9 x10 = some rv → wp D (cEC ids ad) ad 59 h H → va_S (inW ad 59) s.heap H locs → lv_has ls 12 [(1, .int x1), (2, .int x2), (4, .int x4), (5, .int x5), (6, .int x6), (7, .int x7), (8, .ref (ad 49)), (9, .int x9), (10, .int x10)] → W p l e rm_X4_givePier s m args below meth c H locs 0 0 (MQ below (QW D (cEC ids ad) ad 59 none rv) args s 0 0 (inW ad 59)) (F0 m 118 ls [])) : ∀ (h : Hp) (x1 : Int32) (x2 : Int32) (x4 : Int32) (x5 : Int32) (x6 : Int32) (x7 : Int32) (x9 : Int32) (x10 : Int32) (H : Heap) (locs : List Loc) (ls : Array Slot), f_X4_givePier_172 K118 h x1 x2 x4 x5 x6 x7 x9 x10 = some rv → wp D (cEC ids ad) ad 59 h H → va_S (inW ad 59) s.heap H locs → lv_has ls 12 [(1, .int x1), (2, .int x2), (4, .int x4), (5, .int x5), (6, .int x6), (7, .int x7), (8, .ref (ad 49)), (9, .int x9), (10, .int x10)] → W p l e rm_X4_givePier s m args below meth c H locs 0 0 (MQ below (QW D (cEC ids ad) ad 59 none rv) args s 0 0 (inW ad 59)) (F0 m 172 ls []) := by
  intro h x1 x2 x4 x5 x6 x7 x9 x10 H locs ls hf hP hS hl
  unfold f_X4_givePier_172 at hf
  refine lv_iinc (v := (x10 + 1)) (lv' := [(10, .int (x10 + 1)), (1, .int x1), (2, .int x2), (4, .int x4), (5, .int x5), (6, .int x6), (7, .int x7), (8, .ref (ad 49)), (9, .int x9)]) C.1 C.2.1 dX4_givePier_172 hl (k := 8) rfl (by rfl) (by decide) rfl (fun ls hl => ?_)
  refine lv_goto (tgt := 118) C.1 C.2.1 dX4_givePier_175 (by decide) ?_
  exact hK118 _ _ _ _ _ _ _ _ _ _ _ _ hf hP hS (lv_sub hl [1, 2, 3, 4, 5, 6, 7, 8, 0] rfl)
set_option maxRecDepth 100000 in
set_option maxHeartbeats 4000000 in
theorem w_X4_givePier_169 {p : Program} {l : Launch} {e : Env} {s : State} {m : MethodId} {args : Array Value} {below : List Frame} {meth : Method} {c : Code} {D : va_G} {ids : Nat → ClassId} {ad tt : Nat → Nat} {rv : Hp} (hA : adOk ad 59) (C : CX p s m args meth c cX4_givePier 12 none RX4 D ids) (hX : (ExC tt ad) s s.heap) {K118 : Hp → Int32 → Int32 → Int32 → Int32 → Int32 → Int32 → Int32 → Int32 → Option (Hp)} (hK118 : ∀ (h : Hp) (x1 : Int32) (x2 : Int32) (x4 : Int32) (x5 : Int32) (x6 : Int32) (x7 : Int32) (x9 : Int32) (x10 : Int32) (H : Heap) (locs : List Loc) (ls : Array Slot), K118 h x1 x2 x4 x5 x6 x7 x9 x10 = some rv → wp D (cEC ids ad) ad 59 h H → va_S (inW ad 59) s.heap H locs → lv_has ls 12 [(1, .int x1), (2, .int x2), (4, .int x4), (5, .int x5), (6, .int x6), (7, .int x7), (8, .ref (ad 49)), (9, .int x9), (10, .int x10)] → W p l e rm_X4_givePier s m args below meth c H locs 0 0 (MQ below (QW D (cEC ids ad) ad 59 none rv) args s 0 0 (inW ad 59)) (F0 m 118 ls [])) : ∀ (h : Hp) (x1 : Int32) (x2 : Int32) (x4 : Int32) (x5 : Int32) (x6 : Int32) (x7 : Int32) (x9 : Int32) (x10 : Int32) (H : Heap) (locs : List Loc) (ls : Array Slot), f_X4_givePier_169 K118 h x1 x2 x4 x5 x6 x7 x9 x10 = some rv → wp D (cEC ids ad) ad 59 h H → va_S (inW ad 59) s.heap H locs → lv_has ls 12 [(1, .int x1), (2, .int x2), (4, .int x4), (5, .int x5), (6, .int x6), (7, .int x7), (8, .ref (ad 49)), (9, .int x9), (10, .int x10)] → W p l e rm_X4_givePier s m args below meth c H locs 0 0 (MQ below (QW D (cEC ids ad) ad 59 none rv) args s 0 0 (inW ad 59)) (F0 m 169 ls []) := by
  intro h x1 x2 x4 x5 x6 x7 x9 x10 H locs ls hf hP hS hl
  unfold f_X4_givePier_169 at hf
  refine lv_iinc (v := (x7 + 1)) (lv' := [(7, .int (x7 + 1)), (1, .int x1), (2, .int x2), (4, .int x4), (5, .int x5), (6, .int x6), (8, .ref (ad 49)), (9, .int x9), (10, .int x10)]) C.1 C.2.1 dX4_givePier_169 hl (k := 5) rfl (by rfl) (by decide) rfl (fun ls hl => ?_)
  exact w_X4_givePier_172 hA C hX hK118 _ _ _ _ _ _ _ _ _ _ _ _ hf hP hS (lv_sub hl [1, 2, 3, 4, 5, 0, 6, 7, 8] rfl)
set_option maxRecDepth 100000 in
set_option maxHeartbeats 4000000 in
theorem w_X4_givePier_162 {p : Program} {l : Launch} {e : Env} {s : State} {m : MethodId} {args : Array Value} {below : List Frame} {meth : Method} {c : Code} {D : va_G} {ids : Nat → ClassId} {ad tt : Nat → Nat} {rv : Hp} (hA : adOk ad 59) (C : CX p s m args meth c cX4_givePier 12 none RX4 D ids) (hX : (ExC tt ad) s s.heap) {K118 : Hp → Int32 → Int32 → Int32 → Int32 → Int32 → Int32 → Int32 → Int32 → Option (Hp)} (hK118 : ∀ (h : Hp) (x1 : Int32) (x2 : Int32) (x4 : Int32) (x5 : Int32) (x6 : Int32) (x7 : Int32) (x9 : Int32) (x10 : Int32) (H : Heap) (locs : List Loc) (ls : Array Slot), K118 h x1 x2 x4 x5 x6 x7 x9 x10 = some rv → wp D (cEC ids ad) ad 59 h H → va_S (inW ad 59) s.heap H locs → lv_has ls 12 [(1, .int x1), (2, .int x2), (4, .int x4), (5, .int x5), (6, .int x6), (7, .int x7), (8, .ref (ad 49)), (9, .int x9), (10, .int x10)] → W p l e rm_X4_givePier s m args below meth c H locs 0 0 (MQ below (QW D (cEC ids ad) ad 59 none rv) args s 0 0 (inW ad 59)) (F0 m 118 ls [])) : ∀ (h : Hp) (x1 : Int32) (x2 : Int32) (x4 : Int32) (x5 : Int32) (x6 : Int32) (x7 : Int32) (x9 : Int32) (x10 : Int32) (r11 : Nat) (H : Heap) (locs : List Loc) (ls : Array Slot), f_X4_givePier_162 K118 h x1 x2 x4 x5 x6 x7 x9 x10 r11 = some rv → wp D (cEC ids ad) ad 59 h H → va_S (inW ad 59) s.heap H locs → isX3 r11 → lv_has ls 12 [(1, .int x1), (2, .int x2), (4, .int x4), (5, .int x5), (6, .int x6), (7, .int x7), (8, .ref (ad 49)), (9, .int x9), (10, .int x10), (11, .ref (ad r11))] → W p l e rm_X4_givePier s m args below meth c H locs 0 0 (MQ below (QW D (cEC ids ad) ad 59 none rv) args s 0 0 (inW ad 59)) (F0 m 162 ls []) := by
  intro h x1 x2 x4 x5 x6 x7 x9 x10 r11 H locs ls hf hP hS hr11 hl
  unfold f_X4_givePier_162 at hf
  refine lv_aload C.1 C.2.1 dX4_givePier_162 (lv_at hl 9 rfl) ?_
  refine lv_iload C.1 C.2.1 dX4_givePier_164 (lv_at hl 3 rfl) ?_
  obtain ⟨q1, eq1, hf⟩ := g_b hf
  refine cv_X4_65 hA C hX hP hS hr11 eq1 ⟨Nat.le_of_ble_eq_true rfl, Nat.le_of_ble_eq_true rfl⟩ hl.1 (Nat.le_of_ble_eq_true rfl) dX4_givePier_166 (fun H locs hP hS => ?_)
  exact w_X4_givePier_169 hA C hX hK118 _ _ _ _ _ _ _ _ _ _ _ _ hf hP hS (lv_sub hl [0, 1, 2, 3, 4, 5, 6, 7, 8] rfl)
set_option maxRecDepth 100000 in
set_option maxHeartbeats 4000000 in
theorem w_X4_givePier_118 {p : Program} {l : Launch} {e : Env} {s : State} {m : MethodId} {args : Array Value} {below : List Frame} {meth : Method} {c : Code} {D : va_G} {ids : Nat → ClassId} {ad tt : Nat → Nat} {rv : Hp} (hA : adOk ad 59) (C : CX p s m args meth c cX4_givePier 12 none RX4 D ids) (hX : (ExC tt ad) s s.heap) : ∀ (fu : Nat), ∀ (h : Hp) (x1 : Int32) (x2 : Int32) (x4 : Int32) (x5 : Int32) (x6 : Int32) (x7 : Int32) (x9 : Int32) (x10 : Int32) (H : Heap) (locs : List Loc) (ls : Array Slot), f_X4_givePier_118 fu h x1 x2 x4 x5 x6 x7 x9 x10 = some rv → wp D (cEC ids ad) ad 59 h H → va_S (inW ad 59) s.heap H locs → lv_has ls 12 [(1, .int x1), (2, .int x2), (4, .int x4), (5, .int x5), (6, .int x6), (7, .int x7), (8, .ref (ad 49)), (9, .int x9), (10, .int x10)] → W p l e rm_X4_givePier s m args below meth c H locs 0 0 (MQ below (QW D (cEC ids ad) ad 59 none rv) args s 0 0 (inW ad 59)) (F0 m 118 ls []) := by
  intro fu
  induction fu with
  | zero =>
    intro h x1 x2 x4 x5 x6 x7 x9 x10 H locs ls hf hP hS hl
    cases hf
  | succ fu ih =>
    intro h x1 x2 x4 x5 x6 x7 x9 x10 H locs ls hf hP hS hl
    rw [f_X4_givePier_118_s] at hf
    refine lv_iload C.1 C.2.1 dX4_givePier_118 (lv_at hl 8 rfl) ?_
    refine lv_iload C.1 C.2.1 dX4_givePier_120 (lv_at hl 7 rfl) ?_
    refine lv_icmp_ge (tgt := 178) C.1 C.2.1 dX4_givePier_122 (by decide) (fun hc => ?_) (fun hc => ?_)
    · have hf := g_t hc hf
      obtain rfl := Option.some.inj hf
      exact u_vret C hP hS dX4_givePier_178
    · have hf := g_f hc hf
      refine lv_aload C.1 C.2.1 dX4_givePier_125 (lv_at hl 6 rfl) ?_
      refine lv_iload C.1 C.2.1 dX4_givePier_127 (lv_at hl 8 rfl) ?_
      obtain ⟨hg1, hf⟩ := g_if hf
      refine rl_aFe C hP hg1 dX4_givePier_129 ?_
      refine lv_astore (lv' := [(11, .ref (ad (50 + 3 * x10.toNatClampNeg))), (1, .int x1), (2, .int x2), (4, .int x4), (5, .int x5), (6, .int x6), (7, .int x7), (8, .ref (ad 49)), (9, .int x9), (10, .int x10)]) C.1 C.2.1 dX4_givePier_130 hl (by decide) rfl (fun ls hl => ?_)
      refine lv_aload C.1 C.2.1 dX4_givePier_132 (lv_at hl 0 rfl) ?_
      refine lv_iload_n C.1 C.2.1 dX4_givePier_134 rfl (lv_at hl 1 rfl) ?_
      obtain ⟨q2, eq2, hf⟩ := g_b hf
      refine cv_X4_50 hA C hX hP hS (fe_el hg1) eq2 ⟨Nat.le_of_ble_eq_true rfl, Nat.le_of_ble_eq_true rfl⟩ hl.1 (Nat.le_of_ble_eq_true rfl) dX4_givePier_135 (fun H locs hP hS => ?_)
      refine lv_if_eq (tgt := 172) C.1 C.2.1 dX4_givePier_138 (by decide) (fun hc => ?_) (fun hc => ?_)
      · have hf := g_t hc hf
        exact w_X4_givePier_172 hA C hX ih _ _ _ _ _ _ _ _ _ _ _ _ hf hP hS (lv_sub hl [1, 2, 3, 4, 5, 6, 7, 8, 9] rfl)
      · have hf := g_f hc hf
        refine lv_iload C.1 C.2.1 dX4_givePier_141 (lv_at hl 3 rfl) ?_
        refine lv_if_ne (tgt := 162) C.1 C.2.1 dX4_givePier_143 (by decide) (fun hc => ?_) (fun hc => ?_)
        · have hf := g_f hc hf
          exact w_X4_givePier_162 hA C hX ih _ _ _ _ _ _ _ _ _ _ _ _ _ hf hP hS (fe_el hg1) (lv_sub hl [1, 2, 3, 4, 5, 6, 7, 8, 9, 0] rfl)
        · have hf := g_t hc hf
          refine lv_iload C.1 C.2.1 dX4_givePier_146 (lv_at hl 6 rfl) ?_
          refine lv_iload C.1 C.2.1 dX4_givePier_148 (lv_at hl 5 rfl) ?_
          refine lv_icmp_ne (tgt := 162) C.1 C.2.1 dX4_givePier_150 (by decide) (fun hc => ?_) (fun hc => ?_)
          · have hf := g_f hc hf
            exact w_X4_givePier_162 hA C hX ih _ _ _ _ _ _ _ _ _ _ _ _ _ hf hP hS (fe_el hg1) (lv_sub hl [1, 2, 3, 4, 5, 6, 7, 8, 9, 0] rfl)
          · have hf := g_t hc hf
            refine lv_aload C.1 C.2.1 dX4_givePier_153 (lv_at hl 0 rfl) ?_
            refine lv_iload_n C.1 C.2.1 dX4_givePier_155 rfl (lv_at hl 2 rfl) ?_
            obtain ⟨q3, eq3, hf⟩ := g_b hf
            refine cv_X4_61 hA C hX hP hS (fe_el hg1) eq3 ⟨Nat.le_of_ble_eq_true rfl, Nat.le_of_ble_eq_true rfl⟩ hl.1 (Nat.le_of_ble_eq_true rfl) dX4_givePier_156 (fun H locs hP hS => ?_)
            refine lv_goto (tgt := 169) C.1 C.2.1 dX4_givePier_159 (by decide) ?_
            exact w_X4_givePier_169 hA C hX ih _ _ _ _ _ _ _ _ _ _ _ _ hf hP hS (lv_sub hl [1, 2, 3, 4, 5, 6, 7, 8, 9] rfl)
set_option maxRecDepth 100000 in
set_option maxHeartbeats 4000000 in
theorem w_X4_givePier_99 {p : Program} {l : Launch} {e : Env} {s : State} {m : MethodId} {args : Array Value} {below : List Frame} {meth : Method} {c : Code} {D : va_G} {ids : Nat → ClassId} {ad tt : Nat → Nat} {rv : Hp} (hA : adOk ad 59) (C : CX p s m args meth c cX4_givePier 12 none RX4 D ids) (hX : (ExC tt ad) s s.heap) : ∀ (h : Hp) (x1 : Int32) (x2 : Int32) (x4 : Int32) (x5 : Int32) (t0 : Int32) (H : Heap) (locs : List Loc) (ls : Array Slot), f_X4_givePier_99 h x1 x2 x4 x5 t0 = some rv → wp D (cEC ids ad) ad 59 h H → va_S (inW ad 59) s.heap H locs → lv_has ls 12 [(0, .ref (ad 48)), (1, .int x1), (2, .int x2), (4, .int x4), (5, .int x5)] → W p l e rm_X4_givePier s m args below meth c H locs 0 0 (MQ below (QW D (cEC ids ad) ad 59 none rv) args s 0 0 (inW ad 59)) (F0 m 99 ls [.int t0]) := by
  intro h x1 x2 x4 x5 t0 H locs ls hf hP hS hl
  unfold f_X4_givePier_99 at hf
  refine lv_istore (lv' := [(6, .int t0), (0, .ref (ad 48)), (1, .int x1), (2, .int x2), (4, .int x4), (5, .int x5)]) C.1 C.2.1 dX4_givePier_99 hl (by decide) rfl (fun ls hl => ?_)
  refine lv_iconst (v := (0 : Int32)) C.1 C.2.1 dX4_givePier_101 (by decide) ?_
  refine lv_istore (lv' := [(7, .int (0 : Int32)), (6, .int t0), (0, .ref (ad 48)), (1, .int x1), (2, .int x2), (4, .int x4), (5, .int x5)]) C.1 C.2.1 dX4_givePier_102 hl (by decide) rfl (fun ls hl => ?_)
  refine lv_aload_n C.1 C.2.1 dX4_givePier_104 rfl (lv_at hl 2 rfl) ?_
  refine gf_X4_12 C hP dX4_givePier_105 ?_
  refine lv_astore (lv' := [(8, .ref (ad 49)), (7, .int (0 : Int32)), (6, .int t0), (0, .ref (ad 48)), (1, .int x1), (2, .int x2), (4, .int x4), (5, .int x5)]) C.1 C.2.1 dX4_givePier_108 hl (by decide) rfl (fun ls hl => ?_)
  refine lv_aload C.1 C.2.1 dX4_givePier_110 (lv_at hl 0 rfl) ?_
  refine ln_aFe C hP dX4_givePier_112 ?_
  refine lv_istore (lv' := [(9, .int (3 : Int32)), (8, .ref (ad 49)), (7, .int (0 : Int32)), (6, .int t0), (0, .ref (ad 48)), (1, .int x1), (2, .int x2), (4, .int x4), (5, .int x5)]) C.1 C.2.1 dX4_givePier_113 hl (by decide) rfl (fun ls hl => ?_)
  refine lv_iconst (v := (0 : Int32)) C.1 C.2.1 dX4_givePier_115 (by decide) ?_
  refine lv_istore (lv' := [(10, .int (0 : Int32)), (9, .int (3 : Int32)), (8, .ref (ad 49)), (7, .int (0 : Int32)), (6, .int t0), (0, .ref (ad 48)), (1, .int x1), (2, .int x2), (4, .int x4), (5, .int x5)]) C.1 C.2.1 dX4_givePier_116 hl (by decide) rfl (fun ls hl => ?_)
  exact w_X4_givePier_118 hA C hX _ _ _ _ _ _ _ _ _ _ _ _ _ hf hP hS (lv_sub hl [6, 7, 8, 9, 4, 3, 2, 1, 0] rfl)
set_option maxRecDepth 100000 in
set_option maxHeartbeats 4000000 in
theorem w_X4_givePier_83 {p : Program} {l : Launch} {e : Env} {s : State} {m : MethodId} {args : Array Value} {below : List Frame} {meth : Method} {c : Code} {D : va_G} {ids : Nat → ClassId} {ad tt : Nat → Nat} {rv : Hp} (hA : adOk ad 59) (C : CX p s m args meth c cX4_givePier 12 none RX4 D ids) (hX : (ExC tt ad) s s.heap) : ∀ (h : Hp) (x1 : Int32) (x2 : Int32) (x3 : Int32) (x4 : Int32) (t0 : Int32) (H : Heap) (locs : List Loc) (ls : Array Slot), f_X4_givePier_83 h x1 x2 x3 x4 t0 = some rv → wp D (cEC ids ad) ad 59 h H → va_S (inW ad 59) s.heap H locs → lv_has ls 12 [(0, .ref (ad 48)), (1, .int x1), (2, .int x2), (3, .int x3), (4, .int x4)] → W p l e rm_X4_givePier s m args below meth c H locs 0 0 (MQ below (QW D (cEC ids ad) ad 59 none rv) args s 0 0 (inW ad 59)) (F0 m 83 ls [.int t0]) := by
  intro h x1 x2 x3 x4 t0 H locs ls hf hP hS hl
  unfold f_X4_givePier_83 at hf
  refine lv_istore (lv' := [(5, .int t0), (0, .ref (ad 48)), (1, .int x1), (2, .int x2), (3, .int x3), (4, .int x4)]) C.1 C.2.1 dX4_givePier_83 hl (by decide) rfl (fun ls hl => ?_)
  refine lv_iload C.1 C.2.1 dX4_givePier_85 (lv_at hl 0 rfl) ?_
  refine lv_if_eq (tgt := 98) C.1 C.2.1 dX4_givePier_87 (by decide) (fun hc => ?_) (fun hc => ?_)
  · have hf := g_t hc hf
    refine lv_iconst (v := (0 : Int32)) C.1 C.2.1 dX4_givePier_98 (by decide) ?_
    exact w_X4_givePier_99 hA C hX _ _ _ _ _ _ _ _ _ hf hP hS (lv_sub hl [1, 2, 3, 5, 0] rfl)
  · have hf := g_f hc hf
    refine lv_aload_n C.1 C.2.1 dX4_givePier_90 rfl (lv_at hl 1 rfl) ?_
    refine lv_iload_n C.1 C.2.1 dX4_givePier_91 rfl (lv_at hl 4 rfl) ?_
    obtain ⟨q1, eq1, hf⟩ := g_b hf
    refine cv_X4_57 hA C hX hP hS eq1 ⟨Nat.le_of_ble_eq_true rfl, Nat.le_of_ble_eq_true rfl⟩ hl.1 (Nat.le_of_ble_eq_true rfl) dX4_givePier_92 (fun H locs hP hS => ?_)
    refine lv_goto (tgt := 99) C.1 C.2.1 dX4_givePier_95 (by decide) ?_
    exact w_X4_givePier_99 hA C hX _ _ _ _ _ _ _ _ _ hf hP hS (lv_sub hl [1, 2, 3, 5, 0] rfl)
set_option maxRecDepth 100000 in
set_option maxHeartbeats 4000000 in
theorem w_X4_givePier_82 {p : Program} {l : Launch} {e : Env} {s : State} {m : MethodId} {args : Array Value} {below : List Frame} {meth : Method} {c : Code} {D : va_G} {ids : Nat → ClassId} {ad tt : Nat → Nat} {rv : Hp} (hA : adOk ad 59) (C : CX p s m args meth c cX4_givePier 12 none RX4 D ids) (hX : (ExC tt ad) s s.heap) : ∀ (h : Hp) (x1 : Int32) (x2 : Int32) (x3 : Int32) (x4 : Int32) (H : Heap) (locs : List Loc) (ls : Array Slot), f_X4_givePier_82 h x1 x2 x3 x4 = some rv → wp D (cEC ids ad) ad 59 h H → va_S (inW ad 59) s.heap H locs → lv_has ls 12 [(0, .ref (ad 48)), (1, .int x1), (2, .int x2), (3, .int x3), (4, .int x4)] → W p l e rm_X4_givePier s m args below meth c H locs 0 0 (MQ below (QW D (cEC ids ad) ad 59 none rv) args s 0 0 (inW ad 59)) (F0 m 82 ls []) := by
  intro h x1 x2 x3 x4 H locs ls hf hP hS hl
  unfold f_X4_givePier_82 at hf
  refine lv_iconst (v := (0 : Int32)) C.1 C.2.1 dX4_givePier_82 (by decide) ?_
  exact w_X4_givePier_83 hA C hX _ _ _ _ _ _ _ _ _ hf hP hS (lv_sub hl [0, 1, 2, 3, 4] rfl)
set_option maxRecDepth 100000 in
set_option maxHeartbeats 4000000 in
theorem w_X4_givePier_19 {p : Program} {l : Launch} {e : Env} {s : State} {m : MethodId} {args : Array Value} {below : List Frame} {meth : Method} {c : Code} {D : va_G} {ids : Nat → ClassId} {ad tt : Nat → Nat} {rv : Hp} (hA : adOk ad 59) (C : CX p s m args meth c cX4_givePier 12 none RX4 D ids) (hX : (ExC tt ad) s s.heap) : ∀ (fu : Nat), ∀ (h : Hp) (x1 : Int32) (x2 : Int32) (x3 : Int32) (x4 : Int32) (x6 : Int32) (x7 : Int32) (H : Heap) (locs : List Loc) (ls : Array Slot), f_X4_givePier_19 fu h x1 x2 x3 x4 x6 x7 = some rv → wp D (cEC ids ad) ad 59 h H → va_S (inW ad 59) s.heap H locs → lv_has ls 12 [(0, .ref (ad 48)), (1, .int x1), (2, .int x2), (3, .int x3), (4, .int x4), (5, .ref (ad 49)), (6, .int x6), (7, .int x7)] → W p l e rm_X4_givePier s m args below meth c H locs 0 0 (MQ below (QW D (cEC ids ad) ad 59 none rv) args s 0 0 (inW ad 59)) (F0 m 19 ls []) := by
  intro fu
  induction fu with
  | zero =>
    intro h x1 x2 x3 x4 x6 x7 H locs ls hf hP hS hl
    cases hf
  | succ fu ih =>
    intro h x1 x2 x3 x4 x6 x7 H locs ls hf hP hS hl
    rw [f_X4_givePier_19_s] at hf
    refine lv_iload C.1 C.2.1 dX4_givePier_19 (lv_at hl 7 rfl) ?_
    refine lv_iload C.1 C.2.1 dX4_givePier_21 (lv_at hl 6 rfl) ?_
    refine lv_icmp_ge (tgt := 68) C.1 C.2.1 dX4_givePier_23 (by decide) (fun hc => ?_) (fun hc => ?_)
    · have hf := g_t hc hf
      refine lv_iload C.1 C.2.1 dX4_givePier_68 (lv_at hl 4 rfl) ?_
      refine lv_if_ne (tgt := 82) C.1 C.2.1 dX4_givePier_70 (by decide) (fun hc => ?_) (fun hc => ?_)
      · have hf := g_f hc hf
        exact w_X4_givePier_82 hA C hX _ _ _ _ _ _ _ _ hf hP hS (lv_sub hl [0, 1, 2, 3, 4] rfl)
      · have hf := g_t hc hf
        refine lv_iload_n C.1 C.2.1 dX4_givePier_73 rfl (lv_at hl 3 rfl) ?_
        refine lv_iconst (v := (1 : Int32)) C.1 C.2.1 dX4_givePier_74 (by decide) ?_
        refine lv_icmp_le (tgt := 82) C.1 C.2.1 dX4_givePier_75 (by decide) (fun hc => ?_) (fun hc => ?_)
        · have hf := g_t hc hf
          exact w_X4_givePier_82 hA C hX _ _ _ _ _ _ _ _ hf hP hS (lv_sub hl [0, 1, 2, 3, 4] rfl)
        · have hf := g_f hc hf
          refine lv_iconst (v := (1 : Int32)) C.1 C.2.1 dX4_givePier_78 (by decide) ?_
          refine lv_goto (tgt := 83) C.1 C.2.1 dX4_givePier_79 (by decide) ?_
          exact w_X4_givePier_83 hA C hX _ _ _ _ _ _ _ _ _ hf hP hS (lv_sub hl [0, 1, 2, 3, 4] rfl)
    · have hf := g_f hc hf
      refine lv_aload C.1 C.2.1 dX4_givePier_26 (lv_at hl 5 rfl) ?_
      refine lv_iload C.1 C.2.1 dX4_givePier_28 (lv_at hl 7 rfl) ?_
      obtain ⟨hg1, hf⟩ := g_if hf
      refine rl_aFe C hP hg1 dX4_givePier_30 ?_
      refine lv_astore (lv' := [(8, .ref (ad (50 + 3 * x7.toNatClampNeg))), (0, .ref (ad 48)), (1, .int x1), (2, .int x2), (3, .int x3), (4, .int x4), (5, .ref (ad 49)), (6, .int x6), (7, .int x7)]) C.1 C.2.1 dX4_givePier_31 hl (by decide) rfl (fun ls hl => ?_)
      refine lv_iload_n C.1 C.2.1 dX4_givePier_33 rfl (lv_at hl 4 rfl) ?_
      refine lv_aload C.1 C.2.1 dX4_givePier_34 (lv_at hl 0 rfl) ?_
      refine lv_iload_n C.1 C.2.1 dX4_givePier_36 rfl (lv_at hl 2 rfl) ?_
      obtain ⟨q2, eq2, hf⟩ := g_b hf
      refine cv_X4_50 hA C hX hP hS (fe_el hg1) eq2 ⟨Nat.le_of_ble_eq_true rfl, Nat.le_of_ble_eq_true rfl⟩ hl.1 (Nat.le_of_ble_eq_true rfl) dX4_givePier_37 (fun H locs hP hS => ?_)
      refine lv_if_eq (tgt := 47) C.1 C.2.1 dX4_givePier_40 (by decide) (fun hc => ?_) (fun hc => ?_)
      · have hf := g_t hc hf
        refine lv_iconst (v := (0 : Int32)) C.1 C.2.1 dX4_givePier_47 (by decide) ?_
        exact w_X4_givePier_48 hA C hX ih _ _ _ _ _ _ _ _ _ _ _ _ hf hP hS (fe_el hg1) (lv_sub hl [1, 2, 3, 5, 6, 7, 8, 0] rfl)
      · have hf := g_f hc hf
        refine lv_iconst (v := (1 : Int32)) C.1 C.2.1 dX4_givePier_43 (by decide) ?_
        refine lv_goto (tgt := 48) C.1 C.2.1 dX4_givePier_44 (by decide) ?_
        exact w_X4_givePier_48 hA C hX ih _ _ _ _ _ _ _ _ _ _ _ _ hf hP hS (fe_el hg1) (lv_sub hl [1, 2, 3, 5, 6, 7, 8, 0] rfl)
set_option maxRecDepth 100000 in
set_option maxHeartbeats 4000000 in
theorem w_X4_givePier {p : Program} {l : Launch} {e : Env} {s : State} {m : MethodId} {args : Array Value} {below : List Frame} {meth : Method} {c : Code} {D : va_G} {ids : Nat → ClassId} {ad tt : Nat → Nat} {rv : Hp} (hA : adOk ad 59) (C : CX p s m args meth c cX4_givePier 12 none RX4 D ids) (hX : (ExC tt ad) s s.heap) : ∀ (h : Hp) (a1 : Int32) (a2 : Int32) (H : Heap) (locs : List Loc) (ls : Array Slot), f_X4_givePier h a1 a2 = some rv → wp D (cEC ids ad) ad 59 h H → va_S (inW ad 59) s.heap H locs → lv_has ls 12 [(0, .ref (ad 48)), (1, .int a1), (2, .int a2)] → W p l e rm_X4_givePier s m args below meth c H locs 0 0 (MQ below (QW D (cEC ids ad) ad 59 none rv) args s 0 0 (inW ad 59)) (F0 m 0 ls []) := by
  intro h a1 a2 H locs ls hf hP hS hl
  unfold f_X4_givePier at hf
  refine lv_iconst (v := (0 : Int32)) C.1 C.2.1 dX4_givePier_0 (by decide) ?_
  refine lv_istore_n (lv' := [(3, .int (0 : Int32)), (0, .ref (ad 48)), (1, .int a1), (2, .int a2)]) C.1 C.2.1 dX4_givePier_1 rfl hl (by decide) rfl (fun ls hl => ?_)
  refine lv_iconst (v := (0 : Int32)) C.1 C.2.1 dX4_givePier_2 (by decide) ?_
  refine lv_istore (lv' := [(4, .int (0 : Int32)), (3, .int (0 : Int32)), (0, .ref (ad 48)), (1, .int a1), (2, .int a2)]) C.1 C.2.1 dX4_givePier_3 hl (by decide) rfl (fun ls hl => ?_)
  refine lv_aload_n C.1 C.2.1 dX4_givePier_5 rfl (lv_at hl 2 rfl) ?_
  refine gf_X4_12 C hP dX4_givePier_6 ?_
  refine lv_astore (lv' := [(5, .ref (ad 49)), (4, .int (0 : Int32)), (3, .int (0 : Int32)), (0, .ref (ad 48)), (1, .int a1), (2, .int a2)]) C.1 C.2.1 dX4_givePier_9 hl (by decide) rfl (fun ls hl => ?_)
  refine lv_aload C.1 C.2.1 dX4_givePier_11 (lv_at hl 0 rfl) ?_
  refine ln_aFe C hP dX4_givePier_13 ?_
  refine lv_istore (lv' := [(6, .int (3 : Int32)), (5, .ref (ad 49)), (4, .int (0 : Int32)), (3, .int (0 : Int32)), (0, .ref (ad 48)), (1, .int a1), (2, .int a2)]) C.1 C.2.1 dX4_givePier_14 hl (by decide) rfl (fun ls hl => ?_)
  refine lv_iconst (v := (0 : Int32)) C.1 C.2.1 dX4_givePier_16 (by decide) ?_
  refine lv_istore (lv' := [(7, .int (0 : Int32)), (6, .int (3 : Int32)), (5, .ref (ad 49)), (4, .int (0 : Int32)), (3, .int (0 : Int32)), (0, .ref (ad 48)), (1, .int a1), (2, .int a2)]) C.1 C.2.1 dX4_givePier_17 hl (by decide) rfl (fun ls hl => ?_)
  exact w_X4_givePier_19 hA C hX _ _ _ _ _ _ _ _ _ _ _ hf hP hS (lv_sub hl [5, 6, 7, 4, 3, 2, 1, 0] rfl)
theorem c_X4_givePier (l : Launch) (D : va_G) (ids : Nat → ClassId) (ad tt : Nat → Nat) (hA : adOk ad 59) {a1 : Int32} {a2 : Int32} {h : Hp} {rv : Hp} (hf : f_X4_givePier h a1 a2 = some rv) : Met l yX4_givePier (ws_ yX4_givePier cX4_givePier 12 none) rm_X4_givePier (va_Pc [.ref (ad 48), .int a1, .int a2] (WB D ids (cEC ids ad) ad 59 (ExC tt ad) h)) (QW D (cEC ids ad) ad 59 none rv) 0 0 (inW ad 59) :=
  u_met (own := RX4) (by decide) rfl (Nat.le_of_ble_eq_true rfl) rfl (fun p e s m args below meth c H ls C hX hP hS hl => w_X4_givePier (tt := tt) hA C hX _ _ _ _ _ _ hf hP hS hl)
theorem gf_X4_25 {p : Program} {l : Launch} {e : Env} {R : Room} {s : State} {m : MethodId} {args : Array Value} {below : List Frame} {meth : Method} {c : Code} {H : Heap} {locs : List Loc} {cells slots : Nat} {Q : State → Prop} {cc : ByteArray} {nL : Nat} {ret : Option FieldType} {pc : Nat} {ls : Array Slot} {rest : List Value} {D : va_G} {ids : Nat → ClassId} {ad : Nat → Nat} {h : Hp} (C : CX p s m args meth c cc nL ret RX4 D ids) {k : Nat} (hk : isX5 k) (hP : wp D (cEC ids ad) ad 59 h H) (hdg : decode cc pc = .ok (.getfield 25, 3)) (kk : W p l e R s m args below meth c H locs cells slots Q (F0 m (pc + 3) ls (.int (h k 4) :: rest))) : W p l e R s m args below meth c H locs cells slots Q (F0 m pc ls (.ref (ad k) :: rest)) :=
  u_get C hP (lt_X5 hk) (cE_X5 hk) rfl inX5 4 (by decide) rfl q_315 hdg kk
theorem gf_X4_28 {p : Program} {l : Launch} {e : Env} {R : Room} {s : State} {m : MethodId} {args : Array Value} {below : List Frame} {meth : Method} {c : Code} {H : Heap} {locs : List Loc} {cells slots : Nat} {Q : State → Prop} {cc : ByteArray} {nL : Nat} {ret : Option FieldType} {pc : Nat} {ls : Array Slot} {rest : List Value} {D : va_G} {ids : Nat → ClassId} {ad : Nat → Nat} {h : Hp} (C : CX p s m args meth c cc nL ret RX4 D ids) {k : Nat} (hk : isX5 k) (hP : wp D (cEC ids ad) ad 59 h H) (hdg : decode cc pc = .ok (.getfield 28, 3)) (kk : W p l e R s m args below meth c H locs cells slots Q (F0 m (pc + 3) ls (.ref (ad (k + 1)) :: rest))) : W p l e R s m args below meth c H locs cells slots Q (F0 m pc ls (.ref (ad k) :: rest)) :=
  u_get C hP (lt_X5 hk) (cE_X5 hk) rfl inX5 0 (by decide) rfl q_316 hdg kk
theorem cv_X4_32 {p : Program} {l : Launch} {e : Env} {R : Room} {s : State} {m : MethodId} {args : Array Value} {below : List Frame} {meth : Method} {c : Code} {H : Heap} {locs : List Loc} {Q : State → Prop} {cc : ByteArray} {nL : Nat} {ret : Option FieldType} {pc : Nat} {ls : Array Slot} {rest : List Value} {D : va_G} {ids : Nat → ClassId} {ad tt : Nat → Nat} {h : Hp} (hA : adOk ad 59) (C : CX p s m args meth c cc nL ret RX4 D ids) (hX : (ExC tt ad) s s.heap) (hP : wp D (cEC ids ad) ad 59 h H) (hS : va_S (inW ad 59) s.heap H locs) {k : Nat} (hk : isX3 k) {k1 : Nat} (hk1 : isX2 k1) {rv : Hp} (hf : f_X3_beginDay h k k1 = some rv) (hR : 3 + 1 ≤ R.frames ∧ 8 + (2 + 11) + 66 ≤ R.locals) (hsz : ls.size = nL) (hcat : (rest.map fun v => v.category).sum ≤ 8) (hdg : decode cc pc = .ok (.invokevirtual 32, 3)) (kk : ∀ (H1 : Heap) (locs1 : List Loc), wp D (cEC ids ad) ad 59 rv H1 → va_S (inW ad 59) s.heap H1 locs1 → W p l e R s m args below meth c H1 locs1 0 0 Q (F0 m (pc + 3) ls (rest))) : W p l e R s m args below meth c H locs 0 0 Q (F0 m pc ls (.ref (ad k1) :: .ref (ad k) :: rest)) :=
  u_callV (As := [.ref (ad k1)]) (rv := none) C (exC_ok hA) hX (c_X3_beginDay l D ids ad tt hA hk hk1 hf) q_318 q_319 q_320 q_91 q_321 ⟨rfl, rfl⟩ (by refine ⟨by decide +kernel, by decide +kernel, ?_⟩; show _ = some 1; decide +kernel) hR (lt_X3 hk) (cE_X3 hk _) rfl hP hS hsz hcat rfl hdg kk
theorem gf_X4_36 {p : Program} {l : Launch} {e : Env} {R : Room} {s : State} {m : MethodId} {args : Array Value} {below : List Frame} {meth : Method} {c : Code} {H : Heap} {locs : List Loc} {cells slots : Nat} {Q : State → Prop} {cc : ByteArray} {nL : Nat} {ret : Option FieldType} {pc : Nat} {ls : Array Slot} {rest : List Value} {D : va_G} {ids : Nat → ClassId} {ad : Nat → Nat} {h : Hp} (C : CX p s m args meth c cc nL ret RX4 D ids) {k : Nat} (hk : isX5 k) (hP : wp D (cEC ids ad) ad 59 h H) (hdg : decode cc pc = .ok (.getfield 36, 3)) (kk : W p l e R s m args below meth c H locs cells slots Q (F0 m (pc + 3) ls (.int (h k 3) :: rest))) : W p l e R s m args below meth c H locs cells slots Q (F0 m pc ls (.ref (ad k) :: rest)) :=
  u_get C hP (lt_X5 hk) (cE_X5 hk) rfl inX5 3 (by decide) rfl q_317 hdg kk
theorem cv_X4_39 {p : Program} {l : Launch} {e : Env} {R : Room} {s : State} {m : MethodId} {args : Array Value} {below : List Frame} {meth : Method} {c : Code} {H : Heap} {locs : List Loc} {Q : State → Prop} {cc : ByteArray} {nL : Nat} {ret : Option FieldType} {pc : Nat} {ls : Array Slot} {rest : List Value} {D : va_G} {ids : Nat → ClassId} {ad tt : Nat → Nat} {h : Hp} (hA : adOk ad 59) (C : CX p s m args meth c cc nL ret RX4 D ids) (hX : (ExC tt ad) s s.heap) (hP : wp D (cEC ids ad) ad 59 h H) (hS : va_S (inW ad 59) s.heap H locs) {a1 : Int32} {a2 : Int32} {rv : Int32 × Hp} (hf : f_X7_levelAt h a1 a2 = some rv) (hR : 1 + 1 ≤ R.frames ∧ 8 + (2 + 11) + 21 ≤ R.locals) (hsz : ls.size = nL) (hcat : (rest.map fun v => v.category).sum ≤ 8) (hdg : decode cc pc = .ok (.invokestatic 39, 3)) (kk : ∀ (H1 : Heap) (locs1 : List Loc), wp D (cEC ids ad) ad 59 rv.2 H1 → va_S (inW ad 59) s.heap H1 locs1 → W p l e R s m args below meth c H1 locs1 0 0 Q (F0 m (pc + 3) ls (.int rv.1 :: rest))) : W p l e R s m args below meth c H locs 0 0 Q (F0 m pc ls (.int a2 :: .int a1 :: rest)) :=
  u_callN (As := [.int a1, .int a2]) (rv := (some (.int rv.1))) C (exC_ok hA) hX (exC_n2 hX) (c_X7_levelAt l D ids ad tt hA hf) q_332 q_2 q_333 ⟨rfl, rfl⟩ (by refine ⟨by decide +kernel, by decide +kernel, ?_⟩; show _ = some 2; decide +kernel) hR hP hS hsz hcat rfl hdg kk
theorem cv_X4_43 {p : Program} {l : Launch} {e : Env} {R : Room} {s : State} {m : MethodId} {args : Array Value} {below : List Frame} {meth : Method} {c : Code} {H : Heap} {locs : List Loc} {Q : State → Prop} {cc : ByteArray} {nL : Nat} {ret : Option FieldType} {pc : Nat} {ls : Array Slot} {rest : List Value} {D : va_G} {ids : Nat → ClassId} {ad tt : Nat → Nat} {h : Hp} (hA : adOk ad 59) (C : CX p s m args meth c cc nL ret RX4 D ids) (hX : (ExC tt ad) s s.heap) (hP : wp D (cEC ids ad) ad 59 h H) (hS : va_S (inW ad 59) s.heap H locs) {k : Nat} (hk : isX3 k) {a1 : Int32} {a2 : Int32} {rv : Hp} (hf : f_X3_beginHour h k a1 a2 = some rv) (hR : 2 + 1 ≤ R.frames ∧ 8 + (3 + 11) + 42 ≤ R.locals) (hsz : ls.size = nL) (hcat : (rest.map fun v => v.category).sum ≤ 8) (hdg : decode cc pc = .ok (.invokevirtual 43, 3)) (kk : ∀ (H1 : Heap) (locs1 : List Loc), wp D (cEC ids ad) ad 59 rv H1 → va_S (inW ad 59) s.heap H1 locs1 → W p l e R s m args below meth c H1 locs1 0 0 Q (F0 m (pc + 3) ls (rest))) : W p l e R s m args below meth c H locs 0 0 Q (F0 m pc ls (.int a2 :: .int a1 :: .ref (ad k) :: rest)) :=
  u_callV (As := [.int a1, .int a2]) (rv := none) C (exC_ok hA) hX (c_X3_beginHour l D ids ad tt hA hk hf) q_338 q_339 q_340 q_91 q_341 ⟨rfl, rfl⟩ (by refine ⟨by decide +kernel, by decide +kernel, ?_⟩; show _ = some 2; decide +kernel) hR (lt_X3 hk) (cE_X3 hk _) rfl hP hS hsz hcat rfl hdg kk
theorem cv_X4_47 {p : Program} {l : Launch} {e : Env} {R : Room} {s : State} {m : MethodId} {args : Array Value} {below : List Frame} {meth : Method} {c : Code} {H : Heap} {locs : List Loc} {Q : State → Prop} {cc : ByteArray} {nL : Nat} {ret : Option FieldType} {pc : Nat} {ls : Array Slot} {rest : List Value} {D : va_G} {ids : Nat → ClassId} {ad tt : Nat → Nat} {h : Hp} (hA : adOk ad 59) (C : CX p s m args meth c cc nL ret RX4 D ids) (hX : (ExC tt ad) s s.heap) (hP : wp D (cEC ids ad) ad 59 h H) (hS : va_S (inW ad 59) s.heap H locs) {a1 : Int32} {a2 : Int32} {rv : Hp} (hf : f_X4_givePier h a1 a2 = some rv) (hR : 1 + 1 ≤ R.frames ∧ 8 + (12 + 11) + 21 ≤ R.locals) (hsz : ls.size = nL) (hcat : (rest.map fun v => v.category).sum ≤ 8) (hdg : decode cc pc = .ok (.invokevirtual 47, 3)) (kk : ∀ (H1 : Heap) (locs1 : List Loc), wp D (cEC ids ad) ad 59 rv H1 → va_S (inW ad 59) s.heap H1 locs1 → W p l e R s m args below meth c H1 locs1 0 0 Q (F0 m (pc + 3) ls (rest))) : W p l e R s m args below meth c H locs 0 0 Q (F0 m pc ls (.int a2 :: .int a1 :: .ref (ad 48) :: rest)) :=
  u_callV (As := [.int a1, .int a2]) (rv := none) C (exC_ok hA) hX (c_X4_givePier l D ids ad tt hA hf) q_351 q_352 q_353 q_31 q_354 ⟨rfl, rfl⟩ (by refine ⟨by decide +kernel, by decide +kernel, ?_⟩; show _ = some 2; decide +kernel) hR (by decide) (cE_X4 _) rfl hP hS hsz hcat rfl hdg kk
abbrev rm_X4_run : Room := { frames := 4, cells := 0, slots := 0, locals := 87 }
set_option maxRecDepth 100000 in
set_option maxHeartbeats 4000000 in
theorem w_X4_run_102 {p : Program} {l : Launch} {e : Env} {s : State} {m : MethodId} {args : Array Value} {below : List Frame} {meth : Method} {c : Code} {D : va_G} {ids : Nat → ClassId} {ad tt : Nat → Nat} {rv : Hp} (hA : adOk ad 59) (C : CX p s m args meth c cX4_run 8 none RX4 D ids) (hX : (ExC tt ad) s s.heap) {k1 : Nat} (hk1 : isX5 k1) {K43 : Hp → Int32 → Option (Hp)} (hK43 : ∀ (h : Hp) (x2 : Int32) (H : Heap) (locs : List Loc) (ls : Array Slot), K43 h x2 = some rv → wp D (cEC ids ad) ad 59 h H → va_S (inW ad 59) s.heap H locs → lv_has ls 8 [(0, .ref (ad 48)), (1, .ref (ad k1)), (2, .int x2)] → W p l e rm_X4_run s m args below meth c H locs 0 0 (MQ below (QW D (cEC ids ad) ad 59 none rv) args s 0 0 (inW ad 59)) (F0 m 43 ls [])) : ∀ (fu : Nat), ∀ (h : Hp) (x2 : Int32) (x4 : Int32) (H : Heap) (locs : List Loc) (ls : Array Slot), f_X4_run_102 k1 K43 fu h x2 x4 = some rv → wp D (cEC ids ad) ad 59 h H → va_S (inW ad 59) s.heap H locs → lv_has ls 8 [(0, .ref (ad 48)), (1, .ref (ad k1)), (2, .int x2), (4, .int x4)] → W p l e rm_X4_run s m args below meth c H locs 0 0 (MQ below (QW D (cEC ids ad) ad 59 none rv) args s 0 0 (inW ad 59)) (F0 m 102 ls []) := by
  intro fu
  induction fu with
  | zero =>
    intro h x2 x4 H locs ls hf hP hS hl
    cases hf
  | succ fu ih =>
    intro h x2 x4 H locs ls hf hP hS hl
    rw [f_X4_run_102_s] at hf
    refine lv_iload C.1 C.2.1 dX4_run_102 (lv_at hl 3 rfl) ?_
    refine lv_iconst (v := (2 : Int32)) C.1 C.2.1 dX4_run_104 (by decide) ?_
    refine lv_icmp_ge (tgt := 121) C.1 C.2.1 dX4_run_105 (by decide) (fun hc => ?_) (fun hc => ?_)
    · have hf := g_t hc hf
      refine lv_iinc (v := (x2 + 1)) (lv' := [(2, .int (x2 + 1)), (0, .ref (ad 48)), (1, .ref (ad k1)), (4, .int x4)]) C.1 C.2.1 dX4_run_121 hl (k := 2) rfl (by rfl) (by decide) rfl (fun ls hl => ?_)
      refine lv_goto (tgt := 43) C.1 C.2.1 dX4_run_124 (by decide) ?_
      exact hK43 _ _ _ _ _ hf hP hS (lv_sub hl [1, 2, 0] rfl)
    · have hf := g_f hc hf
      refine lv_aload_n C.1 C.2.1 dX4_run_108 rfl (lv_at hl 0 rfl) ?_
      refine lv_iload C.1 C.2.1 dX4_run_109 (lv_at hl 3 rfl) ?_
      refine lv_iload_n C.1 C.2.1 dX4_run_111 rfl (lv_at hl 2 rfl) ?_
      obtain ⟨q1, eq1, hf⟩ := g_b hf
      refine cv_X4_47 hA C hX hP hS eq1 ⟨Nat.le_of_ble_eq_true rfl, Nat.le_of_ble_eq_true rfl⟩ hl.1 (Nat.le_of_ble_eq_true rfl) dX4_run_112 (fun H locs hP hS => ?_)
      refine lv_iinc (v := (x4 + 1)) (lv' := [(4, .int (x4 + 1)), (0, .ref (ad 48)), (1, .ref (ad k1)), (2, .int x2)]) C.1 C.2.1 dX4_run_115 hl (k := 3) rfl (by rfl) (by decide) rfl (fun ls hl => ?_)
      refine lv_goto (tgt := 102) C.1 C.2.1 dX4_run_118 (by decide) ?_
      exact ih _ _ _ _ _ _ hf hP hS (lv_sub hl [1, 2, 3, 0] rfl)
set_option maxRecDepth 100000 in
set_option maxHeartbeats 4000000 in
theorem w_X4_run_72 {p : Program} {l : Launch} {e : Env} {s : State} {m : MethodId} {args : Array Value} {below : List Frame} {meth : Method} {c : Code} {D : va_G} {ids : Nat → ClassId} {ad tt : Nat → Nat} {rv : Hp} (hA : adOk ad 59) (C : CX p s m args meth c cX4_run 8 none RX4 D ids) (hX : (ExC tt ad) s s.heap) {k1 : Nat} (hk1 : isX5 k1) {K43 : Hp → Int32 → Option (Hp)} (hK43 : ∀ (h : Hp) (x2 : Int32) (H : Heap) (locs : List Loc) (ls : Array Slot), K43 h x2 = some rv → wp D (cEC ids ad) ad 59 h H → va_S (inW ad 59) s.heap H locs → lv_has ls 8 [(0, .ref (ad 48)), (1, .ref (ad k1)), (2, .int x2)] → W p l e rm_X4_run s m args below meth c H locs 0 0 (MQ below (QW D (cEC ids ad) ad 59 none rv) args s 0 0 (inW ad 59)) (F0 m 43 ls [])) : ∀ (fu : Nat), ∀ (h : Hp) (x2 : Int32) (x3 : Int32) (x5 : Int32) (x6 : Int32) (H : Heap) (locs : List Loc) (ls : Array Slot), f_X4_run_72 k1 K43 fu h x2 x3 x5 x6 = some rv → wp D (cEC ids ad) ad 59 h H → va_S (inW ad 59) s.heap H locs → lv_has ls 8 [(0, .ref (ad 48)), (1, .ref (ad k1)), (2, .int x2), (3, .int x3), (4, .ref (ad 49)), (5, .int x5), (6, .int x6)] → W p l e rm_X4_run s m args below meth c H locs 0 0 (MQ below (QW D (cEC ids ad) ad 59 none rv) args s 0 0 (inW ad 59)) (F0 m 72 ls []) := by
  intro fu
  induction fu with
  | zero =>
    intro h x2 x3 x5 x6 H locs ls hf hP hS hl
    cases hf
  | succ fu ih =>
    intro h x2 x3 x5 x6 H locs ls hf hP hS hl
    rw [f_X4_run_72_s] at hf
    refine lv_iload C.1 C.2.1 dX4_run_72 (lv_at hl 6 rfl) ?_
    refine lv_iload C.1 C.2.1 dX4_run_74 (lv_at hl 5 rfl) ?_
    refine lv_icmp_ge (tgt := 99) C.1 C.2.1 dX4_run_76 (by decide) (fun hc => ?_) (fun hc => ?_)
    · have hf := g_t hc hf
      refine lv_iconst (v := (0 : Int32)) C.1 C.2.1 dX4_run_99 (by decide) ?_
      refine lv_istore (lv' := [(4, .int (0 : Int32)), (0, .ref (ad 48)), (1, .ref (ad k1)), (2, .int x2), (3, .int x3), (5, .int x5), (6, .int x6)]) C.1 C.2.1 dX4_run_100 hl (by decide) rfl (fun ls hl => ?_)
      exact w_X4_run_102 hA C hX hk1 hK43 _ _ _ _ _ _ _ hf hP hS (lv_sub hl [1, 2, 3, 0] rfl)
    · have hf := g_f hc hf
      refine lv_aload C.1 C.2.1 dX4_run_79 (lv_at hl 4 rfl) ?_
      refine lv_iload C.1 C.2.1 dX4_run_81 (lv_at hl 6 rfl) ?_
      obtain ⟨hg1, hf⟩ := g_if hf
      refine rl_aFe C hP hg1 dX4_run_83 ?_
      refine lv_astore (lv' := [(7, .ref (ad (50 + 3 * x6.toNatClampNeg))), (0, .ref (ad 48)), (1, .ref (ad k1)), (2, .int x2), (3, .int x3), (4, .ref (ad 49)), (5, .int x5), (6, .int x6)]) C.1 C.2.1 dX4_run_84 hl (by decide) rfl (fun ls hl => ?_)
      refine lv_aload C.1 C.2.1 dX4_run_86 (lv_at hl 0 rfl) ?_
      refine lv_iload_n C.1 C.2.1 dX4_run_88 rfl (lv_at hl 3 rfl) ?_
      refine lv_iload_n C.1 C.2.1 dX4_run_89 rfl (lv_at hl 4 rfl) ?_
      obtain ⟨q2, eq2, hf⟩ := g_b hf
      refine cv_X4_43 hA C hX hP hS (fe_el hg1) eq2 ⟨Nat.le_of_ble_eq_true rfl, Nat.le_of_ble_eq_true rfl⟩ hl.1 (Nat.le_of_ble_eq_true rfl) dX4_run_90 (fun H locs hP hS => ?_)
      refine lv_iinc (v := (x6 + 1)) (lv' := [(6, .int (x6 + 1)), (7, .ref (ad (50 + 3 * x6.toNatClampNeg))), (0, .ref (ad 48)), (1, .ref (ad k1)), (2, .int x2), (3, .int x3), (4, .ref (ad 49)), (5, .int x5)]) C.1 C.2.1 dX4_run_93 hl (k := 7) rfl (by rfl) (by decide) rfl (fun ls hl => ?_)
      refine lv_goto (tgt := 72) C.1 C.2.1 dX4_run_96 (by decide) ?_
      exact ih _ _ _ _ _ _ _ _ hf hP hS (lv_sub hl [2, 3, 4, 5, 6, 7, 0] rfl)
set_option maxRecDepth 100000 in
set_option maxHeartbeats 4000000 in
theorem w_X4_run_43 {p : Program} {l : Launch} {e : Env} {s : State} {m : MethodId} {args : Array Value} {below : List Frame} {meth : Method} {c : Code} {D : va_G} {ids : Nat → ClassId} {ad tt : Nat → Nat} {rv : Hp} (hA : adOk ad 59) (C : CX p s m args meth c cX4_run 8 none RX4 D ids) (hX : (ExC tt ad) s s.heap) {k1 : Nat} (hk1 : isX5 k1) : ∀ (fu : Nat), ∀ (h : Hp) (x2 : Int32) (H : Heap) (locs : List Loc) (ls : Array Slot), f_X4_run_43 k1 fu h x2 = some rv → wp D (cEC ids ad) ad 59 h H → va_S (inW ad 59) s.heap H locs → lv_has ls 8 [(0, .ref (ad 48)), (1, .ref (ad k1)), (2, .int x2)] → W p l e rm_X4_run s m args below meth c H locs 0 0 (MQ below (QW D (cEC ids ad) ad 59 none rv) args s 0 0 (inW ad 59)) (F0 m 43 ls []) := by
  intro fu
  induction fu with
  | zero =>
    intro h x2 H locs ls hf hP hS hl
    cases hf
  | succ fu ih =>
    intro h x2 H locs ls hf hP hS hl
    rw [f_X4_run_43_s] at hf
    refine lv_iload_n C.1 C.2.1 dX4_run_43 rfl (lv_at hl 2 rfl) ?_
    refine lv_bipush (v := (24 : Int32)) C.1 C.2.1 dX4_run_44 (by decide) ?_
    refine lv_icmp_ge (tgt := 127) C.1 C.2.1 dX4_run_46 (by decide) (fun hc => ?_) (fun hc => ?_)
    · have hf := g_t hc hf
      obtain rfl := Option.some.inj hf
      exact u_vret C hP hS dX4_run_127
    · have hf := g_f hc hf
      refine lv_aload_n C.1 C.2.1 dX4_run_49 rfl (lv_at hl 1 rfl) ?_
      refine gf_X4_36 C hk1 hP dX4_run_50 ?_
      refine lv_iload_n C.1 C.2.1 dX4_run_53 rfl (lv_at hl 2 rfl) ?_
      obtain ⟨q1, eq1, hf⟩ := g_b hf
      refine cv_X4_39 hA C hX hP hS eq1 ⟨Nat.le_of_ble_eq_true rfl, Nat.le_of_ble_eq_true rfl⟩ hl.1 (Nat.le_of_ble_eq_true rfl) dX4_run_54 (fun H locs hP hS => ?_)
      refine lv_istore_n (lv' := [(3, .int q1.1), (0, .ref (ad 48)), (1, .ref (ad k1)), (2, .int x2)]) C.1 C.2.1 dX4_run_57 rfl hl (by decide) rfl (fun ls hl => ?_)
      refine lv_aload_n C.1 C.2.1 dX4_run_58 rfl (lv_at hl 1 rfl) ?_
      refine gf_X4_12 C hP dX4_run_59 ?_
      refine lv_astore (lv' := [(4, .ref (ad 49)), (3, .int q1.1), (0, .ref (ad 48)), (1, .ref (ad k1)), (2, .int x2)]) C.1 C.2.1 dX4_run_62 hl (by decide) rfl (fun ls hl => ?_)
      refine lv_aload C.1 C.2.1 dX4_run_64 (lv_at hl 0 rfl) ?_
      refine ln_aFe C hP dX4_run_66 ?_
      refine lv_istore (lv' := [(5, .int (3 : Int32)), (4, .ref (ad 49)), (3, .int q1.1), (0, .ref (ad 48)), (1, .ref (ad k1)), (2, .int x2)]) C.1 C.2.1 dX4_run_67 hl (by decide) rfl (fun ls hl => ?_)
      refine lv_iconst (v := (0 : Int32)) C.1 C.2.1 dX4_run_69 (by decide) ?_
      refine lv_istore (lv' := [(6, .int (0 : Int32)), (5, .int (3 : Int32)), (4, .ref (ad 49)), (3, .int q1.1), (0, .ref (ad 48)), (1, .ref (ad k1)), (2, .int x2)]) C.1 C.2.1 dX4_run_70 hl (by decide) rfl (fun ls hl => ?_)
      exact w_X4_run_72 hA C hX hk1 ih _ _ _ _ _ _ _ _ _ hf hP hS (lv_sub hl [4, 5, 6, 3, 2, 1, 0] rfl)
set_option maxRecDepth 100000 in
set_option maxHeartbeats 4000000 in
theorem w_X4_run_15 {p : Program} {l : Launch} {e : Env} {s : State} {m : MethodId} {args : Array Value} {below : List Frame} {meth : Method} {c : Code} {D : va_G} {ids : Nat → ClassId} {ad tt : Nat → Nat} {rv : Hp} (hA : adOk ad 59) (C : CX p s m args meth c cX4_run 8 none RX4 D ids) (hX : (ExC tt ad) s s.heap) {k1 : Nat} (hk1 : isX5 k1) : ∀ (fu : Nat), ∀ (h : Hp) (x2 : Int32) (H : Heap) (locs : List Loc) (ls : Array Slot), f_X4_run_15 k1 fu h x2 = some rv → wp D (cEC ids ad) ad 59 h H → va_S (inW ad 59) s.heap H locs → lv_has ls 8 [(0, .ref (ad 48)), (1, .ref (ad k1)), (2, .int x2)] → W p l e rm_X4_run s m args below meth c H locs 0 0 (MQ below (QW D (cEC ids ad) ad 59 none rv) args s 0 0 (inW ad 59)) (F0 m 15 ls []) := by
  intro fu
  induction fu with
  | zero =>
    intro h x2 H locs ls hf hP hS hl
    cases hf
  | succ fu ih =>
    intro h x2 H locs ls hf hP hS hl
    rw [f_X4_run_15_s] at hf
    refine lv_iload_n C.1 C.2.1 dX4_run_15 rfl (lv_at hl 2 rfl) ?_
    refine lv_iconst (v := (3 : Int32)) C.1 C.2.1 dX4_run_16 (by decide) ?_
    refine lv_icmp_ge (tgt := 41) C.1 C.2.1 dX4_run_17 (by decide) (fun hc => ?_) (fun hc => ?_)
    · have hf := g_t hc hf
      refine lv_iconst (v := (0 : Int32)) C.1 C.2.1 dX4_run_41 (by decide) ?_
      refine lv_istore_n (lv' := [(2, .int (0 : Int32)), (0, .ref (ad 48)), (1, .ref (ad k1))]) C.1 C.2.1 dX4_run_42 rfl hl (by decide) rfl (fun ls hl => ?_)
      exact w_X4_run_43 hA C hX hk1 _ _ _ _ _ _ hf hP hS (lv_sub hl [1, 2, 0] rfl)
    · have hf := g_f hc hf
      refine lv_aload_n C.1 C.2.1 dX4_run_20 rfl (lv_at hl 0 rfl) ?_
      refine gf_X4_12 C hP dX4_run_21 ?_
      refine lv_iload_n C.1 C.2.1 dX4_run_24 rfl (lv_at hl 2 rfl) ?_
      obtain ⟨hg1, hf⟩ := g_if hf
      refine rl_aFe C hP hg1 dX4_run_25 ?_
      refine lv_aload_n C.1 C.2.1 dX4_run_26 rfl (lv_at hl 1 rfl) ?_
      refine gf_X4_28 C hk1 hP dX4_run_27 ?_
      refine lv_iload_n C.1 C.2.1 dX4_run_30 rfl (lv_at hl 2 rfl) ?_
      obtain ⟨hg2, hf⟩ := g_if hf
      refine rl_aCap C (cap_of hk1) hP hg2 dX4_run_31 ?_
      obtain ⟨q3, eq3, hf⟩ := g_b hf
      refine cv_X4_32 hA C hX hP hS (fe_el hg1) (cp_el (cap_of hk1) hg2) eq3 ⟨Nat.le_of_ble_eq_true rfl, Nat.le_of_ble_eq_true rfl⟩ hl.1 (Nat.le_of_ble_eq_true rfl) dX4_run_32 (fun H locs hP hS => ?_)
      refine lv_iinc (v := (x2 + 1)) (lv' := [(2, .int (x2 + 1)), (0, .ref (ad 48)), (1, .ref (ad k1))]) C.1 C.2.1 dX4_run_35 hl (k := 2) rfl (by rfl) (by decide) rfl (fun ls hl => ?_)
      refine lv_goto (tgt := 15) C.1 C.2.1 dX4_run_38 (by decide) ?_
      exact ih _ _ _ _ _ hf hP hS (lv_sub hl [1, 2, 0] rfl)
set_option maxRecDepth 100000 in
set_option maxHeartbeats 4000000 in
theorem w_X4_run_13 {p : Program} {l : Launch} {e : Env} {s : State} {m : MethodId} {args : Array Value} {below : List Frame} {meth : Method} {c : Code} {D : va_G} {ids : Nat → ClassId} {ad tt : Nat → Nat} {rv : Hp} (hA : adOk ad 59) (C : CX p s m args meth c cX4_run 8 none RX4 D ids) (hX : (ExC tt ad) s s.heap) {k1 : Nat} (hk1 : isX5 k1) : ∀ (h : Hp) (H : Heap) (locs : List Loc) (ls : Array Slot), f_X4_run_13 k1 h = some rv → wp D (cEC ids ad) ad 59 h H → va_S (inW ad 59) s.heap H locs → lv_has ls 8 [(0, .ref (ad 48)), (1, .ref (ad k1))] → W p l e rm_X4_run s m args below meth c H locs 0 0 (MQ below (QW D (cEC ids ad) ad 59 none rv) args s 0 0 (inW ad 59)) (F0 m 13 ls []) := by
  intro h H locs ls hf hP hS hl
  unfold f_X4_run_13 at hf
  refine lv_iconst (v := (0 : Int32)) C.1 C.2.1 dX4_run_13 (by decide) ?_
  refine lv_istore_n (lv' := [(2, .int (0 : Int32)), (0, .ref (ad 48)), (1, .ref (ad k1))]) C.1 C.2.1 dX4_run_14 rfl hl (by decide) rfl (fun ls hl => ?_)
  exact w_X4_run_15 hA C hX hk1 _ _ _ _ _ _ hf hP hS (lv_sub hl [1, 2, 0] rfl)
set_option maxRecDepth 100000 in
set_option maxHeartbeats 4000000 in
theorem w_X4_run {p : Program} {l : Launch} {e : Env} {s : State} {m : MethodId} {args : Array Value} {below : List Frame} {meth : Method} {c : Code} {D : va_G} {ids : Nat → ClassId} {ad tt : Nat → Nat} {rv : Hp} (hA : adOk ad 59) (C : CX p s m args meth c cX4_run 8 none RX4 D ids) (hX : (ExC tt ad) s s.heap) {k1 : Nat} (hk1 : isX5 k1) : ∀ (h : Hp) (H : Heap) (locs : List Loc) (ls : Array Slot), f_X4_run h k1 = some rv → wp D (cEC ids ad) ad 59 h H → va_S (inW ad 59) s.heap H locs → lv_has ls 8 [(0, .ref (ad 48)), (1, .ref (ad k1))] → W p l e rm_X4_run s m args below meth c H locs 0 0 (MQ below (QW D (cEC ids ad) ad 59 none rv) args s 0 0 (inW ad 59)) (F0 m 0 ls []) := by
  intro h H locs ls hf hP hS hl
  unfold f_X4_run at hf
  refine lv_aload_n C.1 C.2.1 dX4_run_0 rfl (lv_at hl 0 rfl) ?_
  refine lv_aload_n C.1 C.2.1 dX4_run_1 rfl (lv_at hl 1 rfl) ?_
  refine gf_X4_25 C hk1 hP dX4_run_2 ?_
  refine pf_X4_18 hA C hP hS dX4_run_5 (fun H locs hP hS => ?_)
  refine lv_aload_n C.1 C.2.1 dX4_run_8 rfl (lv_at hl 0 rfl) ?_
  refine lv_iconst (v := (0 : Int32)) C.1 C.2.1 dX4_run_9 (by decide) ?_
  refine pf_X4_22 hA C hP hS dX4_run_10 (fun H locs hP hS => ?_)
  exact w_X4_run_13 hA C hX hk1 _ _ _ _ hf hP hS (lv_sub hl [0, 1] rfl)
theorem c_X4_run (l : Launch) (D : va_G) (ids : Nat → ClassId) (ad tt : Nat → Nat) (hA : adOk ad 59) {k1 : Nat} (hk1 : isX5 k1) {h : Hp} {rv : Hp} (hf : f_X4_run h k1 = some rv) : Met l yX4_run (ws_ yX4_run cX4_run 8 none) rm_X4_run (va_Pc [.ref (ad 48), .ref (ad k1)] (WB D ids (cEC ids ad) ad 59 (ExC tt ad) h)) (QW D (cEC ids ad) ad 59 none rv) 0 0 (inW ad 59) :=
  u_met (own := RX4) (by decide) rfl (Nat.le_of_ble_eq_true rfl) rfl (fun p e s m args below meth c H ls C hX hP hS hl => w_X4_run (tt := tt) hA C hX hk1 _ _ _ _ hf hP hS hl)
theorem gf_X3_68 {p : Program} {l : Launch} {e : Env} {R : Room} {s : State} {m : MethodId} {args : Array Value} {below : List Frame} {meth : Method} {c : Code} {H : Heap} {locs : List Loc} {cells slots : Nat} {Q : State → Prop} {cc : ByteArray} {nL : Nat} {ret : Option FieldType} {pc : Nat} {ls : Array Slot} {rest : List Value} {D : va_G} {ids : Nat → ClassId} {ad : Nat → Nat} {h : Hp} (C : CX p s m args meth c cc nL ret RX3 D ids) {k : Nat} (hk : isX6 k) (hP : wp D (cEC ids ad) ad 59 h H) (hdg : decode cc pc = .ok (.getfield 68, 3)) (kk : W p l e R s m args below meth c H locs cells slots Q (F0 m (pc + 3) ls (.int (h k 1) :: rest))) : W p l e R s m args below meth c H locs cells slots Q (F0 m pc ls (.ref (ad k) :: rest)) :=
  u_get C hP (lt_X6 hk) (cE_X6 hk) rfl inX6 1 (by decide) rfl q_395 hdg kk
abbrev rm_X3_crossingsLeft : Room := { frames := 0, cells := 0, slots := 0, locals := 0 }
set_option maxRecDepth 100000 in
set_option maxHeartbeats 4000000 in
theorem w_X3_crossingsLeft {p : Program} {l : Launch} {e : Env} {s : State} {m : MethodId} {args : Array Value} {below : List Frame} {meth : Method} {c : Code} {D : va_G} {ids : Nat → ClassId} {ad tt : Nat → Nat} {rv : Int32 × Hp} (hA : adOk ad 59) (C : CX p s m args meth c cX3_crossingsLeft 1 (some .int) RX3 D ids) (hX : (ExC tt ad) s s.heap) {k : Nat} (hk : isX3 k) : ∀ (h : Hp) (H : Heap) (locs : List Loc) (ls : Array Slot), f_X3_crossingsLeft h k = some rv → wp D (cEC ids ad) ad 59 h H → va_S (inW ad 59) s.heap H locs → lv_has ls 1 [(0, .ref (ad k))] → W p l e rm_X3_crossingsLeft s m args below meth c H locs 0 0 (MQ below (QW D (cEC ids ad) ad 59 (some (.int rv.1)) rv.2) args s 0 0 (inW ad 59)) (F0 m 0 ls []) := by
  intro h H locs ls hf hP hS hl
  unfold f_X3_crossingsLeft at hf
  refine lv_aload_n C.1 C.2.1 dX3_crossingsLeft_0 rfl (lv_at hl 0 rfl) ?_
  refine gf_X3_12 C hk hP dX3_crossingsLeft_1 ?_
  refine gf_X3_68 C (tt_of hk) hP dX3_crossingsLeft_4 ?_
  refine lv_aload_n C.1 C.2.1 dX3_crossingsLeft_7 rfl (lv_at hl 0 rfl) ?_
  refine gf_X3_38 C hk hP dX3_crossingsLeft_8 ?_
  refine lv_isub C.1 C.2.1 dX3_crossingsLeft_11 ?_
  obtain rfl := Option.some.inj hf
  exact u_iret C hP hS dX3_crossingsLeft_12
theorem c_X3_crossingsLeft (l : Launch) (D : va_G) (ids : Nat → ClassId) (ad tt : Nat → Nat) (hA : adOk ad 59) {k : Nat} (hk : isX3 k) {h : Hp} {rv : Int32 × Hp} (hf : f_X3_crossingsLeft h k = some rv) : Met l yX3_crossingsLeft (ws_ yX3_crossingsLeft cX3_crossingsLeft 1 (some .int)) rm_X3_crossingsLeft (va_Pc [.ref (ad k)] (WB D ids (cEC ids ad) ad 59 (ExC tt ad) h)) (QW D (cEC ids ad) ad 59 (some (.int rv.1)) rv.2) 0 0 (inW ad 59) :=
  u_met (own := RX3) (by decide) rfl (Nat.le_of_ble_eq_true rfl) rfl (fun p e s m args below meth c H ls C hX hP hS hl => w_X3_crossingsLeft (tt := tt) hA C hX hk _ _ _ _ hf hP hS hl)
theorem gf_X2_42 {p : Program} {l : Launch} {e : Env} {R : Room} {s : State} {m : MethodId} {args : Array Value} {below : List Frame} {meth : Method} {c : Code} {H : Heap} {locs : List Loc} {cells slots : Nat} {Q : State → Prop} {cc : ByteArray} {nL : Nat} {ret : Option FieldType} {pc : Nat} {ls : Array Slot} {rest : List Value} {D : va_G} {ids : Nat → ClassId} {ad : Nat → Nat} {h : Hp} (C : CX p s m args meth c cc nL ret RX2 D ids) {k : Nat} (hk : isX3 k) (hP : wp D (cEC ids ad) ad 59 h H) (hdg : decode cc pc = .ok (.getfield 42, 3)) (kk : W p l e R s m args below meth c H locs cells slots Q (F0 m (pc + 3) ls (.int (h k 7) :: rest))) : W p l e R s m args below meth c H locs cells slots Q (F0 m pc ls (.ref (ad k) :: rest)) :=
  u_get C hP (lt_X3 hk) (cE_X3 hk) rfl inX3 7 (by decide) rfl q_387 hdg kk
theorem gf_X2_45 {p : Program} {l : Launch} {e : Env} {R : Room} {s : State} {m : MethodId} {args : Array Value} {below : List Frame} {meth : Method} {c : Code} {H : Heap} {locs : List Loc} {cells slots : Nat} {Q : State → Prop} {cc : ByteArray} {nL : Nat} {ret : Option FieldType} {pc : Nat} {ls : Array Slot} {rest : List Value} {D : va_G} {ids : Nat → ClassId} {ad : Nat → Nat} {h : Hp} (C : CX p s m args meth c cc nL ret RX2 D ids) {k : Nat} (hk : isX3 k) (hP : wp D (cEC ids ad) ad 59 h H) (hdg : decode cc pc = .ok (.getfield 45, 3)) (kk : W p l e R s m args below meth c H locs cells slots Q (F0 m (pc + 3) ls (.int (h k 8) :: rest))) : W p l e R s m args below meth c H locs cells slots Q (F0 m pc ls (.ref (ad k) :: rest)) :=
  u_get C hP (lt_X3 hk) (cE_X3 hk) rfl inX3 8 (by decide) rfl q_388 hdg kk
theorem gf_X2_46 {p : Program} {l : Launch} {e : Env} {R : Room} {s : State} {m : MethodId} {args : Array Value} {below : List Frame} {meth : Method} {c : Code} {H : Heap} {locs : List Loc} {cells slots : Nat} {Q : State → Prop} {cc : ByteArray} {nL : Nat} {ret : Option FieldType} {pc : Nat} {ls : Array Slot} {rest : List Value} {D : va_G} {ids : Nat → ClassId} {ad : Nat → Nat} {h : Hp} (C : CX p s m args meth c cc nL ret RX2 D ids) {k : Nat} (hk : isX3 k) (hP : wp D (cEC ids ad) ad 59 h H) (hdg : decode cc pc = .ok (.getfield 46, 3)) (kk : W p l e R s m args below meth c H locs cells slots Q (F0 m (pc + 3) ls (.int (h k 9) :: rest))) : W p l e R s m args below meth c H locs cells slots Q (F0 m pc ls (.ref (ad k) :: rest)) :=
  u_get C hP (lt_X3 hk) (cE_X3 hk) rfl inX3 9 (by decide) rfl q_389 hdg kk
theorem gf_X2_47 {p : Program} {l : Launch} {e : Env} {R : Room} {s : State} {m : MethodId} {args : Array Value} {below : List Frame} {meth : Method} {c : Code} {H : Heap} {locs : List Loc} {cells slots : Nat} {Q : State → Prop} {cc : ByteArray} {nL : Nat} {ret : Option FieldType} {pc : Nat} {ls : Array Slot} {rest : List Value} {D : va_G} {ids : Nat → ClassId} {ad : Nat → Nat} {h : Hp} (C : CX p s m args meth c cc nL ret RX2 D ids) {k : Nat} (hk : isX3 k) (hP : wp D (cEC ids ad) ad 59 h H) (hdg : decode cc pc = .ok (.getfield 47, 3)) (kk : W p l e R s m args below meth c H locs cells slots Q (F0 m (pc + 3) ls (.int (h k 10) :: rest))) : W p l e R s m args below meth c H locs cells slots Q (F0 m pc ls (.ref (ad k) :: rest)) :=
  u_get C hP (lt_X3 hk) (cE_X3 hk) rfl inX3 10 (by decide) rfl q_390 hdg kk
theorem cv_X2_48 {p : Program} {l : Launch} {e : Env} {R : Room} {s : State} {m : MethodId} {args : Array Value} {below : List Frame} {meth : Method} {c : Code} {H : Heap} {locs : List Loc} {Q : State → Prop} {cc : ByteArray} {nL : Nat} {ret : Option FieldType} {pc : Nat} {ls : Array Slot} {rest : List Value} {D : va_G} {ids : Nat → ClassId} {ad tt : Nat → Nat} {h : Hp} (hA : adOk ad 59) (C : CX p s m args meth c cc nL ret RX2 D ids) (hX : (ExC tt ad) s s.heap) (hP : wp D (cEC ids ad) ad 59 h H) (hS : va_S (inW ad 59) s.heap H locs) {k : Nat} (hk : isX3 k) {rv : Int32 × Hp} (hf : f_X3_crossingsLeft h k = some rv) (hR : 0 + 1 ≤ R.frames ∧ 8 + (1 + 11) + 0 ≤ R.locals) (hsz : ls.size = nL) (hcat : (rest.map fun v => v.category).sum ≤ 8) (hdg : decode cc pc = .ok (.invokevirtual 48, 3)) (kk : ∀ (H1 : Heap) (locs1 : List Loc), wp D (cEC ids ad) ad 59 rv.2 H1 → va_S (inW ad 59) s.heap H1 locs1 → W p l e R s m args below meth c H1 locs1 0 0 Q (F0 m (pc + 3) ls (.int rv.1 :: rest))) : W p l e R s m args below meth c H locs 0 0 Q (F0 m pc ls (.ref (ad k) :: rest)) :=
  u_callV (As := []) (rv := (some (.int rv.1))) C (exC_ok hA) hX (c_X3_crossingsLeft l D ids ad tt hA hk hf) q_391 q_392 q_393 q_91 q_394 ⟨rfl, rfl⟩ (by refine ⟨by decide +kernel, by decide +kernel, ?_⟩; show _ = some 0; decide +kernel) hR (lt_X3 hk) (cE_X3 hk _) rfl hP hS hsz hcat rfl hdg kk
abbrev rm_X2_endDay : Room := { frames := 1, cells := 0, slots := 0, locals := 20 }
set_option maxRecDepth 100000 in
set_option maxHeartbeats 4000000 in
theorem w_X2_endDay_52 {p : Program} {l : Launch} {e : Env} {s : State} {m : MethodId} {args : Array Value} {below : List Frame} {meth : Method} {c : Code} {D : va_G} {ids : Nat → ClassId} {ad tt : Nat → Nat} {rv : Hp} (hA : adOk ad 59) (C : CX p s m args meth c cX2_endDay 2 none RX2 D ids) (hX : (ExC tt ad) s s.heap) {k : Nat} (hk : isX2 k) {k1 : Nat} (hk1 : isX3 k1) : ∀ (h : Hp) (H : Heap) (locs : List Loc) (ls : Array Slot), f_X2_endDay_52 k k1 h = some rv → wp D (cEC ids ad) ad 59 h H → va_S (inW ad 59) s.heap H locs → lv_has ls 2 [(0, .ref (ad k)), (1, .ref (ad k1))] → W p l e rm_X2_endDay s m args below meth c H locs 0 0 (MQ below (QW D (cEC ids ad) ad 59 none rv) args s 0 0 (inW ad 59)) (F0 m 52 ls []) := by
  intro h H locs ls hf hP hS hl
  unfold f_X2_endDay_52 at hf
  refine lv_aload_n C.1 C.2.1 dX2_endDay_52 rfl (lv_at hl 0 rfl) ?_
  refine lv_dup C.1 C.2.1 dX2_endDay_53 rfl ?_
  refine gf_X2_30 C hk hP dX2_endDay_54 ?_
  refine lv_aload_n C.1 C.2.1 dX2_endDay_57 rfl (lv_at hl 1 rfl) ?_
  obtain ⟨q1, eq1, hf⟩ := g_b hf
  refine cv_X2_48 hA C hX hP hS hk1 eq1 ⟨Nat.le_of_ble_eq_true rfl, Nat.le_of_ble_eq_true rfl⟩ hl.1 (Nat.le_of_ble_eq_true rfl) dX2_endDay_58 (fun H locs hP hS => ?_)
  refine lv_iadd C.1 C.2.1 dX2_endDay_61 ?_
  refine pf_X2_30 hA C hk hP hS dX2_endDay_62 (fun H locs hP hS => ?_)
  obtain rfl := Option.some.inj hf
  exact u_vret C hP hS dX2_endDay_65
set_option maxRecDepth 100000 in
set_option maxHeartbeats 4000000 in
theorem w_X2_endDay_26 {p : Program} {l : Launch} {e : Env} {s : State} {m : MethodId} {args : Array Value} {below : List Frame} {meth : Method} {c : Code} {D : va_G} {ids : Nat → ClassId} {ad tt : Nat → Nat} {rv : Hp} (hA : adOk ad 59) (C : CX p s m args meth c cX2_endDay 2 none RX2 D ids) (hX : (ExC tt ad) s s.heap) {k : Nat} (hk : isX2 k) {k1 : Nat} (hk1 : isX3 k1) : ∀ (h : Hp) (H : Heap) (locs : List Loc) (ls : Array Slot), f_X2_endDay_26 k k1 h = some rv → wp D (cEC ids ad) ad 59 h H → va_S (inW ad 59) s.heap H locs → lv_has ls 2 [(0, .ref (ad k)), (1, .ref (ad k1))] → W p l e rm_X2_endDay s m args below meth c H locs 0 0 (MQ below (QW D (cEC ids ad) ad 59 none rv) args s 0 0 (inW ad 59)) (F0 m 26 ls []) := by
  intro h H locs ls hf hP hS hl
  unfold f_X2_endDay_26 at hf
  refine lv_aload_n C.1 C.2.1 dX2_endDay_26 rfl (lv_at hl 0 rfl) ?_
  refine lv_dup C.1 C.2.1 dX2_endDay_27 rfl ?_
  refine gf_X2_24 C hk hP dX2_endDay_28 ?_
  refine lv_aload_n C.1 C.2.1 dX2_endDay_31 rfl (lv_at hl 1 rfl) ?_
  refine gf_X2_46 C hk1 hP dX2_endDay_32 ?_
  refine lv_iadd C.1 C.2.1 dX2_endDay_35 ?_
  refine pf_X2_24 hA C hk hP hS dX2_endDay_36 (fun H locs hP hS => ?_)
  refine lv_aload_n C.1 C.2.1 dX2_endDay_39 rfl (lv_at hl 0 rfl) ?_
  refine lv_dup C.1 C.2.1 dX2_endDay_40 rfl ?_
  refine gf_X2_27 C hk hP dX2_endDay_41 ?_
  refine lv_aload_n C.1 C.2.1 dX2_endDay_44 rfl (lv_at hl 1 rfl) ?_
  refine gf_X2_47 C hk1 hP dX2_endDay_45 ?_
  refine lv_iadd C.1 C.2.1 dX2_endDay_48 ?_
  refine pf_X2_27 hA C hk hP hS dX2_endDay_49 (fun H locs hP hS => ?_)
  exact w_X2_endDay_52 hA C hX hk hk1 _ _ _ _ hf hP hS (lv_sub hl [0, 1] rfl)
set_option maxRecDepth 100000 in
set_option maxHeartbeats 4000000 in
theorem w_X2_endDay {p : Program} {l : Launch} {e : Env} {s : State} {m : MethodId} {args : Array Value} {below : List Frame} {meth : Method} {c : Code} {D : va_G} {ids : Nat → ClassId} {ad tt : Nat → Nat} {rv : Hp} (hA : adOk ad 59) (C : CX p s m args meth c cX2_endDay 2 none RX2 D ids) (hX : (ExC tt ad) s s.heap) {k : Nat} (hk : isX2 k) {k1 : Nat} (hk1 : isX3 k1) : ∀ (h : Hp) (H : Heap) (locs : List Loc) (ls : Array Slot), f_X2_endDay h k k1 = some rv → wp D (cEC ids ad) ad 59 h H → va_S (inW ad 59) s.heap H locs → lv_has ls 2 [(0, .ref (ad k)), (1, .ref (ad k1))] → W p l e rm_X2_endDay s m args below meth c H locs 0 0 (MQ below (QW D (cEC ids ad) ad 59 none rv) args s 0 0 (inW ad 59)) (F0 m 0 ls []) := by
  intro h H locs ls hf hP hS hl
  unfold f_X2_endDay at hf
  refine lv_aload_n C.1 C.2.1 dX2_endDay_0 rfl (lv_at hl 0 rfl) ?_
  refine lv_dup C.1 C.2.1 dX2_endDay_1 rfl ?_
  refine gf_X2_18 C hk hP dX2_endDay_2 ?_
  refine lv_aload_n C.1 C.2.1 dX2_endDay_5 rfl (lv_at hl 1 rfl) ?_
  refine gf_X2_42 C hk1 hP dX2_endDay_6 ?_
  refine lv_iadd C.1 C.2.1 dX2_endDay_9 ?_
  refine pf_X2_18 hA C hk hP hS dX2_endDay_10 (fun H locs hP hS => ?_)
  refine lv_aload_n C.1 C.2.1 dX2_endDay_13 rfl (lv_at hl 0 rfl) ?_
  refine lv_dup C.1 C.2.1 dX2_endDay_14 rfl ?_
  refine gf_X2_21 C hk hP dX2_endDay_15 ?_
  refine lv_aload_n C.1 C.2.1 dX2_endDay_18 rfl (lv_at hl 1 rfl) ?_
  refine gf_X2_45 C hk1 hP dX2_endDay_19 ?_
  refine lv_iadd C.1 C.2.1 dX2_endDay_22 ?_
  refine pf_X2_21 hA C hk hP hS dX2_endDay_23 (fun H locs hP hS => ?_)
  exact w_X2_endDay_26 hA C hX hk hk1 _ _ _ _ hf hP hS (lv_sub hl [0, 1] rfl)
theorem c_X2_endDay (l : Launch) (D : va_G) (ids : Nat → ClassId) (ad tt : Nat → Nat) (hA : adOk ad 59) {k : Nat} (hk : isX2 k) {k1 : Nat} (hk1 : isX3 k1) {h : Hp} {rv : Hp} (hf : f_X2_endDay h k k1 = some rv) : Met l yX2_endDay (ws_ yX2_endDay cX2_endDay 2 none) rm_X2_endDay (va_Pc [.ref (ad k), .ref (ad k1)] (WB D ids (cEC ids ad) ad 59 (ExC tt ad) h)) (QW D (cEC ids ad) ad 59 none rv) 0 0 (inW ad 59) :=
  u_met (own := RX2) (by decide) rfl (Nat.le_of_ble_eq_true rfl) rfl (fun p e s m args below meth c H ls C hX hP hS hl => w_X2_endDay (tt := tt) hA C hX hk hk1 _ _ _ _ hf hP hS hl)
abbrev rm_X3_isLesson : Room := { frames := 0, cells := 0, slots := 0, locals := 0 }
set_option maxRecDepth 100000 in
set_option maxHeartbeats 4000000 in
theorem w_X3_isLesson {p : Program} {l : Launch} {e : Env} {s : State} {m : MethodId} {args : Array Value} {below : List Frame} {meth : Method} {c : Code} {D : va_G} {ids : Nat → ClassId} {ad tt : Nat → Nat} {rv : Int32 × Hp} (hA : adOk ad 59) (C : CX p s m args meth c cX3_isLesson 2 (some .boolean) RX3 D ids) (hX : (ExC tt ad) s s.heap) {k : Nat} (hk : isX3 k) : ∀ (h : Hp) (a1 : Int32) (H : Heap) (locs : List Loc) (ls : Array Slot), f_X3_isLesson h k a1 = some rv → wp D (cEC ids ad) ad 59 h H → va_S (inW ad 59) s.heap H locs → lv_has ls 2 [(0, .ref (ad k)), (1, .int a1)] → W p l e rm_X3_isLesson s m args below meth c H locs 0 0 (MQ below (QW D (cEC ids ad) ad 59 (some (.int rv.1)) rv.2) args s 0 0 (inW ad 59)) (F0 m 0 ls []) := by
  intro h a1 H locs ls hf hP hS hl
  unfold f_X3_isLesson at hf
  refine lv_aload_n C.1 C.2.1 dX3_isLesson_0 rfl (lv_at hl 0 rfl) ?_
  refine gf_X3_41 C hk hP dX3_isLesson_1 ?_
  refine lv_iload_n C.1 C.2.1 dX3_isLesson_4 rfl (lv_at hl 1 rfl) ?_
  refine lv_icmp_lt (tgt := 12) C.1 C.2.1 dX3_isLesson_5 (by decide) (fun hc => ?_) (fun hc => ?_)
  · have hf := g_t hc hf
    refine lv_iconst (v := (0 : Int32)) C.1 C.2.1 dX3_isLesson_12 (by decide) ?_
    obtain rfl := Option.some.inj hf
    exact u_zret C hP hS isb_0 dX3_isLesson_13
  · have hf := g_f hc hf
    refine lv_iconst (v := (1 : Int32)) C.1 C.2.1 dX3_isLesson_8 (by decide) ?_
    refine lv_goto (tgt := 13) C.1 C.2.1 dX3_isLesson_9 (by decide) ?_
    obtain rfl := Option.some.inj hf
    exact u_zret C hP hS isb_1 dX3_isLesson_13
theorem c_X3_isLesson (l : Launch) (D : va_G) (ids : Nat → ClassId) (ad tt : Nat → Nat) (hA : adOk ad 59) {k : Nat} (hk : isX3 k) {a1 : Int32} {h : Hp} {rv : Int32 × Hp} (hf : f_X3_isLesson h k a1 = some rv) : Met l yX3_isLesson (ws_ yX3_isLesson cX3_isLesson 2 (some .boolean)) rm_X3_isLesson (va_Pc [.ref (ad k), .int a1] (WB D ids (cEC ids ad) ad 59 (ExC tt ad) h)) (QW D (cEC ids ad) ad 59 (some (.int rv.1)) rv.2) 0 0 (inW ad 59) :=
  u_met (own := RX3) (by decide) rfl (Nat.le_of_ble_eq_true rfl) rfl (fun p e s m args below meth c H ls C hX hP hS hl => w_X3_isLesson (tt := tt) hA C hX hk _ _ _ _ _ hf hP hS hl)
abbrev rm_X2_learn : Room := { frames := 0, cells := 0, slots := 0, locals := 0 }
set_option maxRecDepth 100000 in
set_option maxHeartbeats 4000000 in
theorem w_X2_learn {p : Program} {l : Launch} {e : Env} {s : State} {m : MethodId} {args : Array Value} {below : List Frame} {meth : Method} {c : Code} {D : va_G} {ids : Nat → ClassId} {ad tt : Nat → Nat} {rv : Hp} (hA : adOk ad 59) (C : CX p s m args meth c cX2_learn 2 none RX2 D ids) (hX : (ExC tt ad) s s.heap) {k : Nat} (hk : isX2 k) : ∀ (h : Hp) (a1 : Int32) (H : Heap) (locs : List Loc) (ls : Array Slot), f_X2_learn h k a1 = some rv → wp D (cEC ids ad) ad 59 h H → va_S (inW ad 59) s.heap H locs → lv_has ls 2 [(0, .ref (ad k)), (1, .int a1)] → W p l e rm_X2_learn s m args below meth c H locs 0 0 (MQ below (QW D (cEC ids ad) ad 59 none rv) args s 0 0 (inW ad 59)) (F0 m 0 ls []) := by
  intro h a1 H locs ls hf hP hS hl
  unfold f_X2_learn at hf
  refine lv_aload_n C.1 C.2.1 dX2_learn_0 rfl (lv_at hl 0 rfl) ?_
  refine lv_iload_n C.1 C.2.1 dX2_learn_1 rfl (lv_at hl 1 rfl) ?_
  refine pf_X2_36 hA C hk hP hS dX2_learn_2 (fun H locs hP hS => ?_)
  refine lv_aload_n C.1 C.2.1 dX2_learn_5 rfl (lv_at hl 0 rfl) ?_
  refine lv_dup C.1 C.2.1 dX2_learn_6 rfl ?_
  refine gf_X2_33 C hk hP dX2_learn_7 ?_
  refine lv_iconst (v := (1 : Int32)) C.1 C.2.1 dX2_learn_10 (by decide) ?_
  refine lv_iadd C.1 C.2.1 dX2_learn_11 ?_
  refine pf_X2_33 hA C hk hP hS dX2_learn_12 (fun H locs hP hS => ?_)
  obtain rfl := Option.some.inj hf
  exact u_vret C hP hS dX2_learn_15
theorem c_X2_learn (l : Launch) (D : va_G) (ids : Nat → ClassId) (ad tt : Nat → Nat) (hA : adOk ad 59) {k : Nat} (hk : isX2 k) {a1 : Int32} {h : Hp} {rv : Hp} (hf : f_X2_learn h k a1 = some rv) : Met l yX2_learn (ws_ yX2_learn cX2_learn 2 none) rm_X2_learn (va_Pc [.ref (ad k), .int a1] (WB D ids (cEC ids ad) ad 59 (ExC tt ad) h)) (QW D (cEC ids ad) ad 59 none rv) 0 0 (inW ad 59) :=
  u_met (own := RX2) (by decide) rfl (Nat.le_of_ble_eq_true rfl) rfl (fun p e s m args below meth c H ls C hX hP hS hl => w_X2_learn (tt := tt) hA C hX hk _ _ _ _ _ hf hP hS hl)
theorem gf_X5_43 {p : Program} {l : Launch} {e : Env} {R : Room} {s : State} {m : MethodId} {args : Array Value} {below : List Frame} {meth : Method} {c : Code} {H : Heap} {locs : List Loc} {cells slots : Nat} {Q : State → Prop} {cc : ByteArray} {nL : Nat} {ret : Option FieldType} {pc : Nat} {ls : Array Slot} {rest : List Value} {D : va_G} {ids : Nat → ClassId} {ad : Nat → Nat} {h : Hp} (C : CX p s m args meth c cc nL ret RX5 D ids) (hP : wp D (cEC ids ad) ad 59 h H) (hdg : decode cc pc = .ok (.getfield 43, 3)) (kk : W p l e R s m args below meth c H locs cells slots Q (F0 m (pc + 3) ls (.int (h 48 1) :: rest))) : W p l e R s m args below meth c H locs cells slots Q (F0 m pc ls (.ref (ad 48) :: rest)) :=
  u_get C hP (by decide) cE_X4 rfl inX4 1 (by decide) rfl q_380 hdg kk
theorem gf_X5_46 {p : Program} {l : Launch} {e : Env} {R : Room} {s : State} {m : MethodId} {args : Array Value} {below : List Frame} {meth : Method} {c : Code} {H : Heap} {locs : List Loc} {cells slots : Nat} {Q : State → Prop} {cc : ByteArray} {nL : Nat} {ret : Option FieldType} {pc : Nat} {ls : Array Slot} {rest : List Value} {D : va_G} {ids : Nat → ClassId} {ad : Nat → Nat} {h : Hp} (C : CX p s m args meth c cc nL ret RX5 D ids) (hP : wp D (cEC ids ad) ad 59 h H) (hdg : decode cc pc = .ok (.getfield 46, 3)) (kk : W p l e R s m args below meth c H locs cells slots Q (F0 m (pc + 3) ls (.int (h 48 2) :: rest))) : W p l e R s m args below meth c H locs cells slots Q (F0 m pc ls (.ref (ad 48) :: rest)) :=
  u_get C hP (by decide) cE_X4 rfl inX4 2 (by decide) rfl q_381 hdg kk
theorem gf_X5_47 {p : Program} {l : Launch} {e : Env} {R : Room} {s : State} {m : MethodId} {args : Array Value} {below : List Frame} {meth : Method} {c : Code} {H : Heap} {locs : List Loc} {cells slots : Nat} {Q : State → Prop} {cc : ByteArray} {nL : Nat} {ret : Option FieldType} {pc : Nat} {ls : Array Slot} {rest : List Value} {D : va_G} {ids : Nat → ClassId} {ad : Nat → Nat} {h : Hp} (C : CX p s m args meth c cc nL ret RX5 D ids) (hP : wp D (cEC ids ad) ad 59 h H) (hdg : decode cc pc = .ok (.getfield 47, 3)) (kk : W p l e R s m args below meth c H locs cells slots Q (F0 m (pc + 3) ls (.ref (ad 49) :: rest))) : W p l e R s m args below meth c H locs cells slots Q (F0 m pc ls (.ref (ad 48) :: rest)) :=
  u_get C hP (by decide) cE_X4 rfl inX4 0 (by decide) rfl q_382 hdg kk
theorem cv_X5_51 {p : Program} {l : Launch} {e : Env} {R : Room} {s : State} {m : MethodId} {args : Array Value} {below : List Frame} {meth : Method} {c : Code} {H : Heap} {locs : List Loc} {Q : State → Prop} {cc : ByteArray} {nL : Nat} {ret : Option FieldType} {pc : Nat} {ls : Array Slot} {rest : List Value} {D : va_G} {ids : Nat → ClassId} {ad tt : Nat → Nat} {h : Hp} (hA : adOk ad 59) (C : CX p s m args meth c cc nL ret RX5 D ids) (hX : (ExC tt ad) s s.heap) (hP : wp D (cEC ids ad) ad 59 h H) (hS : va_S (inW ad 59) s.heap H locs) {k : Nat} (hk : isX2 k) {k1 : Nat} (hk1 : isX3 k1) {rv : Hp} (hf : f_X2_endDay h k k1 = some rv) (hR : 1 + 1 ≤ R.frames ∧ 8 + (2 + 11) + 20 ≤ R.locals) (hsz : ls.size = nL) (hcat : (rest.map fun v => v.category).sum ≤ 8) (hdg : decode cc pc = .ok (.invokevirtual 51, 3)) (kk : ∀ (H1 : Heap) (locs1 : List Loc), wp D (cEC ids ad) ad 59 rv H1 → va_S (inW ad 59) s.heap H1 locs1 → W p l e R s m args below meth c H1 locs1 0 0 Q (F0 m (pc + 3) ls (rest))) : W p l e R s m args below meth c H locs 0 0 Q (F0 m pc ls (.ref (ad k1) :: .ref (ad k) :: rest)) :=
  u_callV (As := [.ref (ad k1)]) (rv := none) C (exC_ok hA) hX (c_X2_endDay l D ids ad tt hA hk hk1 hf) q_383 q_384 q_385 q_38 q_386 ⟨rfl, rfl⟩ (by refine ⟨by decide +kernel, by decide +kernel, ?_⟩; show _ = some 1; decide +kernel) hR (lt_X2 hk) (cE_X2 hk _) rfl hP hS hsz hcat rfl hdg kk
theorem cv_X5_55 {p : Program} {l : Launch} {e : Env} {R : Room} {s : State} {m : MethodId} {args : Array Value} {below : List Frame} {meth : Method} {c : Code} {H : Heap} {locs : List Loc} {Q : State → Prop} {cc : ByteArray} {nL : Nat} {ret : Option FieldType} {pc : Nat} {ls : Array Slot} {rest : List Value} {D : va_G} {ids : Nat → ClassId} {ad tt : Nat → Nat} {h : Hp} (hA : adOk ad 59) (C : CX p s m args meth c cc nL ret RX5 D ids) (hX : (ExC tt ad) s s.heap) (hP : wp D (cEC ids ad) ad 59 h H) (hS : va_S (inW ad 59) s.heap H locs) {k : Nat} (hk : isX3 k) {a1 : Int32} {rv : Int32 × Hp} (hf : f_X3_isLesson h k a1 = some rv) (hR : 0 + 1 ≤ R.frames ∧ 8 + (2 + 11) + 0 ≤ R.locals) (hsz : ls.size = nL) (hcat : (rest.map fun v => v.category).sum ≤ 8) (hdg : decode cc pc = .ok (.invokevirtual 55, 3)) (kk : ∀ (H1 : Heap) (locs1 : List Loc), wp D (cEC ids ad) ad 59 rv.2 H1 → va_S (inW ad 59) s.heap H1 locs1 → W p l e R s m args below meth c H1 locs1 0 0 Q (F0 m (pc + 3) ls (.int rv.1 :: rest))) : W p l e R s m args below meth c H locs 0 0 Q (F0 m pc ls (.int a1 :: .ref (ad k) :: rest)) :=
  u_callV (As := [.int a1]) (rv := (some (.int rv.1))) C (exC_ok hA) hX (c_X3_isLesson l D ids ad tt hA hk hf) q_396 q_397 q_398 q_91 q_399 ⟨rfl, rfl⟩ (by refine ⟨by decide +kernel, by decide +kernel, ?_⟩; show _ = some 1; decide +kernel) hR (lt_X3 hk) (cE_X3 hk _) rfl hP hS hsz hcat rfl hdg kk
theorem cv_X5_61 {p : Program} {l : Launch} {e : Env} {R : Room} {s : State} {m : MethodId} {args : Array Value} {below : List Frame} {meth : Method} {c : Code} {H : Heap} {locs : List Loc} {Q : State → Prop} {cc : ByteArray} {nL : Nat} {ret : Option FieldType} {pc : Nat} {ls : Array Slot} {rest : List Value} {D : va_G} {ids : Nat → ClassId} {ad tt : Nat → Nat} {h : Hp} (hA : adOk ad 59) (C : CX p s m args meth c cc nL ret RX5 D ids) (hX : (ExC tt ad) s s.heap) (hP : wp D (cEC ids ad) ad 59 h H) (hS : va_S (inW ad 59) s.heap H locs) {k : Nat} (hk : isX2 k) {a1 : Int32} {rv : Hp} (hf : f_X2_learn h k a1 = some rv) (hR : 0 + 1 ≤ R.frames ∧ 8 + (2 + 11) + 0 ≤ R.locals) (hsz : ls.size = nL) (hcat : (rest.map fun v => v.category).sum ≤ 8) (hdg : decode cc pc = .ok (.invokevirtual 61, 3)) (kk : ∀ (H1 : Heap) (locs1 : List Loc), wp D (cEC ids ad) ad 59 rv H1 → va_S (inW ad 59) s.heap H1 locs1 → W p l e R s m args below meth c H1 locs1 0 0 Q (F0 m (pc + 3) ls (rest))) : W p l e R s m args below meth c H locs 0 0 Q (F0 m pc ls (.int a1 :: .ref (ad k) :: rest)) :=
  u_callV (As := [.int a1]) (rv := none) C (exC_ok hA) hX (c_X2_learn l D ids ad tt hA hk hf) q_400 q_401 q_402 q_38 q_403 ⟨rfl, rfl⟩ (by refine ⟨by decide +kernel, by decide +kernel, ?_⟩; show _ = some 1; decide +kernel) hR (lt_X2 hk) (cE_X2 hk _) rfl hP hS hsz hcat rfl hdg kk
abbrev rm_X5_endDay : Room := { frames := 2, cells := 0, slots := 0, locals := 41 }
set_option maxRecDepth 100000 in
set_option maxHeartbeats 4000000 in
theorem w_X5_endDay_95 {p : Program} {l : Launch} {e : Env} {s : State} {m : MethodId} {args : Array Value} {below : List Frame} {meth : Method} {c : Code} {D : va_G} {ids : Nat → ClassId} {ad tt : Nat → Nat} {rv : Hp} (hA : adOk ad 59) (C : CX p s m args meth c cX5_endDay 4 none RX5 D ids) (hX : (ExC tt ad) s s.heap) {k : Nat} (hk : isX5 k) {K49 : Hp → Int32 → Option (Hp)} (hK49 : ∀ (h : Hp) (x2 : Int32) (H : Heap) (locs : List Loc) (ls : Array Slot), K49 h x2 = some rv → wp D (cEC ids ad) ad 59 h H → va_S (inW ad 59) s.heap H locs → lv_has ls 4 [(0, .ref (ad k)), (1, .ref (ad 48)), (2, .int x2)] → W p l e rm_X5_endDay s m args below meth c H locs 0 0 (MQ below (QW D (cEC ids ad) ad 59 none rv) args s 0 0 (inW ad 59)) (F0 m 49 ls [])) : ∀ (h : Hp) (x2 : Int32) (H : Heap) (locs : List Loc) (ls : Array Slot), f_X5_endDay_95 k K49 h x2 = some rv → wp D (cEC ids ad) ad 59 h H → va_S (inW ad 59) s.heap H locs → lv_has ls 4 [(0, .ref (ad k)), (1, .ref (ad 48)), (2, .int x2)] → W p l e rm_X5_endDay s m args below meth c H locs 0 0 (MQ below (QW D (cEC ids ad) ad 59 none rv) args s 0 0 (inW ad 59)) (F0 m 95 ls []) := by
  intro h x2 H locs ls hf hP hS hl
  unfold f_X5_endDay_95 at hf
  refine lv_iinc (v := (x2 + 1)) (lv' := [(2, .int (x2 + 1)), (0, .ref (ad k)), (1, .ref (ad 48))]) C.1 C.2.1 dX5_endDay_95 hl (k := 2) rfl (by rfl) (by decide) rfl (fun ls hl => ?_)
  refine lv_goto (tgt := 49) C.1 C.2.1 dX5_endDay_98 (by decide) ?_
  exact hK49 _ _ _ _ _ hf hP hS (lv_sub hl [1, 2, 0] rfl)
set_option maxRecDepth 100000 in
set_option maxHeartbeats 4000000 in
theorem w_X5_endDay_49 {p : Program} {l : Launch} {e : Env} {s : State} {m : MethodId} {args : Array Value} {below : List Frame} {meth : Method} {c : Code} {D : va_G} {ids : Nat → ClassId} {ad tt : Nat → Nat} {rv : Hp} (hA : adOk ad 59) (C : CX p s m args meth c cX5_endDay 4 none RX5 D ids) (hX : (ExC tt ad) s s.heap) {k : Nat} (hk : isX5 k) : ∀ (fu : Nat), ∀ (h : Hp) (x2 : Int32) (H : Heap) (locs : List Loc) (ls : Array Slot), f_X5_endDay_49 k fu h x2 = some rv → wp D (cEC ids ad) ad 59 h H → va_S (inW ad 59) s.heap H locs → lv_has ls 4 [(0, .ref (ad k)), (1, .ref (ad 48)), (2, .int x2)] → W p l e rm_X5_endDay s m args below meth c H locs 0 0 (MQ below (QW D (cEC ids ad) ad 59 none rv) args s 0 0 (inW ad 59)) (F0 m 49 ls []) := by
  intro fu
  induction fu with
  | zero =>
    intro h x2 H locs ls hf hP hS hl
    cases hf
  | succ fu ih =>
    intro h x2 H locs ls hf hP hS hl
    rw [f_X5_endDay_49_s] at hf
    refine lv_iload_n C.1 C.2.1 dX5_endDay_49 rfl (lv_at hl 2 rfl) ?_
    refine lv_iconst (v := (3 : Int32)) C.1 C.2.1 dX5_endDay_50 (by decide) ?_
    refine lv_icmp_ge (tgt := 101) C.1 C.2.1 dX5_endDay_51 (by decide) (fun hc => ?_) (fun hc => ?_)
    · have hf := g_t hc hf
      obtain rfl := Option.some.inj hf
      exact u_vret C hP hS dX5_endDay_101
    · have hf := g_f hc hf
      refine lv_aload_n C.1 C.2.1 dX5_endDay_54 rfl (lv_at hl 1 rfl) ?_
      refine gf_X5_47 C hP dX5_endDay_55 ?_
      refine lv_iload_n C.1 C.2.1 dX5_endDay_58 rfl (lv_at hl 2 rfl) ?_
      obtain ⟨hg1, hf⟩ := g_if hf
      refine rl_aFe C hP hg1 dX5_endDay_59 ?_
      refine lv_astore_n (lv' := [(3, .ref (ad (50 + 3 * x2.toNatClampNeg))), (0, .ref (ad k)), (1, .ref (ad 48)), (2, .int x2)]) C.1 C.2.1 dX5_endDay_60 rfl hl (by decide) rfl (fun ls hl => ?_)
      refine lv_aload_n C.1 C.2.1 dX5_endDay_61 rfl (lv_at hl 1 rfl) ?_
      refine gf_X5_14 C hk hP dX5_endDay_62 ?_
      refine lv_iload_n C.1 C.2.1 dX5_endDay_65 rfl (lv_at hl 3 rfl) ?_
      obtain ⟨hg2, hf⟩ := g_if hf
      refine rl_aCap C (cap_of hk) hP hg2 dX5_endDay_66 ?_
      refine lv_aload_n C.1 C.2.1 dX5_endDay_67 rfl (lv_at hl 0 rfl) ?_
      obtain ⟨q3, eq3, hf⟩ := g_b hf
      refine cv_X5_51 hA C hX hP hS (cp_el (cap_of hk) hg2) (fe_el hg1) eq3 ⟨Nat.le_of_ble_eq_true rfl, Nat.le_of_ble_eq_true rfl⟩ hl.1 (Nat.le_of_ble_eq_true rfl) dX5_endDay_68 (fun H locs hP hS => ?_)
      refine lv_aload_n C.1 C.2.1 dX5_endDay_71 rfl (lv_at hl 0 rfl) ?_
      refine lv_aload_n C.1 C.2.1 dX5_endDay_72 rfl (lv_at hl 1 rfl) ?_
      refine gf_X5_24 C hk hP dX5_endDay_73 ?_
      obtain ⟨q4, eq4, hf⟩ := g_b hf
      refine cv_X5_55 hA C hX hP hS (fe_el hg1) eq4 ⟨Nat.le_of_ble_eq_true rfl, Nat.le_of_ble_eq_true rfl⟩ hl.1 (Nat.le_of_ble_eq_true rfl) dX5_endDay_76 (fun H locs hP hS => ?_)
      refine lv_if_eq (tgt := 95) C.1 C.2.1 dX5_endDay_79 (by decide) (fun hc => ?_) (fun hc => ?_)
      · have hf := g_t hc hf
        exact w_X5_endDay_95 hA C hX hk ih _ _ _ _ _ hf hP hS (lv_sub hl [1, 2, 3] rfl)
      · have hf := g_f hc hf
        refine lv_aload_n C.1 C.2.1 dX5_endDay_82 rfl (lv_at hl 1 rfl) ?_
        refine gf_X5_14 C hk hP dX5_endDay_83 ?_
        refine lv_iload_n C.1 C.2.1 dX5_endDay_86 rfl (lv_at hl 3 rfl) ?_
        obtain ⟨hg5, hf⟩ := g_if hf
        refine rl_aCap C (cap_of hk) hP hg5 dX5_endDay_87 ?_
        refine lv_aload_n C.1 C.2.1 dX5_endDay_88 rfl (lv_at hl 1 rfl) ?_
        refine gf_X5_27 C hk hP dX5_endDay_89 ?_
        obtain ⟨q6, eq6, hf⟩ := g_b hf
        refine cv_X5_61 hA C hX hP hS (cp_el (cap_of hk) hg5) eq6 ⟨Nat.le_of_ble_eq_true rfl, Nat.le_of_ble_eq_true rfl⟩ hl.1 (Nat.le_of_ble_eq_true rfl) dX5_endDay_92 (fun H locs hP hS => ?_)
        exact w_X5_endDay_95 hA C hX hk ih _ _ _ _ _ hf hP hS (lv_sub hl [1, 2, 3] rfl)
set_option maxRecDepth 100000 in
set_option maxHeartbeats 4000000 in
theorem w_X5_endDay_47 {p : Program} {l : Launch} {e : Env} {s : State} {m : MethodId} {args : Array Value} {below : List Frame} {meth : Method} {c : Code} {D : va_G} {ids : Nat → ClassId} {ad tt : Nat → Nat} {rv : Hp} (hA : adOk ad 59) (C : CX p s m args meth c cX5_endDay 4 none RX5 D ids) (hX : (ExC tt ad) s s.heap) {k : Nat} (hk : isX5 k) : ∀ (h : Hp) (H : Heap) (locs : List Loc) (ls : Array Slot), f_X5_endDay_47 k h = some rv → wp D (cEC ids ad) ad 59 h H → va_S (inW ad 59) s.heap H locs → lv_has ls 4 [(0, .ref (ad k)), (1, .ref (ad 48))] → W p l e rm_X5_endDay s m args below meth c H locs 0 0 (MQ below (QW D (cEC ids ad) ad 59 none rv) args s 0 0 (inW ad 59)) (F0 m 47 ls []) := by
  intro h H locs ls hf hP hS hl
  unfold f_X5_endDay_47 at hf
  refine lv_iconst (v := (0 : Int32)) C.1 C.2.1 dX5_endDay_47 (by decide) ?_
  refine lv_istore_n (lv' := [(2, .int (0 : Int32)), (0, .ref (ad k)), (1, .ref (ad 48))]) C.1 C.2.1 dX5_endDay_48 rfl hl (by decide) rfl (fun ls hl => ?_)
  exact w_X5_endDay_49 hA C hX hk _ _ _ _ _ _ hf hP hS (lv_sub hl [1, 2, 0] rfl)
set_option maxRecDepth 100000 in
set_option maxHeartbeats 4000000 in
theorem w_X5_endDay_18 {p : Program} {l : Launch} {e : Env} {s : State} {m : MethodId} {args : Array Value} {below : List Frame} {meth : Method} {c : Code} {D : va_G} {ids : Nat → ClassId} {ad tt : Nat → Nat} {rv : Hp} (hA : adOk ad 59) (C : CX p s m args meth c cX5_endDay 4 none RX5 D ids) (hX : (ExC tt ad) s s.heap) {k : Nat} (hk : isX5 k) : ∀ (h : Hp) (H : Heap) (locs : List Loc) (ls : Array Slot), f_X5_endDay_18 k h = some rv → wp D (cEC ids ad) ad 59 h H → va_S (inW ad 59) s.heap H locs → lv_has ls 4 [(0, .ref (ad k)), (1, .ref (ad 48))] → W p l e rm_X5_endDay s m args below meth c H locs 0 0 (MQ below (QW D (cEC ids ad) ad 59 none rv) args s 0 0 (inW ad 59)) (F0 m 18 ls []) := by
  intro h H locs ls hf hP hS hl
  unfold f_X5_endDay_18 at hf
  refine lv_aload_n C.1 C.2.1 dX5_endDay_18 rfl (lv_at hl 0 rfl) ?_
  refine lv_dup C.1 C.2.1 dX5_endDay_19 rfl ?_
  refine gf_X5_33 C hk hP dX5_endDay_20 ?_
  refine lv_aload_n C.1 C.2.1 dX5_endDay_23 rfl (lv_at hl 1 rfl) ?_
  refine gf_X5_46 C hP dX5_endDay_24 ?_
  refine lv_iadd C.1 C.2.1 dX5_endDay_27 ?_
  refine pf_X5_33 hA C hk hP hS dX5_endDay_28 (fun H locs hP hS => ?_)
  refine lv_aload_n C.1 C.2.1 dX5_endDay_31 rfl (lv_at hl 0 rfl) ?_
  refine lv_aload_n C.1 C.2.1 dX5_endDay_32 rfl (lv_at hl 0 rfl) ?_
  refine gf_X5_27 C hk hP dX5_endDay_33 ?_
  refine lv_aload_n C.1 C.2.1 dX5_endDay_36 rfl (lv_at hl 0 rfl) ?_
  refine gf_X5_20 C hk hP dX5_endDay_37 ?_
  refine lv_iadd C.1 C.2.1 dX5_endDay_40 ?_
  refine lv_bipush (v := (12 : Int32)) C.1 C.2.1 dX5_endDay_41 (by decide) ?_
  refine lv_irem C.1 C.2.1 dX5_endDay_43 (by decide) ?_
  refine pf_X5_27 hA C hk hP hS dX5_endDay_44 (fun H locs hP hS => ?_)
  exact w_X5_endDay_47 hA C hX hk _ _ _ _ hf hP hS (lv_sub hl [0, 1] rfl)
set_option maxRecDepth 100000 in
set_option maxHeartbeats 4000000 in
theorem w_X5_endDay {p : Program} {l : Launch} {e : Env} {s : State} {m : MethodId} {args : Array Value} {below : List Frame} {meth : Method} {c : Code} {D : va_G} {ids : Nat → ClassId} {ad tt : Nat → Nat} {rv : Hp} (hA : adOk ad 59) (C : CX p s m args meth c cX5_endDay 4 none RX5 D ids) (hX : (ExC tt ad) s s.heap) {k : Nat} (hk : isX5 k) : ∀ (h : Hp) (H : Heap) (locs : List Loc) (ls : Array Slot), f_X5_endDay h k = some rv → wp D (cEC ids ad) ad 59 h H → va_S (inW ad 59) s.heap H locs → lv_has ls 4 [(0, .ref (ad k)), (1, .ref (ad 48))] → W p l e rm_X5_endDay s m args below meth c H locs 0 0 (MQ below (QW D (cEC ids ad) ad 59 none rv) args s 0 0 (inW ad 59)) (F0 m 0 ls []) := by
  intro h H locs ls hf hP hS hl
  unfold f_X5_endDay at hf
  refine lv_aload_n C.1 C.2.1 dX5_endDay_0 rfl (lv_at hl 0 rfl) ?_
  refine lv_dup C.1 C.2.1 dX5_endDay_1 rfl ?_
  refine gf_X5_36 C hk hP dX5_endDay_2 ?_
  refine lv_iconst (v := (1 : Int32)) C.1 C.2.1 dX5_endDay_5 (by decide) ?_
  refine lv_iadd C.1 C.2.1 dX5_endDay_6 ?_
  refine pf_X5_36 hA C hk hP hS dX5_endDay_7 (fun H locs hP hS => ?_)
  refine lv_aload_n C.1 C.2.1 dX5_endDay_10 rfl (lv_at hl 0 rfl) ?_
  refine lv_aload_n C.1 C.2.1 dX5_endDay_11 rfl (lv_at hl 1 rfl) ?_
  refine gf_X5_43 C hP dX5_endDay_12 ?_
  refine pf_X5_30 hA C hk hP hS dX5_endDay_15 (fun H locs hP hS => ?_)
  exact w_X5_endDay_18 hA C hX hk _ _ _ _ hf hP hS (lv_sub hl [0, 1] rfl)
theorem c_X5_endDay (l : Launch) (D : va_G) (ids : Nat → ClassId) (ad tt : Nat → Nat) (hA : adOk ad 59) {k : Nat} (hk : isX5 k) {h : Hp} {rv : Hp} (hf : f_X5_endDay h k = some rv) : Met l yX5_endDay (ws_ yX5_endDay cX5_endDay 4 none) rm_X5_endDay (va_Pc [.ref (ad k), .ref (ad 48)] (WB D ids (cEC ids ad) ad 59 (ExC tt ad) h)) (QW D (cEC ids ad) ad 59 none rv) 0 0 (inW ad 59) :=
  u_met (own := RX5) (by decide) rfl (Nat.le_of_ble_eq_true rfl) rfl (fun p e s m args below meth c H ls C hX hP hS hl => w_X5_endDay (tt := tt) hA C hX hk _ _ _ _ hf hP hS hl)
theorem cv_X3_71 {p : Program} {l : Launch} {e : Env} {R : Room} {s : State} {m : MethodId} {args : Array Value} {below : List Frame} {meth : Method} {c : Code} {H : Heap} {locs : List Loc} {Q : State → Prop} {cc : ByteArray} {nL : Nat} {ret : Option FieldType} {pc : Nat} {ls : Array Slot} {rest : List Value} {D : va_G} {ids : Nat → ClassId} {ad tt : Nat → Nat} {h : Hp} (hA : adOk ad 59) (C : CX p s m args meth c cc nL ret RX3 D ids) (hX : (ExC tt ad) s s.heap) (hP : wp D (cEC ids ad) ad 59 h H) (hS : va_S (inW ad 59) s.heap H locs) {k : Nat} (hk : isX3 k) {rv : Int32 × Hp} (hf : f_X3_crossingsLeft h k = some rv) (hR : 0 + 1 ≤ R.frames ∧ 8 + (1 + 11) + 0 ≤ R.locals) (hsz : ls.size = nL) (hcat : (rest.map fun v => v.category).sum ≤ 8) (hdg : decode cc pc = .ok (.invokevirtual 71, 3)) (kk : ∀ (H1 : Heap) (locs1 : List Loc), wp D (cEC ids ad) ad 59 rv.2 H1 → va_S (inW ad 59) s.heap H1 locs1 → W p l e R s m args below meth c H1 locs1 0 0 Q (F0 m (pc + 3) ls (.int rv.1 :: rest))) : W p l e R s m args below meth c H locs 0 0 Q (F0 m pc ls (.ref (ad k) :: rest)) :=
  u_callV (As := []) (rv := (some (.int rv.1))) C (exC_ok hA) hX (c_X3_crossingsLeft l D ids ad tt hA hk hf) q_412 q_392 q_393 q_91 q_394 ⟨rfl, rfl⟩ (by refine ⟨by decide +kernel, by decide +kernel, ?_⟩; show _ = some 0; decide +kernel) hR (lt_X3 hk) (cE_X3 hk _) rfl hP hS hsz hcat rfl hdg kk
abbrev rm_X3_tell : Room := { frames := 1, cells := 0, slots := 0, locals := 20 }
set_option maxRecDepth 100000 in
set_option maxHeartbeats 4000000 in
theorem w_X3_tell {p : Program} {l : Launch} {e : Env} {s : State} {m : MethodId} {args : Array Value} {below : List Frame} {meth : Method} {c : Code} {D : va_G} {ids : Nat → ClassId} {ad tt : Nat → Nat} {rv : Int32 × Hp} (hA : adOk ad 59) (C : CX p s m args meth c cX3_tell 2 (some .int) RX3 D ids) (hX : (ExC tt ad) s s.heap) {k : Nat} (hk : isX3 k) : ∀ (h : Hp) (a1 : Int32) (H : Heap) (locs : List Loc) (ls : Array Slot), f_X3_tell h k a1 = some rv → wp D (cEC ids ad) ad 59 h H → va_S (inW ad 59) s.heap H locs → lv_has ls 2 [(0, .ref (ad k)), (1, .int a1)] → W p l e rm_X3_tell s m args below meth c H locs 0 0 (MQ below (QW D (cEC ids ad) ad 59 (some (.int rv.1)) rv.2) args s 0 0 (inW ad 59)) (F0 m 0 ls []) := by
  intro h a1 H locs ls hf hP hS hl
  unfold f_X3_tell at hf
  refine lv_iload_n C.1 C.2.1 dX3_tell_0 rfl (lv_at hl 1 rfl) ?_
  by_cases hc5 : a1 = 5
  · have hf := g_t hc5 hf
    refine lv_tableIn (off := 35) (tgt := 36) C.1 C.2.1 dX3_tell_1 (by rw [hc5]; decide) (by rw [hc5]; decide) (by rw [hc5]; rfl) (by decide) ?_
    refine lv_aload_n C.1 C.2.1 dX3_tell_36 rfl (lv_at hl 0 rfl) ?_
    refine gf_X3_38 C hk hP dX3_tell_37 ?_
    obtain rfl := Option.some.inj hf
    exact u_iret C hP hS dX3_tell_40
  · have hf := g_f hc5 hf
    by_cases hc6 : a1 = 6
    · have hf := g_t hc6 hf
      refine lv_tableIn (off := 40) (tgt := 41) C.1 C.2.1 dX3_tell_1 (by rw [hc6]; decide) (by rw [hc6]; decide) (by rw [hc6]; rfl) (by decide) ?_
      refine lv_aload_n C.1 C.2.1 dX3_tell_41 rfl (lv_at hl 0 rfl) ?_
      refine gf_X3_41 C hk hP dX3_tell_42 ?_
      obtain rfl := Option.some.inj hf
      exact u_iret C hP hS dX3_tell_45
    · have hf := g_f hc6 hf
      by_cases hc7 : a1 = 7
      · have hf := g_t hc7 hf
        refine lv_tableIn (off := 45) (tgt := 46) C.1 C.2.1 dX3_tell_1 (by rw [hc7]; decide) (by rw [hc7]; decide) (by rw [hc7]; rfl) (by decide) ?_
        refine lv_aload_n C.1 C.2.1 dX3_tell_46 rfl (lv_at hl 0 rfl) ?_
        refine gf_X3_44 C hk hP dX3_tell_47 ?_
        obtain rfl := Option.some.inj hf
        exact u_iret C hP hS dX3_tell_50
      · have hf := g_f hc7 hf
        by_cases hc8 : a1 = 8
        · have hf := g_t hc8 hf
          refine lv_tableIn (off := 55) (tgt := 56) C.1 C.2.1 dX3_tell_1 (by rw [hc8]; decide) (by rw [hc8]; decide) (by rw [hc8]; rfl) (by decide) ?_
          refine lv_iconst (v := (0 : Int32)) C.1 C.2.1 dX3_tell_56 (by decide) ?_
          obtain rfl := Option.some.inj hf
          exact u_iret C hP hS dX3_tell_57
        · have hf := g_f hc8 hf
          by_cases hc9 : a1 = 9
          · have hf := g_t hc9 hf
            refine lv_tableIn (off := 50) (tgt := 51) C.1 C.2.1 dX3_tell_1 (by rw [hc9]; decide) (by rw [hc9]; decide) (by rw [hc9]; rfl) (by decide) ?_
            refine lv_aload_n C.1 C.2.1 dX3_tell_51 rfl (lv_at hl 0 rfl) ?_
            obtain ⟨q1, eq1, hf⟩ := g_b hf
            refine cv_X3_71 hA C hX hP hS hk eq1 ⟨Nat.le_of_ble_eq_true rfl, Nat.le_of_ble_eq_true rfl⟩ hl.1 (Nat.le_of_ble_eq_true rfl) dX3_tell_52 (fun H locs hP hS => ?_)
            obtain rfl := Option.some.inj hf
            exact u_iret C hP hS dX3_tell_55
          · have hf := g_f hc9 hf
            have hsw : a1.toInt < 5 ∨ 9 < a1.toInt := by
              have zhc5 := lv_neT hc5 (show (5 : Int32).toInt = 5 by decide)
              have zhc6 := lv_neT hc6 (show (6 : Int32).toInt = 6 by decide)
              have zhc7 := lv_neT hc7 (show (7 : Int32).toInt = 7 by decide)
              have zhc8 := lv_neT hc8 (show (8 : Int32).toInt = 8 by decide)
              have zhc9 := lv_neT hc9 (show (9 : Int32).toInt = 9 by decide)
              omega
            refine lv_tableOut (tgt := 56) C.1 C.2.1 dX3_tell_1 hsw (by decide) ?_
            refine lv_iconst (v := (0 : Int32)) C.1 C.2.1 dX3_tell_56 (by decide) ?_
            obtain rfl := Option.some.inj hf
            exact u_iret C hP hS dX3_tell_57
theorem c_X3_tell (l : Launch) (D : va_G) (ids : Nat → ClassId) (ad tt : Nat → Nat) (hA : adOk ad 59) {k : Nat} (hk : isX3 k) {a1 : Int32} {h : Hp} {rv : Int32 × Hp} (hf : f_X3_tell h k a1 = some rv) : Met l yX3_tell (ws_ yX3_tell cX3_tell 2 (some .int)) rm_X3_tell (va_Pc [.ref (ad k), .int a1] (WB D ids (cEC ids ad) ad 59 (ExC tt ad) h)) (QW D (cEC ids ad) ad 59 (some (.int rv.1)) rv.2) 0 0 (inW ad 59) :=
  u_met (own := RX3) (by decide) rfl (Nat.le_of_ble_eq_true rfl) rfl (fun p e s m args below meth c H ls C hX hP hS hl => w_X3_tell (tt := tt) hA C hX hk _ _ _ _ _ hf hP hS hl)
theorem cv_X4_70 {p : Program} {l : Launch} {e : Env} {R : Room} {s : State} {m : MethodId} {args : Array Value} {below : List Frame} {meth : Method} {c : Code} {H : Heap} {locs : List Loc} {Q : State → Prop} {cc : ByteArray} {nL : Nat} {ret : Option FieldType} {pc : Nat} {ls : Array Slot} {rest : List Value} {D : va_G} {ids : Nat → ClassId} {ad tt : Nat → Nat} {h : Hp} (hA : adOk ad 59) (C : CX p s m args meth c cc nL ret RX4 D ids) (hX : (ExC tt ad) s s.heap) (hP : wp D (cEC ids ad) ad 59 h H) (hS : va_S (inW ad 59) s.heap H locs) {k : Nat} (hk : isX3 k) {a1 : Int32} {rv : Int32 × Hp} (hf : f_X3_tell h k a1 = some rv) (hR : 1 + 1 ≤ R.frames ∧ 8 + (2 + 11) + 20 ≤ R.locals) (hsz : ls.size = nL) (hcat : (rest.map fun v => v.category).sum ≤ 8) (hdg : decode cc pc = .ok (.invokevirtual 70, 3)) (kk : ∀ (H1 : Heap) (locs1 : List Loc), wp D (cEC ids ad) ad 59 rv.2 H1 → va_S (inW ad 59) s.heap H1 locs1 → W p l e R s m args below meth c H1 locs1 0 0 Q (F0 m (pc + 3) ls (.int rv.1 :: rest))) : W p l e R s m args below meth c H locs 0 0 Q (F0 m pc ls (.int a1 :: .ref (ad k) :: rest)) :=
  u_callV (As := [.int a1]) (rv := (some (.int rv.1))) C (exC_ok hA) hX (c_X3_tell l D ids ad tt hA hk hf) q_408 q_409 q_410 q_91 q_411 ⟨rfl, rfl⟩ (by refine ⟨by decide +kernel, by decide +kernel, ?_⟩; show _ = some 1; decide +kernel) hR (lt_X3 hk) (cE_X3 hk _) rfl hP hS hsz hcat rfl hdg kk
abbrev rm_X4_sumOf : Room := { frames := 2, cells := 0, slots := 0, locals := 41 }
set_option maxRecDepth 100000 in
set_option maxHeartbeats 4000000 in
theorem w_X4_sumOf_14 {p : Program} {l : Launch} {e : Env} {s : State} {m : MethodId} {args : Array Value} {below : List Frame} {meth : Method} {c : Code} {D : va_G} {ids : Nat → ClassId} {ad tt : Nat → Nat} {rv : Int32 × Hp} (hA : adOk ad 59) (C : CX p s m args meth c cX4_sumOf 7 (some .int) RX4 D ids) (hX : (ExC tt ad) s s.heap) : ∀ (fu : Nat), ∀ (h : Hp) (x1 : Int32) (x2 : Int32) (x4 : Int32) (x5 : Int32) (H : Heap) (locs : List Loc) (ls : Array Slot), f_X4_sumOf_14 fu h x1 x2 x4 x5 = some rv → wp D (cEC ids ad) ad 59 h H → va_S (inW ad 59) s.heap H locs → lv_has ls 7 [(1, .int x1), (2, .int x2), (3, .ref (ad 49)), (4, .int x4), (5, .int x5)] → W p l e rm_X4_sumOf s m args below meth c H locs 0 0 (MQ below (QW D (cEC ids ad) ad 59 (some (.int rv.1)) rv.2) args s 0 0 (inW ad 59)) (F0 m 14 ls []) := by
  intro fu
  induction fu with
  | zero =>
    intro h x1 x2 x4 x5 H locs ls hf hP hS hl
    cases hf
  | succ fu ih =>
    intro h x1 x2 x4 x5 H locs ls hf hP hS hl
    rw [f_X4_sumOf_14_s] at hf
    refine lv_iload C.1 C.2.1 dX4_sumOf_14 (lv_at hl 4 rfl) ?_
    refine lv_iload C.1 C.2.1 dX4_sumOf_16 (lv_at hl 3 rfl) ?_
    refine lv_icmp_ge (tgt := 42) C.1 C.2.1 dX4_sumOf_18 (by decide) (fun hc => ?_) (fun hc => ?_)
    · have hf := g_t hc hf
      refine lv_iload_n C.1 C.2.1 dX4_sumOf_42 rfl (lv_at hl 1 rfl) ?_
      obtain rfl := Option.some.inj hf
      exact u_iret C hP hS dX4_sumOf_43
    · have hf := g_f hc hf
      refine lv_aload_n C.1 C.2.1 dX4_sumOf_21 rfl (lv_at hl 2 rfl) ?_
      refine lv_iload C.1 C.2.1 dX4_sumOf_22 (lv_at hl 4 rfl) ?_
      obtain ⟨hg1, hf⟩ := g_if hf
      refine rl_aFe C hP hg1 dX4_sumOf_24 ?_
      refine lv_astore (lv' := [(6, .ref (ad (50 + 3 * x5.toNatClampNeg))), (1, .int x1), (2, .int x2), (3, .ref (ad 49)), (4, .int x4), (5, .int x5)]) C.1 C.2.1 dX4_sumOf_25 hl (by decide) rfl (fun ls hl => ?_)
      refine lv_iload_n C.1 C.2.1 dX4_sumOf_27 rfl (lv_at hl 2 rfl) ?_
      refine lv_aload C.1 C.2.1 dX4_sumOf_28 (lv_at hl 0 rfl) ?_
      refine lv_iload_n C.1 C.2.1 dX4_sumOf_30 rfl (lv_at hl 1 rfl) ?_
      obtain ⟨q2, eq2, hf⟩ := g_b hf
      refine cv_X4_70 hA C hX hP hS (fe_el hg1) eq2 ⟨Nat.le_of_ble_eq_true rfl, Nat.le_of_ble_eq_true rfl⟩ hl.1 (Nat.le_of_ble_eq_true rfl) dX4_sumOf_31 (fun H locs hP hS => ?_)
      refine lv_iadd C.1 C.2.1 dX4_sumOf_34 ?_
      refine lv_istore_n (lv' := [(2, .int (x2 + q2.1)), (6, .ref (ad (50 + 3 * x5.toNatClampNeg))), (1, .int x1), (3, .ref (ad 49)), (4, .int x4), (5, .int x5)]) C.1 C.2.1 dX4_sumOf_35 rfl hl (by decide) rfl (fun ls hl => ?_)
      refine lv_iinc (v := (x5 + 1)) (lv' := [(5, .int (x5 + 1)), (2, .int (x2 + q2.1)), (6, .ref (ad (50 + 3 * x5.toNatClampNeg))), (1, .int x1), (3, .ref (ad 49)), (4, .int x4)]) C.1 C.2.1 dX4_sumOf_36 hl (k := 5) rfl (by rfl) (by decide) rfl (fun ls hl => ?_)
      refine lv_goto (tgt := 14) C.1 C.2.1 dX4_sumOf_39 (by decide) ?_
      exact ih _ _ _ _ _ _ _ _ hf hP hS (lv_sub hl [3, 1, 4, 5, 0] rfl)
set_option maxRecDepth 100000 in
set_option maxHeartbeats 4000000 in
theorem w_X4_sumOf {p : Program} {l : Launch} {e : Env} {s : State} {m : MethodId} {args : Array Value} {below : List Frame} {meth : Method} {c : Code} {D : va_G} {ids : Nat → ClassId} {ad tt : Nat → Nat} {rv : Int32 × Hp} (hA : adOk ad 59) (C : CX p s m args meth c cX4_sumOf 7 (some .int) RX4 D ids) (hX : (ExC tt ad) s s.heap) : ∀ (h : Hp) (a1 : Int32) (H : Heap) (locs : List Loc) (ls : Array Slot), f_X4_sumOf h a1 = some rv → wp D (cEC ids ad) ad 59 h H → va_S (inW ad 59) s.heap H locs → lv_has ls 7 [(0, .ref (ad 48)), (1, .int a1)] → W p l e rm_X4_sumOf s m args below meth c H locs 0 0 (MQ below (QW D (cEC ids ad) ad 59 (some (.int rv.1)) rv.2) args s 0 0 (inW ad 59)) (F0 m 0 ls []) := by
  intro h a1 H locs ls hf hP hS hl
  unfold f_X4_sumOf at hf
  refine lv_iconst (v := (0 : Int32)) C.1 C.2.1 dX4_sumOf_0 (by decide) ?_
  refine lv_istore_n (lv' := [(2, .int (0 : Int32)), (0, .ref (ad 48)), (1, .int a1)]) C.1 C.2.1 dX4_sumOf_1 rfl hl (by decide) rfl (fun ls hl => ?_)
  refine lv_aload_n C.1 C.2.1 dX4_sumOf_2 rfl (lv_at hl 1 rfl) ?_
  refine gf_X4_12 C hP dX4_sumOf_3 ?_
  refine lv_astore_n (lv' := [(3, .ref (ad 49)), (2, .int (0 : Int32)), (0, .ref (ad 48)), (1, .int a1)]) C.1 C.2.1 dX4_sumOf_6 rfl hl (by decide) rfl (fun ls hl => ?_)
  refine lv_aload_n C.1 C.2.1 dX4_sumOf_7 rfl (lv_at hl 0 rfl) ?_
  refine ln_aFe C hP dX4_sumOf_8 ?_
  refine lv_istore (lv' := [(4, .int (3 : Int32)), (3, .ref (ad 49)), (2, .int (0 : Int32)), (0, .ref (ad 48)), (1, .int a1)]) C.1 C.2.1 dX4_sumOf_9 hl (by decide) rfl (fun ls hl => ?_)
  refine lv_iconst (v := (0 : Int32)) C.1 C.2.1 dX4_sumOf_11 (by decide) ?_
  refine lv_istore (lv' := [(5, .int (0 : Int32)), (4, .int (3 : Int32)), (3, .ref (ad 49)), (2, .int (0 : Int32)), (0, .ref (ad 48)), (1, .int a1)]) C.1 C.2.1 dX4_sumOf_12 hl (by decide) rfl (fun ls hl => ?_)
  exact w_X4_sumOf_14 hA C hX _ _ _ _ _ _ _ _ _ hf hP hS (lv_sub hl [5, 3, 2, 1, 0] rfl)
theorem c_X4_sumOf (l : Launch) (D : va_G) (ids : Nat → ClassId) (ad tt : Nat → Nat) (hA : adOk ad 59) {a1 : Int32} {h : Hp} {rv : Int32 × Hp} (hf : f_X4_sumOf h a1 = some rv) : Met l yX4_sumOf (ws_ yX4_sumOf cX4_sumOf 7 (some .int)) rm_X4_sumOf (va_Pc [.ref (ad 48), .int a1] (WB D ids (cEC ids ad) ad 59 (ExC tt ad) h)) (QW D (cEC ids ad) ad 59 (some (.int rv.1)) rv.2) 0 0 (inW ad 59) :=
  u_met (own := RX4) (by decide) rfl (Nat.le_of_ble_eq_true rfl) rfl (fun p e s m args below meth c H ls C hX hP hS hl => w_X4_sumOf (tt := tt) hA C hX _ _ _ _ _ hf hP hS hl)
