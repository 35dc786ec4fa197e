theorem gf_X6_22 {p : Program} {l : Launch} {e : Env} {R : Room} {s : State} {m : MethodId} {args : Array Value} {below : List Frame} {meth : Method} {c : Code} {H : Heap} {locs : List Loc} {cells slots : Nat} {Q : State → Prop} {cc : ByteArray} {nL : Nat} {ret : Option FieldType} {pc : Nat} {ls : Array Slot} {rest : List Value} {D : va_G} {ids : Nat → ClassId} {ad : Nat → Nat} {h : Hp} (C : CX p s m args meth c cc nL ret RX6 D ids) {k : Nat} (hk : isX2 k) (hP : wp D (cEC ids ad) ad 59 h H) (hdg : decode cc pc = .ok (.getfield 22, 3)) (kk : W p l e R s m args below meth c H locs cells slots Q (F0 m (pc + 3) ls (.int (h k 3) :: rest))) : W p l e R s m args below meth c H locs cells slots Q (F0 m pc ls (.ref (ad k) :: rest)) :=
  u_get C hP (lt_X2 hk) (cE_X2 hk) rfl inX2 3 (by decide) rfl q_328 hdg kk
theorem pf_X6_19 {p : Program} {l : Launch} {e : Env} {R : Room} {s : State} {m : MethodId} {args : Array Value} {below : List Frame} {meth : Method} {c : Code} {H : Heap} {locs : List Loc} {cells slots : Nat} {Q : State → Prop} {cc : ByteArray} {nL : Nat} {ret : Option FieldType} {pc : Nat} {ls : Array Slot} {rest : List Value} {D : va_G} {ids : Nat → ClassId} {ad : Nat → Nat} {h : Hp} {x : Int32} (hA : adOk ad 59) (C : CX p s m args meth c cc nL ret RX6 D ids) {k : Nat} (hk : isX6 k) (hP : wp D (cEC ids ad) ad 59 h H) (hS : va_S (inW ad 59) s.heap H locs) (hdg : decode cc pc = .ok (.putfield 19, 3)) (kk : ∀ (H1 : Heap) (locs1 : List Loc), wp D (cEC ids ad) ad 59 (hs h k 2 x) H1 → va_S (inW ad 59) s.heap H1 locs1 → W p l e R s m args below meth c H1 locs1 cells slots Q (F0 m (pc + 3) ls rest)) : W p l e R s m args below meth c H locs cells slots Q (F0 m pc ls (.int x :: .ref (ad k) :: rest)) :=
  u_put hA C hP hS (lt_X6 hk) (cE_X6 hk) rfl inX6 tyX6 tyX6_ok nmX6 2 (by decide) rfl q_85 rfl (ty := .int) rfl rfl rfl hdg kk
theorem pf_X6_15 {p : Program} {l : Launch} {e : Env} {R : Room} {s : State} {m : MethodId} {args : Array Value} {below : List Frame} {meth : Method} {c : Code} {H : Heap} {locs : List Loc} {cells slots : Nat} {Q : State → Prop} {cc : ByteArray} {nL : Nat} {ret : Option FieldType} {pc : Nat} {ls : Array Slot} {rest : List Value} {D : va_G} {ids : Nat → ClassId} {ad : Nat → Nat} {h : Hp} {x : Int32} (hA : adOk ad 59) (C : CX p s m args meth c cc nL ret RX6 D ids) {k : Nat} (hk : isX6 k) (hP : wp D (cEC ids ad) ad 59 h H) (hS : va_S (inW ad 59) s.heap H locs) (hdg : decode cc pc = .ok (.putfield 15, 3)) (kk : ∀ (H1 : Heap) (locs1 : List Loc), wp D (cEC ids ad) ad 59 (hs h k 1 x) H1 → va_S (inW ad 59) s.heap H1 locs1 → W p l e R s m args below meth c H1 locs1 cells slots Q (F0 m (pc + 3) ls rest)) : W p l e R s m args below meth c H locs cells slots Q (F0 m pc ls (.int x :: .ref (ad k) :: rest)) :=
  u_put hA C hP hS (lt_X6 hk) (cE_X6 hk) rfl inX6 tyX6 tyX6_ok nmX6 1 (by decide) rfl q_84 rfl (ty := .int) rfl rfl rfl hdg kk
theorem gf_X6_25 {p : Program} {l : Launch} {e : Env} {R : Room} {s : State} {m : MethodId} {args : Array Value} {below : List Frame} {meth : Method} {c : Code} {H : Heap} {locs : List Loc} {cells slots : Nat} {Q : State → Prop} {cc : ByteArray} {nL : Nat} {ret : Option FieldType} {pc : Nat} {ls : Array Slot} {rest : List Value} {D : va_G} {ids : Nat → ClassId} {ad : Nat → Nat} {h : Hp} (C : CX p s m args meth c cc nL ret RX6 D ids) {k : Nat} (hk : isX2 k) (hP : wp D (cEC ids ad) ad 59 h H) (hdg : decode cc pc = .ok (.getfield 25, 3)) (kk : W p l e R s m args below meth c H locs cells slots Q (F0 m (pc + 3) ls (.int (h k 2) :: rest))) : W p l e R s m args below meth c H locs cells slots Q (F0 m pc ls (.ref (ad k) :: rest)) :=
  u_get C hP (lt_X2 hk) (cE_X2 hk) rfl inX2 2 (by decide) rfl q_329 hdg kk
theorem gf_X6_28 {p : Program} {l : Launch} {e : Env} {R : Room} {s : State} {m : MethodId} {args : Array Value} {below : List Frame} {meth : Method} {c : Code} {H : Heap} {locs : List Loc} {cells slots : Nat} {Q : State → Prop} {cc : ByteArray} {nL : Nat} {ret : Option FieldType} {pc : Nat} {ls : Array Slot} {rest : List Value} {D : va_G} {ids : Nat → ClassId} {ad : Nat → Nat} {h : Hp} (C : CX p s m args meth c cc nL ret RX6 D ids) {k : Nat} (hk : isX2 k) (hP : wp D (cEC ids ad) ad 59 h H) (hdg : decode cc pc = .ok (.getfield 28, 3)) (kk : W p l e R s m args below meth c H locs cells slots Q (F0 m (pc + 3) ls (.int (h k 0) :: rest))) : W p l e R s m args below meth c H locs cells slots Q (F0 m pc ls (.ref (ad k) :: rest)) :=
  u_get C hP (lt_X2 hk) (cE_X2 hk) rfl inX2 0 (by decide) rfl q_330 hdg kk
theorem cv_X6_31 {p : Program} {l : Launch} {e : Env} {R : Room} {s : State} {m : MethodId} {args : Array Value} {below : List Frame} {meth : Method} {c : Code} {H : Heap} {locs : List Loc} {Q : State → Prop} {cc : ByteArray} {nL : Nat} {ret : Option FieldType} {pc : Nat} {ls : Array Slot} {rest : List Value} {D : va_G} {ids : Nat → ClassId} {ad tt : Nat → Nat} {h : Hp} (hA : adOk ad 59) (C : CX p s m args meth c cc nL ret RX6 D ids) (hX : (ExC tt ad) s s.heap) (hP : wp D (cEC ids ad) ad 59 h H) (hS : va_S (inW ad 59) s.heap H locs) {a1 : Int32} {a2 : Int32} {rv : Int32 × Hp} (hf : f_X7_levelAt h a1 a2 = some rv) (hR : 1 + 1 ≤ R.frames ∧ 8 + (2 + 11) + 21 ≤ R.locals) (hsz : ls.size = nL) (hcat : (rest.map fun v => v.category).sum ≤ 8) (hdg : decode cc pc = .ok (.invokestatic 31, 3)) (kk : ∀ (H1 : Heap) (locs1 : List Loc), wp D (cEC ids ad) ad 59 rv.2 H1 → va_S (inW ad 59) s.heap H1 locs1 → W p l e R s m args below meth c H1 locs1 0 0 Q (F0 m (pc + 3) ls (.int rv.1 :: rest))) : W p l e R s m args below meth c H locs 0 0 Q (F0 m pc ls (.int a2 :: .int a1 :: rest)) :=
  u_callN (As := [.int a1, .int a2]) (rv := (some (.int rv.1))) C (exC_ok hA) hX (exC_n3 hX) (c_X7_levelAt l D ids ad tt hA hf) q_332 q_2 q_333 ⟨rfl, rfl⟩ (by refine ⟨by decide +kernel, by decide +kernel, ?_⟩; show _ = some 2; decide +kernel) hR hP hS hsz hcat rfl hdg kk
theorem gf_X6_35 {p : Program} {l : Launch} {e : Env} {R : Room} {s : State} {m : MethodId} {args : Array Value} {below : List Frame} {meth : Method} {c : Code} {H : Heap} {locs : List Loc} {cells slots : Nat} {Q : State → Prop} {cc : ByteArray} {nL : Nat} {ret : Option FieldType} {pc : Nat} {ls : Array Slot} {rest : List Value} {D : va_G} {ids : Nat → ClassId} {ad : Nat → Nat} {h : Hp} (C : CX p s m args meth c cc nL ret RX6 D ids) {k : Nat} (hk : isX2 k) (hP : wp D (cEC ids ad) ad 59 h H) (hdg : decode cc pc = .ok (.getfield 35, 3)) (kk : W p l e R s m args below meth c H locs cells slots Q (F0 m (pc + 3) ls (.int (h k 1) :: rest))) : W p l e R s m args below meth c H locs cells slots Q (F0 m pc ls (.ref (ad k) :: rest)) :=
  u_get C hP (lt_X2 hk) (cE_X2 hk) rfl inX2 1 (by decide) rfl q_331 hdg kk
theorem gf_X6_15 {p : Program} {l : Launch} {e : Env} {R : Room} {s : State} {m : MethodId} {args : Array Value} {below : List Frame} {meth : Method} {c : Code} {H : Heap} {locs : List Loc} {cells slots : Nat} {Q : State → Prop} {cc : ByteArray} {nL : Nat} {ret : Option FieldType} {pc : Nat} {ls : Array Slot} {rest : List Value} {D : va_G} {ids : Nat → ClassId} {ad : Nat → Nat} {h : Hp} (C : CX p s m args meth c cc nL ret RX6 D ids) {k : Nat} (hk : isX6 k) (hP : wp D (cEC ids ad) ad 59 h H) (hdg : decode cc pc = .ok (.getfield 15, 3)) (kk : W p l e R s m args below meth c H locs cells slots Q (F0 m (pc + 3) ls (.int (h k 1) :: rest))) : W p l e R s m args below meth c H locs cells slots Q (F0 m pc ls (.ref (ad k) :: rest)) :=
  u_get C hP (lt_X6 hk) (cE_X6 hk) rfl inX6 1 (by decide) rfl q_84 hdg kk
theorem gf_X6_9 {p : Program} {l : Launch} {e : Env} {R : Room} {s : State} {m : MethodId} {args : Array Value} {below : List Frame} {meth : Method} {c : Code} {H : Heap} {locs : List Loc} {cells slots : Nat} {Q : State → Prop} {cc : ByteArray} {nL : Nat} {ret : Option FieldType} {pc : Nat} {ls : Array Slot} {rest : List Value} {D : va_G} {ids : Nat → ClassId} {ad : Nat → Nat} {h : Hp} (C : CX p s m args meth c cc nL ret RX6 D ids) {k : Nat} (hk : isX6 k) (hP : wp D (cEC ids ad) ad 59 h H) (hdg : decode cc pc = .ok (.getfield 9, 3)) (kk : W p l e R s m args below meth c H locs cells slots Q (F0 m (pc + 3) ls (.ref (ad (k + 1)) :: rest))) : W p l e R s m args below meth c H locs cells slots Q (F0 m pc ls (.ref (ad k) :: rest)) :=
  u_get C hP (lt_X6 hk) (cE_X6 hk) rfl inX6 0 (by decide) rfl q_83 hdg kk
theorem ln_aHr {p : Program} {l : Launch} {e : Env} {R : Room} {s : State} {m : MethodId} {args : Array Value} {below : List Frame} {meth : Method} {c : Code} {H : Heap} {locs : List Loc} {cells slots : Nat} {Q : State → Prop} {cc : ByteArray} {nL : Nat} {ret : Option FieldType} {own : String} {pc : Nat} {ls : Array Slot} {rest : List Value} {D : va_G} {ids : Nat → ClassId} {ad : Nat → Nat} {h : Hp} (C : CX p s m args meth c cc nL ret own D ids) {k : Nat} (hk : isaHr k) (hP : wp D (cEC ids ad) ad 59 h H) (hdg : decode cc pc = .ok (.arraylength, 1)) (kk : W p l e R s m args below meth c H locs cells slots Q (F0 m (pc + 1) ls (.int (8 : Int32) :: rest))) : W p l e R s m args below meth c H locs cells slots Q (F0 m pc ls (.ref (ad k) :: rest)) :=
  u_alen C hP 1 rfl (lt_aHr hk) ((cE_aHr hk) _) rfl hdg kk
theorem as_aHr {p : Program} {l : Launch} {e : Env} {R : Room} {s : State} {m : MethodId} {args : Array Value} {below : List Frame} {meth : Method} {c : Code} {H : Heap} {locs : List Loc} {cells slots : Nat} {Q : State → Prop} {cc : ByteArray} {nL : Nat} {ret : Option FieldType} {own : String} {pc : Nat} {ls : Array Slot} {rest : List Value} {D : va_G} {ids : Nat → ClassId} {ad : Nat → Nat} {h : Hp} {i x : Int32} (hA : adOk ad 59) (C : CX p s m args meth c cc nL ret own D ids) {k : Nat} (hk : isaHr k) (hP : wp D (cEC ids ad) ad 59 h H) (hS : va_S (inW ad 59) s.heap H locs) (hg : inb i 8 = true) (hdg : decode cc pc = .ok (.iastore, 1)) (kk : ∀ (H1 : Heap) (locs1 : List Loc), wp D (cEC ids ad) ad 59 (hs h k i.toNatClampNeg x) H1 → va_S (inW ad 59) s.heap H1 locs1 → W p l e R s m args below meth c H1 locs1 cells slots Q (F0 m (pc + 1) ls rest)) : W p l e R s m args below meth c H locs cells slots Q (F0 m pc ls (.int x :: .int i :: .ref (ad k) :: rest)) :=
  u_iast hA C hP hS (lt_aHr hk) (cE_aHr hk) hg hdg kk
abbrev rm_X6_print : Room := { frames := 2, cells := 0, slots := 0, locals := 42 }
set_option maxRecDepth 100000 in
set_option maxHeartbeats 4000000 in
theorem w_X6_print_97 {p : Program} {l : Launch} {e : Env} {s : State} {m : MethodId} {args : Array Value} {below : List Frame} {meth : Method} {c : Code} {D : va_G} {ids : Nat → ClassId} {ad tt : Nat → Nat} {rv : Hp} (hA : adOk ad 59) (C : CX p s m args meth c cX6_print 5 none RX6 D ids) (hX : (ExC tt ad) s s.heap) {k : Nat} (hk : isX6 k) {k1 : Nat} (hk1 : isX2 k1) {K23 : Hp → Int32 → Int32 → Option (Hp)} (hK23 : ∀ (h : Hp) (x2 : Int32) (x3 : Int32) (H : Heap) (locs : List Loc) (ls : Array Slot), K23 h x2 x3 = some rv → wp D (cEC ids ad) ad 59 h H → va_S (inW ad 59) s.heap H locs → lv_has ls 5 [(0, .ref (ad k)), (1, .ref (ad k1)), (2, .int x2), (3, .int x3)] → W p l e rm_X6_print s m args below meth c H locs 0 0 (MQ below (QW D (cEC ids ad) ad 59 none rv) args s 0 0 (inW ad 59)) (F0 m 23 ls [])) : ∀ (h : Hp) (x2 : Int32) (x3 : Int32) (H : Heap) (locs : List Loc) (ls : Array Slot), f_X6_print_97 k k1 K23 h x2 x3 = some rv → wp D (cEC ids ad) ad 59 h H → va_S (inW ad 59) s.heap H locs → lv_has ls 5 [(0, .ref (ad k)), (1, .ref (ad k1)), (2, .int x2), (3, .int x3)] → W p l e rm_X6_print s m args below meth c H locs 0 0 (MQ below (QW D (cEC ids ad) ad 59 none rv) args s 0 0 (inW ad 59)) (F0 m 97 ls []) := by
  intro h x2 x3 H locs ls hf hP hS hl
  unfold f_X6_print_97 at hf
  refine lv_iinc (v := (x3 + 1)) (lv' := [(3, .int (x3 + 1)), (0, .ref (ad k)), (1, .ref (ad k1)), (2, .int x2)]) C.1 C.2.1 dX6_print_97 hl (k := 3) rfl (by rfl) (by decide) rfl (fun ls hl => ?_)
  refine lv_goto (tgt := 23) C.1 C.2.1 dX6_print_100 (by decide) ?_
  exact hK23 _ _ _ _ _ _ hf hP hS (lv_sub hl [1, 2, 3, 0] rfl)
set_option maxRecDepth 100000 in
set_option maxHeartbeats 4000000 in
theorem w_X6_print_93 {p : Program} {l : Launch} {e : Env} {s : State} {m : MethodId} {args : Array Value} {below : List Frame} {meth : Method} {c : Code} {D : va_G} {ids : Nat → ClassId} {ad tt : Nat → Nat} {rv : Hp} (hA : adOk ad 59) (C : CX p s m args meth c cX6_print 5 none RX6 D ids) (hX : (ExC tt ad) s s.heap) {k : Nat} (hk : isX6 k) {k1 : Nat} (hk1 : isX2 k1) {K23 : Hp → Int32 → Int32 → Option (Hp)} (hK23 : ∀ (h : Hp) (x2 : Int32) (x3 : Int32) (H : Heap) (locs : List Loc) (ls : Array Slot), K23 h x2 x3 = some rv → wp D (cEC ids ad) ad 59 h H → va_S (inW ad 59) s.heap H locs → lv_has ls 5 [(0, .ref (ad k)), (1, .ref (ad k1)), (2, .int x2), (3, .int x3)] → W p l e rm_X6_print s m args below meth c H locs 0 0 (MQ below (QW D (cEC ids ad) ad 59 none rv) args s 0 0 (inW ad 59)) (F0 m 23 ls [])) : ∀ (h : Hp) (x3 : Int32) (H : Heap) (locs : List Loc) (ls : Array Slot), f_X6_print_93 k k1 K23 h x3 = some rv → wp D (cEC ids ad) ad 59 h H → va_S (inW ad 59) s.heap H locs → lv_has ls 5 [(0, .ref (ad k)), (1, .ref (ad k1)), (3, .int x3)] → W p l e rm_X6_print s m args below meth c H locs 0 0 (MQ below (QW D (cEC ids ad) ad 59 none rv) args s 0 0 (inW ad 59)) (F0 m 93 ls []) := by
  intro h x3 H locs ls hf hP hS hl
  unfold f_X6_print_93 at hf
  refine lv_iload_n C.1 C.2.1 dX6_print_93 rfl (lv_at hl 2 rfl) ?_
  refine lv_iconst (v := (3 : Int32)) C.1 C.2.1 dX6_print_94 (by decide) ?_
  refine lv_iadd C.1 C.2.1 dX6_print_95 ?_
  refine lv_istore_n (lv' := [(2, .int (x3 + (3 : Int32))), (0, .ref (ad k)), (1, .ref (ad k1)), (3, .int x3)]) C.1 C.2.1 dX6_print_96 rfl hl (by decide) rfl (fun ls hl => ?_)
  exact w_X6_print_97 hA C hX hk hk1 hK23 _ _ _ _ _ _ hf hP hS (lv_sub hl [1, 2, 0, 3] rfl)
set_option maxRecDepth 100000 in
set_option maxHeartbeats 4000000 in
theorem w_X6_print_54 {p : Program} {l : Launch} {e : Env} {s : State} {m : MethodId} {args : Array Value} {below : List Frame} {meth : Method} {c : Code} {D : va_G} {ids : Nat → ClassId} {ad tt : Nat → Nat} {rv : Hp} (hA : adOk ad 59) (C : CX p s m args meth c cX6_print 5 none RX6 D ids) (hX : (ExC tt ad) s s.heap) {k : Nat} (hk : isX6 k) {k1 : Nat} (hk1 : isX2 k1) {K23 : Hp → Int32 → Int32 → Option (Hp)} (hK23 : ∀ (h : Hp) (x2 : Int32) (x3 : Int32) (H : Heap) (locs : List Loc) (ls : Array Slot), K23 h x2 x3 = some rv → wp D (cEC ids ad) ad 59 h H → va_S (inW ad 59) s.heap H locs → lv_has ls 5 [(0, .ref (ad k)), (1, .ref (ad k1)), (2, .int x2), (3, .int x3)] → W p l e rm_X6_print s m args below meth c H locs 0 0 (MQ below (QW D (cEC ids ad) ad 59 none rv) args s 0 0 (inW ad 59)) (F0 m 23 ls [])) : ∀ (h : Hp) (x2 : Int32) (x3 : Int32) (t0 : Int32) (H : Heap) (locs : List Loc) (ls : Array Slot), f_X6_print_54 k k1 K23 h x2 x3 t0 = some rv → wp D (cEC ids ad) ad 59 h H → va_S (inW ad 59) s.heap H locs → lv_has ls 5 [(0, .ref (ad k)), (1, .ref (ad k1)), (2, .int x2), (3, .int x3)] → W p l e rm_X6_print s m args below meth c H locs 0 0 (MQ below (QW D (cEC ids ad) ad 59 none rv) args s 0 0 (inW ad 59)) (F0 m 54 ls [.int t0]) := by
  intro h x2 x3 t0 H locs ls hf hP hS hl
  unfold f_X6_print_54 at hf
  refine lv_istore (lv' := [(4, .int t0), (0, .ref (ad k)), (1, .ref (ad k1)), (2, .int x2), (3, .int x3)]) C.1 C.2.1 dX6_print_54 hl (by decide) rfl (fun ls hl => ?_)
  refine lv_iload C.1 C.2.1 dX6_print_56 (lv_at hl 0 rfl) ?_
  refine lv_if_eq (tgt := 97) C.1 C.2.1 dX6_print_58 (by decide) (fun hc => ?_) (fun hc => ?_)
  · have hf := g_t hc hf
    exact w_X6_print_97 hA C hX hk hk1 hK23 _ _ _ _ _ _ hf hP hS (lv_sub hl [1, 2, 3, 4] rfl)
  · have hf := g_f hc hf
    refine lv_aload_n C.1 C.2.1 dX6_print_61 rfl (lv_at hl 1 rfl) ?_
    refine gf_X6_15 C hk hP dX6_print_62 ?_
    refine lv_aload_n C.1 C.2.1 dX6_print_65 rfl (lv_at hl 1 rfl) ?_
    refine gf_X6_9 C hk hP dX6_print_66 ?_
    refine ln_aHr C (hr_of hk) hP dX6_print_69 ?_
    refine lv_icmp_ge (tgt := 97) C.1 C.2.1 dX6_print_70 (by decide) (fun hc => ?_) (fun hc => ?_)
    · have hf := g_t hc hf
      exact w_X6_print_97 hA C hX hk hk1 hK23 _ _ _ _ _ _ hf hP hS (lv_sub hl [1, 2, 3, 4] rfl)
    · have hf := g_f hc hf
      refine lv_aload_n C.1 C.2.1 dX6_print_73 rfl (lv_at hl 1 rfl) ?_
      refine gf_X6_9 C hk hP dX6_print_74 ?_
      refine lv_aload_n C.1 C.2.1 dX6_print_77 rfl (lv_at hl 1 rfl) ?_
      refine gf_X6_15 C hk hP dX6_print_78 ?_
      refine lv_iload_n C.1 C.2.1 dX6_print_81 rfl (lv_at hl 4 rfl) ?_
      obtain ⟨hg, hf⟩ := g_if hf
      refine as_aHr hA C (hr_of hk) hP hS hg dX6_print_82 (fun H locs hP hS => ?_)
      refine lv_aload_n C.1 C.2.1 dX6_print_83 rfl (lv_at hl 1 rfl) ?_
      refine lv_dup C.1 C.2.1 dX6_print_84 rfl ?_
      refine gf_X6_15 C hk hP dX6_print_85 ?_
      refine lv_iconst (v := (1 : Int32)) C.1 C.2.1 dX6_print_88 (by decide) ?_
      refine lv_iadd C.1 C.2.1 dX6_print_89 ?_
      refine pf_X6_15 hA C hk hP hS dX6_print_90 (fun H locs hP hS => ?_)
      exact w_X6_print_93 hA C hX hk hk1 hK23 _ _ _ _ _ hf hP hS (lv_sub hl [1, 2, 4] rfl)
set_option maxRecDepth 100000 in
set_option maxHeartbeats 4000000 in
theorem w_X6_print_53 {p : Program} {l : Launch} {e : Env} {s : State} {m : MethodId} {args : Array Value} {below : List Frame} {meth : Method} {c : Code} {D : va_G} {ids : Nat → ClassId} {ad tt : Nat → Nat} {rv : Hp} (hA : adOk ad 59) (C : CX p s m args meth c cX6_print 5 none RX6 D ids) (hX : (ExC tt ad) s s.heap) {k : Nat} (hk : isX6 k) {k1 : Nat} (hk1 : isX2 k1) {K23 : Hp → Int32 → Int32 → Option (Hp)} (hK23 : ∀ (h : Hp) (x2 : Int32) (x3 : Int32) (H : Heap) (locs : List Loc) (ls : Array Slot), K23 h x2 x3 = some rv → wp D (cEC ids ad) ad 59 h H → va_S (inW ad 59) s.heap H locs → lv_has ls 5 [(0, .ref (ad k)), (1, .ref (ad k1)), (2, .int x2), (3, .int x3)] → W p l e rm_X6_print s m args below meth c H locs 0 0 (MQ below (QW D (cEC ids ad) ad 59 none rv) args s 0 0 (inW ad 59)) (F0 m 23 ls [])) : ∀ (h : Hp) (x2 : Int32) (x3 : Int32) (H : Heap) (locs : List Loc) (ls : Array Slot), f_X6_print_53 k k1 K23 h x2 x3 = some rv → wp D (cEC ids ad) ad 59 h H → va_S (inW ad 59) s.heap H locs → lv_has ls 5 [(0, .ref (ad k)), (1, .ref (ad k1)), (2, .int x2), (3, .int x3)] → W p l e rm_X6_print s m args below meth c H locs 0 0 (MQ below (QW D (cEC ids ad) ad 59 none rv) args s 0 0 (inW ad 59)) (F0 m 53 ls []) := by
  intro h x2 x3 H locs ls hf hP hS hl
  unfold f_X6_print_53 at hf
  refine lv_iconst (v := (0 : Int32)) C.1 C.2.1 dX6_print_53 (by decide) ?_
  exact w_X6_print_54 hA C hX hk hk1 hK23 _ _ _ _ _ _ _ hf hP hS (lv_sub hl [0, 1, 2, 3] rfl)
set_option maxRecDepth 100000 in
set_option maxHeartbeats 4000000 in
theorem w_X6_print_23 {p : Program} {l : Launch} {e : Env} {s : State} {m : MethodId} {args : Array Value} {below : List Frame} {meth : Method} {c : Code} {D : va_G} {ids : Nat → ClassId} {ad tt : Nat → Nat} {rv : Hp} (hA : adOk ad 59) (C : CX p s m args meth c cX6_print 5 none RX6 D ids) (hX : (ExC tt ad) s s.heap) {k : Nat} (hk : isX6 k) {k1 : Nat} (hk1 : isX2 k1) : ∀ (fu : Nat), ∀ (h : Hp) (x2 : Int32) (x3 : Int32) (H : Heap) (locs : List Loc) (ls : Array Slot), f_X6_print_23 k k1 fu h x2 x3 = some rv → wp D (cEC ids ad) ad 59 h H → va_S (inW ad 59) s.heap H locs → lv_has ls 5 [(0, .ref (ad k)), (1, .ref (ad k1)), (2, .int x2), (3, .int x3)] → W p l e rm_X6_print s m args below meth c H locs 0 0 (MQ below (QW D (cEC ids ad) ad 59 none rv) args s 0 0 (inW ad 59)) (F0 m 23 ls []) := by
  intro fu
  induction fu with
  | zero =>
    intro h x2 x3 H locs ls hf hP hS hl
    cases hf
  | succ fu ih =>
    intro h x2 x3 H locs ls hf hP hS hl
    rw [f_X6_print_23_s] at hf
    refine lv_iload_n C.1 C.2.1 dX6_print_23 rfl (lv_at hl 3 rfl) ?_
    refine lv_bipush (v := (21 : Int32)) C.1 C.2.1 dX6_print_24 (by decide) ?_
    refine lv_icmp_gt (tgt := 103) C.1 C.2.1 dX6_print_26 (by decide) (fun hc => ?_) (fun hc => ?_)
    · have hf := g_t hc hf
      obtain rfl := Option.some.inj hf
      exact u_vret C hP hS dX6_print_103
    · have hf := g_f hc hf
      refine lv_iload_n C.1 C.2.1 dX6_print_29 rfl (lv_at hl 3 rfl) ?_
      refine lv_iload_n C.1 C.2.1 dX6_print_30 rfl (lv_at hl 2 rfl) ?_
      refine lv_icmp_lt (tgt := 53) C.1 C.2.1 dX6_print_31 (by decide) (fun hc => ?_) (fun hc => ?_)
      · have hf := g_t hc hf
        exact w_X6_print_53 hA C hX hk hk1 ih _ _ _ _ _ _ hf hP hS (lv_sub hl [0, 1, 2, 3] rfl)
      · have hf := g_f hc hf
        refine lv_aload_n C.1 C.2.1 dX6_print_34 rfl (lv_at hl 1 rfl) ?_
        refine gf_X6_28 C hk1 hP dX6_print_35 ?_
        refine lv_iload_n C.1 C.2.1 dX6_print_38 rfl (lv_at hl 3 rfl) ?_
        obtain ⟨q1, eq1, hf⟩ := g_b hf
        refine cv_X6_31 hA C hX hP hS eq1 ⟨Nat.le_of_ble_eq_true rfl, Nat.le_of_ble_eq_true rfl⟩ hl.1 (Nat.le_of_ble_eq_true rfl) dX6_print_39 (fun H locs hP hS => ?_)
        refine lv_aload_n C.1 C.2.1 dX6_print_42 rfl (lv_at hl 1 rfl) ?_
        refine gf_X6_35 C hk1 hP dX6_print_43 ?_
        refine lv_icmp_lt (tgt := 53) C.1 C.2.1 dX6_print_46 (by decide) (fun hc => ?_) (fun hc => ?_)
        · have hf := g_t hc hf
          exact w_X6_print_53 hA C hX hk hk1 ih _ _ _ _ _ _ hf hP hS (lv_sub hl [0, 1, 2, 3] rfl)
        · have hf := g_f hc hf
          refine lv_iconst (v := (1 : Int32)) C.1 C.2.1 dX6_print_49 (by decide) ?_
          refine lv_goto (tgt := 54) C.1 C.2.1 dX6_print_50 (by decide) ?_
          exact w_X6_print_54 hA C hX hk hk1 ih _ _ _ _ _ _ _ hf hP hS (lv_sub hl [0, 1, 2, 3] rfl)
set_option maxRecDepth 100000 in
set_option maxHeartbeats 4000000 in
theorem w_X6_print_13 {p : Program} {l : Launch} {e : Env} {s : State} {m : MethodId} {args : Array Value} {below : List Frame} {meth : Method} {c : Code} {D : va_G} {ids : Nat → ClassId} {ad tt : Nat → Nat} {rv : Hp} (hA : adOk ad 59) (C : CX p s m args meth c cX6_print 5 none RX6 D ids) (hX : (ExC tt ad) s s.heap) {k : Nat} (hk : isX6 k) {k1 : Nat} (hk1 : isX2 k1) : ∀ (h : Hp) (H : Heap) (locs : List Loc) (ls : Array Slot), f_X6_print_13 k k1 h = some rv → wp D (cEC ids ad) ad 59 h H → va_S (inW ad 59) s.heap H locs → lv_has ls 5 [(0, .ref (ad k)), (1, .ref (ad k1))] → W p l e rm_X6_print s m args below meth c H locs 0 0 (MQ below (QW D (cEC ids ad) ad 59 none rv) args s 0 0 (inW ad 59)) (F0 m 13 ls []) := by
  intro h H locs ls hf hP hS hl
  unfold f_X6_print_13 at hf
  refine lv_aload_n C.1 C.2.1 dX6_print_13 rfl (lv_at hl 1 rfl) ?_
  refine gf_X6_25 C hk1 hP dX6_print_14 ?_
  refine lv_istore_n (lv' := [(2, .int (h k1 2)), (0, .ref (ad k)), (1, .ref (ad k1))]) C.1 C.2.1 dX6_print_17 rfl hl (by decide) rfl (fun ls hl => ?_)
  refine lv_aload_n C.1 C.2.1 dX6_print_18 rfl (lv_at hl 2 rfl) ?_
  refine gf_X6_25 C hk1 hP dX6_print_19 ?_
  refine lv_istore_n (lv' := [(3, .int (h k1 2)), (2, .int (h k1 2)), (0, .ref (ad k)), (1, .ref (ad k1))]) C.1 C.2.1 dX6_print_22 rfl hl (by decide) rfl (fun ls hl => ?_)
  exact w_X6_print_23 hA C hX hk hk1 _ _ _ _ _ _ _ hf hP hS (lv_sub hl [2, 3, 1, 0] rfl)
set_option maxRecDepth 100000 in
set_option maxHeartbeats 4000000 in
theorem w_X6_print {p : Program} {l : Launch} {e : Env} {s : State} {m : MethodId} {args : Array Value} {below : List Frame} {meth : Method} {c : Code} {D : va_G} {ids : Nat → ClassId} {ad tt : Nat → Nat} {rv : Hp} (hA : adOk ad 59) (C : CX p s m args meth c cX6_print 5 none RX6 D ids) (hX : (ExC tt ad) s s.heap) {k : Nat} (hk : isX6 k) {k1 : Nat} (hk1 : isX2 k1) : ∀ (h : Hp) (H : Heap) (locs : List Loc) (ls : Array Slot), f_X6_print h k k1 = some rv → wp D (cEC ids ad) ad 59 h H → va_S (inW ad 59) s.heap H locs → lv_has ls 5 [(0, .ref (ad k)), (1, .ref (ad k1))] → W p l e rm_X6_print s m args below meth c H locs 0 0 (MQ below (QW D (cEC ids ad) ad 59 none rv) args s 0 0 (inW ad 59)) (F0 m 0 ls []) := by
  intro h H locs ls hf hP hS hl
  unfold f_X6_print at hf
  refine lv_aload_n C.1 C.2.1 dX6_print_0 rfl (lv_at hl 0 rfl) ?_
  refine lv_aload_n C.1 C.2.1 dX6_print_1 rfl (lv_at hl 1 rfl) ?_
  refine gf_X6_22 C hk1 hP dX6_print_2 ?_
  refine pf_X6_19 hA C hk hP hS dX6_print_5 (fun H locs hP hS => ?_)
  refine lv_aload_n C.1 C.2.1 dX6_print_8 rfl (lv_at hl 0 rfl) ?_
  refine lv_iconst (v := (0 : Int32)) C.1 C.2.1 dX6_print_9 (by decide) ?_
  refine pf_X6_15 hA C hk hP hS dX6_print_10 (fun H locs hP hS => ?_)
  exact w_X6_print_13 hA C hX hk hk1 _ _ _ _ hf hP hS (lv_sub hl [0, 1] rfl)
theorem c_X6_print (l : Launch) (D : va_G) (ids : Nat → ClassId) (ad tt : Nat → Nat) (hA : adOk ad 59) {k : Nat} (hk : isX6 k) {k1 : Nat} (hk1 : isX2 k1) {h : Hp} {rv : Hp} (hf : f_X6_print h k k1 = some rv) : Met l yX6_print (ws_ yX6_print cX6_print 5 none) rm_X6_print (va_Pc [.ref (ad k), .ref (ad k1)] (WB D ids (cEC ids ad) ad 59 (ExC tt ad) h)) (QW D (cEC ids ad) ad 59 none rv) 0 0 (inW ad 59) :=
  u_met (own := RX6) (by decide) rfl (Nat.le_of_ble_eq_true rfl) rfl (fun p e s m args below meth c H ls C hX hP hS hl => w_X6_print (tt := tt) hA C hX hk hk1 _ _ _ _ hf hP hS hl)
theorem gf_X3_12 {p : Program} {l : Launch} {e : Env} {R : Room} {s : State} {m : MethodId} {args : Array Value} {below : List Frame} {meth : Method} {c : Code} {H : Heap} {locs : List Loc} {cells slots : Nat} {Q : State → Prop} {cc : ByteArray} {nL : Nat} {ret : Option FieldType} {pc : Nat} {ls : Array Slot} {rest : List Value} {D : va_G} {ids : Nat → ClassId} {ad : Nat → Nat} {h : Hp} (C : CX p s m args meth c cc nL ret RX3 D ids) {k : Nat} (hk : isX3 k) (hP : wp D (cEC ids ad) ad 59 h H) (hdg : decode cc pc = .ok (.getfield 12, 3)) (kk : W p l e R s m args below meth c H locs cells slots Q (F0 m (pc + 3) ls (.ref (ad (k + 1)) :: rest))) : W p l e R s m args below meth c H locs cells slots Q (F0 m pc ls (.ref (ad k) :: rest)) :=
  u_get C hP (lt_X3 hk) (cE_X3 hk) rfl inX3 0 (by decide) rfl q_99 hdg kk
theorem cv_X3_50 {p : Program} {l : Launch} {e : Env} {R : Room} {s : State} {m : MethodId} {args : Array Value} {below : List Frame} {meth : Method} {c : Code} {H : Heap} {locs : List Loc} {Q : State → Prop} {cc : ByteArray} {nL : Nat} {ret : Option FieldType} {pc : Nat} {ls : Array Slot} {rest : List Value} {D : va_G} {ids : Nat → ClassId} {ad tt : Nat → Nat} {h : Hp} (hA : adOk ad 59) (C : CX p s m args meth c cc nL ret RX3 D ids) (hX : (ExC tt ad) s s.heap) (hP : wp D (cEC ids ad) ad 59 h H) (hS : va_S (inW ad 59) s.heap H locs) {k : Nat} (hk : isX6 k) {k1 : Nat} (hk1 : isX2 k1) {rv : Hp} (hf : f_X6_print h k k1 = some rv) (hR : 2 + 1 ≤ R.frames ∧ 8 + (5 + 11) + 42 ≤ R.locals) (hsz : ls.size = nL) (hcat : (rest.map fun v => v.category).sum ≤ 8) (hdg : decode cc pc = .ok (.invokevirtual 50, 3)) (kk : ∀ (H1 : Heap) (locs1 : List Loc), wp D (cEC ids ad) ad 59 rv H1 → va_S (inW ad 59) s.heap H1 locs1 → W p l e R s m args below meth c H1 locs1 0 0 Q (F0 m (pc + 3) ls (rest))) : W p l e R s m args below meth c H locs 0 0 Q (F0 m pc ls (.ref (ad k1) :: .ref (ad k) :: rest)) :=
  u_callV (As := [.ref (ad k1)]) (rv := none) C (exC_ok hA) hX (c_X6_print l D ids ad tt hA hk hk1 hf) q_324 q_325 q_326 q_76 q_327 ⟨rfl, rfl⟩ (by refine ⟨by decide +kernel, by decide +kernel, ?_⟩; show _ = some 1; decide +kernel) hR (lt_X6 hk) (cE_X6 hk _) rfl hP hS hsz hcat rfl hdg kk
theorem gf_X3_54 {p : Program} {l : Launch} {e : Env} {R : Room} {s : State} {m : MethodId} {args : Array Value} {below : List Frame} {meth : Method} {c : Code} {H : Heap} {locs : List Loc} {cells slots : Nat} {Q : State → Prop} {cc : ByteArray} {nL : Nat} {ret : Option FieldType} {pc : Nat} {ls : Array Slot} {rest : List Value} {D : va_G} {ids : Nat → ClassId} {ad : Nat → Nat} {h : Hp} (C : CX p s m args meth c cc nL ret RX3 D ids) {k : Nat} (hk : isX2 k) (hP : wp D (cEC ids ad) ad 59 h H) (hdg : decode cc pc = .ok (.getfield 54, 3)) (kk : W p l e R s m args below meth c H locs cells slots Q (F0 m (pc + 3) ls (.int (h k 1) :: rest))) : W p l e R s m args below meth c H locs cells slots Q (F0 m pc ls (.ref (ad k) :: rest)) :=
  u_get C hP (lt_X2 hk) (cE_X2 hk) rfl inX2 1 (by decide) rfl q_322 hdg kk
theorem pf_X3_18 {p : Program} {l : Launch} {e : Env} {R : Room} {s : State} {m : MethodId} {args : Array Value} {below : List Frame} {meth : Method} {c : Code} {H : Heap} {locs : List Loc} {cells slots : Nat} {Q : State → Prop} {cc : ByteArray} {nL : Nat} {ret : Option FieldType} {pc : Nat} {ls : Array Slot} {rest : List Value} {D : va_G} {ids : Nat → ClassId} {ad : Nat → Nat} {h : Hp} {x : Int32} (hA : adOk ad 59) (C : CX p s m args meth c cc nL ret RX3 D ids) {k : Nat} (hk : isX3 k) (hP : wp D (cEC ids ad) ad 59 h H) (hS : va_S (inW ad 59) s.heap H locs) (hdg : decode cc pc = .ok (.putfield 18, 3)) (kk : ∀ (H1 : Heap) (locs1 : List Loc), wp D (cEC ids ad) ad 59 (hs h k 1 x) H1 → va_S (inW ad 59) s.heap H1 locs1 → W p l e R s m args below meth c H1 locs1 cells slots Q (F0 m (pc + 3) ls rest)) : W p l e R s m args below meth c H locs cells slots Q (F0 m pc ls (.int x :: .ref (ad k) :: rest)) :=
  u_put hA C hP hS (lt_X3 hk) (cE_X3 hk) rfl inX3 tyX3 tyX3_ok nmX3 1 (by decide) rfl q_100 rfl (ty := .int) rfl rfl rfl hdg kk
theorem gf_X3_57 {p : Program} {l : Launch} {e : Env} {R : Room} {s : State} {m : MethodId} {args : Array Value} {below : List Frame} {meth : Method} {c : Code} {H : Heap} {locs : List Loc} {cells slots : Nat} {Q : State → Prop} {cc : ByteArray} {nL : Nat} {ret : Option FieldType} {pc : Nat} {ls : Array Slot} {rest : List Value} {D : va_G} {ids : Nat → ClassId} {ad : Nat → Nat} {h : Hp} (C : CX p s m args meth c cc nL ret RX3 D ids) {k : Nat} (hk : isX2 k) (hP : wp D (cEC ids ad) ad 59 h H) (hdg : decode cc pc = .ok (.getfield 57, 3)) (kk : W p l e R s m args below meth c H locs cells slots Q (F0 m (pc + 3) ls (.int (h k 3) :: rest))) : W p l e R s m args below meth c H locs cells slots Q (F0 m pc ls (.ref (ad k) :: rest)) :=
  u_get C hP (lt_X2 hk) (cE_X2 hk) rfl inX2 3 (by decide) rfl q_323 hdg kk
theorem pf_X3_22 {p : Program} {l : Launch} {e : Env} {R : Room} {s : State} {m : MethodId} {args : Array Value} {below : List Frame} {meth : Method} {c : Code} {H : Heap} {locs : List Loc} {cells slots : Nat} {Q : State → Prop} {cc : ByteArray} {nL : Nat} {ret : Option FieldType} {pc : Nat} {ls : Array Slot} {rest : List Value} {D : va_G} {ids : Nat → ClassId} {ad : Nat → Nat} {h : Hp} {x : Int32} (hA : adOk ad 59) (C : CX p s m args meth c cc nL ret RX3 D ids) {k : Nat} (hk : isX3 k) (hP : wp D (cEC ids ad) ad 59 h H) (hS : va_S (inW ad 59) s.heap H locs) (hdg : decode cc pc = .ok (.putfield 22, 3)) (kk : ∀ (H1 : Heap) (locs1 : List Loc), wp D (cEC ids ad) ad 59 (hs h k 2 x) H1 → va_S (inW ad 59) s.heap H1 locs1 → W p l e R s m args below meth c H1 locs1 cells slots Q (F0 m (pc + 3) ls rest)) : W p l e R s m args below meth c H locs cells slots Q (F0 m pc ls (.int x :: .ref (ad k) :: rest)) :=
  u_put hA C hP hS (lt_X3 hk) (cE_X3 hk) rfl inX3 tyX3 tyX3_ok nmX3 2 (by decide) rfl q_101 rfl (ty := .int) rfl rfl rfl hdg kk
theorem pf_X3_25 {p : Program} {l : Launch} {e : Env} {R : Room} {s : State} {m : MethodId} {args : Array Value} {below : List Frame} {meth : Method} {c : Code} {H : Heap} {locs : List Loc} {cells slots : Nat} {Q : State → Prop} {cc : ByteArray} {nL : Nat} {ret : Option FieldType} {pc : Nat} {ls : Array Slot} {rest : List Value} {D : va_G} {ids : Nat → ClassId} {ad : Nat → Nat} {h : Hp} {x : Int32} (hA : adOk ad 59) (C : CX p s m args meth c cc nL ret RX3 D ids) {k : Nat} (hk : isX3 k) (hz : isb x = true) (hP : wp D (cEC ids ad) ad 59 h H) (hS : va_S (inW ad 59) s.heap H locs) (hdg : decode cc pc = .ok (.putfield 25, 3)) (kk : ∀ (H1 : Heap) (locs1 : List Loc), wp D (cEC ids ad) ad 59 (hs h k 3 x) H1 → va_S (inW ad 59) s.heap H1 locs1 → W p l e R s m args below meth c H1 locs1 cells slots Q (F0 m (pc + 3) ls rest)) : W p l e R s m args below meth c H locs cells slots Q (F0 m pc ls (.int x :: .ref (ad k) :: rest)) :=
  u_put hA C hP hS (lt_X3 hk) (cE_X3 hk) rfl inX3 tyX3 tyX3_ok nmX3 3 (by decide) rfl q_102 rfl (ty := .boolean) rfl (isb_n hz).1 (isb_n hz).2 hdg kk
theorem pf_X3_38 {p : Program} {l : Launch} {e : Env} {R : Room} {s : State} {m : MethodId} {args : Array Value} {below : List Frame} {meth : Method} {c : Code} {H : Heap} {locs : List Loc} {cells slots : Nat} {Q : State → Prop} {cc : ByteArray} {nL : Nat} {ret : Option FieldType} {pc : Nat} {ls : Array Slot} {rest : List Value} {D : va_G} {ids : Nat → ClassId} {ad : Nat → Nat} {h : Hp} {x : Int32} (hA : adOk ad 59) (C : CX p s m args meth c cc nL ret RX3 D ids) {k : Nat} (hk : isX3 k) (hP : wp D (cEC ids ad) ad 59 h H) (hS : va_S (inW ad 59) s.heap H locs) (hdg : decode cc pc = .ok (.putfield 38, 3)) (kk : ∀ (H1 : Heap) (locs1 : List Loc), wp D (cEC ids ad) ad 59 (hs h k 7 x) H1 → va_S (inW ad 59) s.heap H1 locs1 → W p l e R s m args below meth c H1 locs1 cells slots Q (F0 m (pc + 3) ls rest)) : W p l e R s m args below meth c H locs cells slots Q (F0 m pc ls (.int x :: .ref (ad k) :: rest)) :=
  u_put hA C hP hS (lt_X3 hk) (cE_X3 hk) rfl inX3 tyX3 tyX3_ok nmX3 7 (by decide) rfl q_106 rfl (ty := .int) rfl rfl rfl hdg kk
theorem pf_X3_41 {p : Program} {l : Launch} {e : Env} {R : Room} {s : State} {m : MethodId} {args : Array Value} {below : List Frame} {meth : Method} {c : Code} {H : Heap} {locs : List Loc} {cells slots : Nat} {Q : State → Prop} {cc : ByteArray} {nL : Nat} {ret : Option FieldType} {pc : Nat} {ls : Array Slot} {rest : List Value} {D : va_G} {ids : Nat → ClassId} {ad : Nat → Nat} {h : Hp} {x : Int32} (hA : adOk ad 59) (C : CX p s m args meth c cc nL ret RX3 D ids) {k : Nat} (hk : isX3 k) (hP : wp D (cEC ids ad) ad 59 h H) (hS : va_S (inW ad 59) s.heap H locs) (hdg : decode cc pc = .ok (.putfield 41, 3)) (kk : ∀ (H1 : Heap) (locs1 : List Loc), wp D (cEC ids ad) ad 59 (hs h k 8 x) H1 → va_S (inW ad 59) s.heap H1 locs1 → W p l e R s m args below meth c H1 locs1 cells slots Q (F0 m (pc + 3) ls rest)) : W p l e R s m args below meth c H locs cells slots Q (F0 m pc ls (.int x :: .ref (ad k) :: rest)) :=
  u_put hA C hP hS (lt_X3 hk) (cE_X3 hk) rfl inX3 tyX3 tyX3_ok nmX3 8 (by decide) rfl q_107 rfl (ty := .int) rfl rfl rfl hdg kk
theorem pf_X3_44 {p : Program} {l : Launch} {e : Env} {R : Room} {s : State} {m : MethodId} {args : Array Value} {below : List Frame} {meth : Method} {c : Code} {H : Heap} {locs : List Loc} {cells slots : Nat} {Q : State → Prop} {cc : ByteArray} {nL : Nat} {ret : Option FieldType} {pc : Nat} {ls : Array Slot} {rest : List Value} {D : va_G} {ids : Nat → ClassId} {ad : Nat → Nat} {h : Hp} {x : Int32} (hA : adOk ad 59) (C : CX p s m args meth c cc nL ret RX3 D ids) {k : Nat} (hk : isX3 k) (hP : wp D (cEC ids ad) ad 59 h H) (hS : va_S (inW ad 59) s.heap H locs) (hdg : decode cc pc = .ok (.putfield 44, 3)) (kk : ∀ (H1 : Heap) (locs1 : List Loc), wp D (cEC ids ad) ad 59 (hs h k 9 x) H1 → va_S (inW ad 59) s.heap H1 locs1 → W p l e R s m args below meth c H1 locs1 cells slots Q (F0 m (pc + 3) ls rest)) : W p l e R s m args below meth c H locs cells slots Q (F0 m pc ls (.int x :: .ref (ad k) :: rest)) :=
  u_put hA C hP hS (lt_X3 hk) (cE_X3 hk) rfl inX3 tyX3 tyX3_ok nmX3 9 (by decide) rfl q_108 rfl (ty := .int) rfl rfl rfl hdg kk
theorem pf_X3_47 {p : Program} {l : Launch} {e : Env} {R : Room} {s : State} {m : MethodId} {args : Array Value} {below : List Frame} {meth : Method} {c : Code} {H : Heap} {locs : List Loc} {cells slots : Nat} {Q : State → Prop} {cc : ByteArray} {nL : Nat} {ret : Option FieldType} {pc : Nat} {ls : Array Slot} {rest : List Value} {D : va_G} {ids : Nat → ClassId} {ad : Nat → Nat} {h : Hp} {x : Int32} (hA : adOk ad 59) (C : CX p s m args meth c cc nL ret RX3 D ids) {k : Nat} (hk : isX3 k) (hP : wp D (cEC ids ad) ad 59 h H) (hS : va_S (inW ad 59) s.heap H locs) (hdg : decode cc pc = .ok (.putfield 47, 3)) (kk : ∀ (H1 : Heap) (locs1 : List Loc), wp D (cEC ids ad) ad 59 (hs h k 10 x) H1 → va_S (inW ad 59) s.heap H1 locs1 → W p l e R s m args below meth c H1 locs1 cells slots Q (F0 m (pc + 3) ls rest)) : W p l e R s m args below meth c H locs cells slots Q (F0 m pc ls (.int x :: .ref (ad k) :: rest)) :=
  u_put hA C hP hS (lt_X3 hk) (cE_X3 hk) rfl inX3 tyX3 tyX3_ok nmX3 10 (by decide) rfl q_109 rfl (ty := .int) rfl rfl rfl hdg kk
abbrev rm_X3_beginDay : Room := { frames := 3, cells := 0, slots := 0, locals := 66 }
set_option maxRecDepth 100000 in
set_option maxHeartbeats 4000000 in
theorem w_X3_beginDay_44 {p : Program} {l : Launch} {e : Env} {s : State} {m : MethodId} {args : Array Value} {below : List Frame} {meth : Method} {c : Code} {D : va_G} {ids : Nat → ClassId} {ad tt : Nat → Nat} {rv : Hp} (hA : adOk ad 59) (C : CX p s m args meth c cX3_beginDay 2 none RX3 D ids) (hX : (ExC tt ad) s s.heap) {k : Nat} (hk : isX3 k) {k1 : Nat} (hk1 : isX2 k1) : ∀ (h : Hp) (H : Heap) (locs : List Loc) (ls : Array Slot), f_X3_beginDay_44 k k1 h = some rv → wp D (cEC ids ad) ad 59 h H → va_S (inW ad 59) s.heap H locs → lv_has ls 2 [(0, .ref (ad k))] → W p l e rm_X3_beginDay s m args below meth c H locs 0 0 (MQ below (QW D (cEC ids ad) ad 59 none rv) args s 0 0 (inW ad 59)) (F0 m 44 ls []) := by
  intro h H locs ls hf hP hS hl
  unfold f_X3_beginDay_44 at hf
  refine lv_aload_n C.1 C.2.1 dX3_beginDay_44 rfl (lv_at hl 0 rfl) ?_
  refine lv_iconst (v := (0 : Int32)) C.1 C.2.1 dX3_beginDay_45 (by decide) ?_
  refine pf_X3_47 hA C hk hP hS dX3_beginDay_46 (fun H locs hP hS => ?_)
  obtain rfl := Option.some.inj hf
  exact u_vret C hP hS dX3_beginDay_49
set_option maxRecDepth 100000 in
set_option maxHeartbeats 4000000 in
theorem w_X3_beginDay_34 {p : Program} {l : Launch} {e : Env} {s : State} {m : MethodId} {args : Array Value} {below : List Frame} {meth : Method} {c : Code} {D : va_G} {ids : Nat → ClassId} {ad tt : Nat → Nat} {rv : Hp} (hA : adOk ad 59) (C : CX p s m args meth c cX3_beginDay 2 none RX3 D ids) (hX : (ExC tt ad) s s.heap) {k : Nat} (hk : isX3 k) {k1 : Nat} (hk1 : isX2 k1) : ∀ (h : Hp) (H : Heap) (locs : List Loc) (ls : Array Slot), f_X3_beginDay_34 k k1 h = some rv → wp D (cEC ids ad) ad 59 h H → va_S (inW ad 59) s.heap H locs → lv_has ls 2 [(0, .ref (ad k))] → W p l e rm_X3_beginDay s m args below meth c H locs 0 0 (MQ below (QW D (cEC ids ad) ad 59 none rv) args s 0 0 (inW ad 59)) (F0 m 34 ls []) := by
  intro h H locs ls hf hP hS hl
  unfold f_X3_beginDay_34 at hf
  refine lv_aload_n C.1 C.2.1 dX3_beginDay_34 rfl (lv_at hl 0 rfl) ?_
  refine lv_iconst (v := (0 : Int32)) C.1 C.2.1 dX3_beginDay_35 (by decide) ?_
  refine pf_X3_41 hA C hk hP hS dX3_beginDay_36 (fun H locs hP hS => ?_)
  refine lv_aload_n C.1 C.2.1 dX3_beginDay_39 rfl (lv_at hl 0 rfl) ?_
  refine lv_iconst (v := (0 : Int32)) C.1 C.2.1 dX3_beginDay_40 (by decide) ?_
  refine pf_X3_44 hA C hk hP hS dX3_beginDay_41 (fun H locs hP hS => ?_)
  exact w_X3_beginDay_44 hA C hX hk hk1 _ _ _ _ hf hP hS (lv_sub hl [0] rfl)
set_option maxRecDepth 100000 in
set_option maxHeartbeats 4000000 in
theorem w_X3_beginDay_24 {p : Program} {l : Launch} {e : Env} {s : State} {m : MethodId} {args : Array Value} {below : List Frame} {meth : Method} {c : Code} {D : va_G} {ids : Nat → ClassId} {ad tt : Nat → Nat} {rv : Hp} (hA : adOk ad 59) (C : CX p s m args meth c cX3_beginDay 2 none RX3 D ids) (hX : (ExC tt ad) s s.heap) {k : Nat} (hk : isX3 k) {k1 : Nat} (hk1 : isX2 k1) : ∀ (h : Hp) (H : Heap) (locs : List Loc) (ls : Array Slot), f_X3_beginDay_24 k k1 h = some rv → wp D (cEC ids ad) ad 59 h H → va_S (inW ad 59) s.heap H locs → lv_has ls 2 [(0, .ref (ad k))] → W p l e rm_X3_beginDay s m args below meth c H locs 0 0 (MQ below (QW D (cEC ids ad) ad 59 none rv) args s 0 0 (inW ad 59)) (F0 m 24 ls []) := by
  intro h H locs ls hf hP hS hl
  unfold f_X3_beginDay_24 at hf
  refine lv_aload_n C.1 C.2.1 dX3_beginDay_24 rfl (lv_at hl 0 rfl) ?_
  refine lv_iconst (v := (0 : Int32)) C.1 C.2.1 dX3_beginDay_25 (by decide) ?_
  refine pf_X3_25 hA C hk isb_0 hP hS dX3_beginDay_26 (fun H locs hP hS => ?_)
  refine lv_aload_n C.1 C.2.1 dX3_beginDay_29 rfl (lv_at hl 0 rfl) ?_
  refine lv_iconst (v := (0 : Int32)) C.1 C.2.1 dX3_beginDay_30 (by decide) ?_
  refine pf_X3_38 hA C hk hP hS dX3_beginDay_31 (fun H locs hP hS => ?_)
  exact w_X3_beginDay_34 hA C hX hk hk1 _ _ _ _ hf hP hS (lv_sub hl [0] rfl)
set_option maxRecDepth 100000 in
set_option maxHeartbeats 4000000 in
theorem w_X3_beginDay {p : Program} {l : Launch} {e : Env} {s : State} {m : MethodId} {args : Array Value} {below : List Frame} {meth : Method} {c : Code} {D : va_G} {ids : Nat → ClassId} {ad tt : Nat → Nat} {rv : Hp} (hA : adOk ad 59) (C : CX p s m args meth c cX3_beginDay 2 none RX3 D ids) (hX : (ExC tt ad) s s.heap) {k : Nat} (hk : isX3 k) {k1 : Nat} (hk1 : isX2 k1) : ∀ (h : Hp) (H : Heap) (locs : List Loc) (ls : Array Slot), f_X3_beginDay h k k1 = some rv → wp D (cEC ids ad) ad 59 h H → va_S (inW ad 59) s.heap H locs → lv_has ls 2 [(0, .ref (ad k)), (1, .ref (ad k1))] → W p l e rm_X3_beginDay s m args below meth c H locs 0 0 (MQ below (QW D (cEC ids ad) ad 59 none rv) args s 0 0 (inW ad 59)) (F0 m 0 ls []) := by
  intro h H locs ls hf hP hS hl
  unfold f_X3_beginDay at hf
  refine lv_aload_n C.1 C.2.1 dX3_beginDay_0 rfl (lv_at hl 0 rfl) ?_
  refine gf_X3_12 C hk hP dX3_beginDay_1 ?_
  refine lv_aload_n C.1 C.2.1 dX3_beginDay_4 rfl (lv_at hl 1 rfl) ?_
  obtain ⟨q1, eq1, hf⟩ := g_b hf
  refine cv_X3_50 hA C hX hP hS (tt_of hk) hk1 eq1 ⟨Nat.le_of_ble_eq_true rfl, Nat.le_of_ble_eq_true rfl⟩ hl.1 (Nat.le_of_ble_eq_true rfl) dX3_beginDay_5 (fun H locs hP hS => ?_)
  refine lv_aload_n C.1 C.2.1 dX3_beginDay_8 rfl (lv_at hl 0 rfl) ?_
  refine lv_aload_n C.1 C.2.1 dX3_beginDay_9 rfl (lv_at hl 1 rfl) ?_
  refine gf_X3_54 C hk1 hP dX3_beginDay_10 ?_
  refine pf_X3_18 hA C hk hP hS dX3_beginDay_13 (fun H locs hP hS => ?_)
  refine lv_aload_n C.1 C.2.1 dX3_beginDay_16 rfl (lv_at hl 0 rfl) ?_
  refine lv_aload_n C.1 C.2.1 dX3_beginDay_17 rfl (lv_at hl 1 rfl) ?_
  refine gf_X3_57 C hk1 hP dX3_beginDay_18 ?_
  refine pf_X3_22 hA C hk hP hS dX3_beginDay_21 (fun H locs hP hS => ?_)
  exact w_X3_beginDay_24 hA C hX hk hk1 _ _ _ _ hf hP hS (lv_sub hl [0] rfl)
theorem c_X3_beginDay (l : Launch) (D : va_G) (ids : Nat → ClassId) (ad tt : Nat → Nat) (hA : adOk ad 59) {k : Nat} (hk : isX3 k) {k1 : Nat} (hk1 : isX2 k1) {h : Hp} {rv : Hp} (hf : f_X3_beginDay h k k1 = some rv) : Met l yX3_beginDay (ws_ yX3_beginDay cX3_beginDay 2 none) rm_X3_beginDay (va_Pc [.ref (ad k), .ref (ad k1)] (WB D ids (cEC ids ad) ad 59 (ExC tt ad) h)) (QW D (cEC ids ad) ad 59 none rv) 0 0 (inW ad 59) :=
  u_met (own := RX3) (by decide) rfl (Nat.le_of_ble_eq_true rfl) rfl (fun p e s m args below meth c H ls C hX hP hS hl => w_X3_beginDay (tt := tt) hA C hX hk hk1 _ _ _ _ hf hP hS hl)
abbrev rm_X6_has : Room := { frames := 0, cells := 0, slots := 0, locals := 0 }
set_option maxRecDepth 100000 in
set_option maxHeartbeats 4000000 in
theorem w_X6_has {p : Program} {l : Launch} {e : Env} {s : State} {m : MethodId} {args : Array Value} {below : List Frame} {meth : Method} {c : Code} {D : va_G} {ids : Nat → ClassId} {ad tt : Nat → Nat} {rv : Int32 × Hp} (hA : adOk ad 59) (C : CX p s m args meth c cX6_has 2 (some .boolean) RX6 D ids) (hX : (ExC tt ad) s s.heap) {k : Nat} (hk : isX6 k) : ∀ (h : Hp) (a1 : Int32) (H : Heap) (locs : List Loc) (ls : Array Slot), f_X6_has h k a1 = some rv → wp D (cEC ids ad) ad 59 h H → va_S (inW ad 59) s.heap H locs → lv_has ls 2 [(0, .ref (ad k)), (1, .int a1)] → W p l e rm_X6_has s m args below meth c H locs 0 0 (MQ below (QW D (cEC ids ad) ad 59 (some (.int rv.1)) rv.2) args s 0 0 (inW ad 59)) (F0 m 0 ls []) := by
  intro h a1 H locs ls hf hP hS hl
  unfold f_X6_has at hf
  refine lv_iload_n C.1 C.2.1 dX6_has_0 rfl (lv_at hl 1 rfl) ?_
  refine lv_if_lt (tgt := 25) C.1 C.2.1 dX6_has_1 (by decide) (fun hc => ?_) (fun hc => ?_)
  · have hf := g_t hc hf
    refine lv_iconst (v := (0 : Int32)) C.1 C.2.1 dX6_has_25 (by decide) ?_
    obtain rfl := Option.some.inj hf
    exact u_zret C hP hS isb_0 dX6_has_26
  · have hf := g_f hc hf
    refine lv_iload_n C.1 C.2.1 dX6_has_4 rfl (lv_at hl 1 rfl) ?_
    refine lv_aload_n C.1 C.2.1 dX6_has_5 rfl (lv_at hl 0 rfl) ?_
    refine gf_X6_15 C hk hP dX6_has_6 ?_
    refine lv_icmp_ge (tgt := 25) C.1 C.2.1 dX6_has_9 (by decide) (fun hc => ?_) (fun hc => ?_)
    · have hf := g_t hc hf
      refine lv_iconst (v := (0 : Int32)) C.1 C.2.1 dX6_has_25 (by decide) ?_
      obtain rfl := Option.some.inj hf
      exact u_zret C hP hS isb_0 dX6_has_26
    · have hf := g_f hc hf
      refine lv_iload_n C.1 C.2.1 dX6_has_12 rfl (lv_at hl 1 rfl) ?_
      refine lv_aload_n C.1 C.2.1 dX6_has_13 rfl (lv_at hl 0 rfl) ?_
      refine gf_X6_9 C hk hP dX6_has_14 ?_
      refine ln_aHr C (hr_of hk) hP dX6_has_17 ?_
      refine lv_icmp_ge (tgt := 25) C.1 C.2.1 dX6_has_18 (by decide) (fun hc => ?_) (fun hc => ?_)
      · have hf := g_t hc hf
        refine lv_iconst (v := (0 : Int32)) C.1 C.2.1 dX6_has_25 (by decide) ?_
        obtain rfl := Option.some.inj hf
        exact u_zret C hP hS isb_0 dX6_has_26
      · have hf := g_f hc hf
        refine lv_iconst (v := (1 : Int32)) C.1 C.2.1 dX6_has_21 (by decide) ?_
        refine lv_goto (tgt := 26) C.1 C.2.1 dX6_has_22 (by decide) ?_
        obtain rfl := Option.some.inj hf
        exact u_zret C hP hS isb_1 dX6_has_26
theorem c_X6_has (l : Launch) (D : va_G) (ids : Nat → ClassId) (ad tt : Nat → Nat) (hA : adOk ad 59) {k : Nat} (hk : isX6 k) {a1 : Int32} {h : Hp} {rv : Int32 × Hp} (hf : f_X6_has h k a1 = some rv) : Met l yX6_has (ws_ yX6_has cX6_has 2 (some .boolean)) rm_X6_has (va_Pc [.ref (ad k), .int a1] (WB D ids (cEC ids ad) ad 59 (ExC tt ad) h)) (QW D (cEC ids ad) ad 59 (some (.int rv.1)) rv.2) 0 0 (inW ad 59) :=
  u_met (own := RX6) (by decide) rfl (Nat.le_of_ble_eq_true rfl) rfl (fun p e s m args below meth c H ls C hX hP hS hl => w_X6_has (tt := tt) hA C hX hk _ _ _ _ _ hf hP hS hl)
theorem cv_X6_38 {p : Program} {l : Launch} {e : Env} {R : Room} {s : State} {m : MethodId} {args : Array Value} {below : List Frame} {meth : Method} {c : Code} {H : Heap} {locs : List Loc} {Q : State → Prop} {cc : ByteArray} {nL : Nat} {ret : Option FieldType} {pc : Nat} {ls : Array Slot} {rest : List Value} {D : va_G} {ids : Nat → ClassId} {ad tt : Nat → Nat} {h : Hp} (hA : adOk ad 59) (C : CX p s m args meth c cc nL ret RX6 D ids) (hX : (ExC tt ad) s s.heap) (hP : wp D (cEC ids ad) ad 59 h H) (hS : va_S (inW ad 59) s.heap H locs) {k : Nat} (hk : isX6 k) {a1 : Int32} {rv : Int32 × Hp} (hf : f_X6_has h k a1 = some rv) (hR : 0 + 1 ≤ R.frames ∧ 8 + (2 + 11) + 0 ≤ R.locals) (hsz : ls.size = nL) (hcat : (rest.map fun v => v.category).sum ≤ 8) (hdg : decode cc pc = .ok (.invokevirtual 38, 3)) (kk : ∀ (H1 : Heap) (locs1 : List Loc), wp D (cEC ids ad) ad 59 rv.2 H1 → va_S (inW ad 59) s.heap H1 locs1 → W p l e R s m args below meth c H1 locs1 0 0 Q (F0 m (pc + 3) ls (.int rv.1 :: rest))) : W p l e R s m args below meth c H locs 0 0 Q (F0 m pc ls (.int a1 :: .ref (ad k) :: rest)) :=
  u_callV (As := [.int a1]) (rv := (some (.int rv.1))) C (exC_ok hA) hX (c_X6_has l D ids ad tt hA hk hf) q_350 q_343 q_344 q_76 q_345 ⟨rfl, rfl⟩ (by refine ⟨by decide +kernel, by decide +kernel, ?_⟩; show _ = some 1; decide +kernel) hR (lt_X6 hk) (cE_X6 hk _) rfl hP hS hsz hcat rfl hdg kk
theorem al_aHr {p : Program} {l : Launch} {e : Env} {R : Room} {s : State} {m : MethodId} {args : Array Value} {below : List Frame} {meth : Method} {c : Code} {H : Heap} {locs : List Loc} {cells slots : Nat} {Q : State → Prop} {cc : ByteArray} {nL : Nat} {ret : Option FieldType} {own : String} {pc : Nat} {ls : Array Slot} {rest : List Value} {D : va_G} {ids : Nat → ClassId} {ad : Nat → Nat} {h : Hp} (C : CX p s m args meth c cc nL ret own D ids) {k : Nat} (hk : isaHr k) (hP : wp D (cEC ids ad) ad 59 h H) {i : Int32} (hg : inb i 8 = true) (hdg : decode cc pc = .ok (.iaload, 1)) (kk : W p l e R s m args below meth c H locs cells slots Q (F0 m (pc + 1) ls (.int (h k i.toNatClampNeg) :: rest))) : W p l e R s m args below meth c H locs cells slots Q (F0 m pc ls (.int i :: .ref (ad k) :: rest)) :=
  u_iald C hP (lt_aHr hk) (cE_aHr hk) hg hdg kk
abbrev rm_X6_hourOf : Room := { frames := 1, cells := 0, slots := 0, locals := 21 }
set_option maxRecDepth 100000 in
set_option maxHeartbeats 4000000 in
theorem w_X6_hourOf {p : Program} {l : Launch} {e : Env} {s : State} {m : MethodId} {args : Array Value} {below : List Frame} {meth : Method} {c : Code} {D : va_G} {ids : Nat → ClassId} {ad tt : Nat → Nat} {rv : Int32 × Hp} (hA : adOk ad 59) (C : CX p s m args meth c cX6_hourOf 2 (some .int) RX6 D ids) (hX : (ExC tt ad) s s.heap) {k : Nat} (hk : isX6 k) : ∀ (h : Hp) (a1 : Int32) (H : Heap) (locs : List Loc) (ls : Array Slot), f_X6_hourOf h k a1 = some rv → wp D (cEC ids ad) ad 59 h H → va_S (inW ad 59) s.heap H locs → lv_has ls 2 [(0, .ref (ad k)), (1, .int a1)] → W p l e rm_X6_hourOf s m args below meth c H locs 0 0 (MQ below (QW D (cEC ids ad) ad 59 (some (.int rv.1)) rv.2) args s 0 0 (inW ad 59)) (F0 m 0 ls []) := by
  intro h a1 H locs ls hf hP hS hl
  unfold f_X6_hourOf at hf
  refine lv_aload_n C.1 C.2.1 dX6_hourOf_0 rfl (lv_at hl 0 rfl) ?_
  refine lv_iload_n C.1 C.2.1 dX6_hourOf_1 rfl (lv_at hl 1 rfl) ?_
  obtain ⟨q1, eq1, hf⟩ := g_b hf
  refine cv_X6_38 hA C hX hP hS hk eq1 ⟨Nat.le_of_ble_eq_true rfl, Nat.le_of_ble_eq_true rfl⟩ hl.1 (Nat.le_of_ble_eq_true rfl) dX6_hourOf_2 (fun H locs hP hS => ?_)
  refine lv_if_eq (tgt := 17) C.1 C.2.1 dX6_hourOf_5 (by decide) (fun hc => ?_) (fun hc => ?_)
  · have hf := g_t hc hf
    refine lv_bipush (v := (-5 : Int32)) C.1 C.2.1 dX6_hourOf_17 (by decide) ?_
    obtain rfl := Option.some.inj hf
    exact u_iret C hP hS dX6_hourOf_19
  · have hf := g_f hc hf
    refine lv_aload_n C.1 C.2.1 dX6_hourOf_8 rfl (lv_at hl 0 rfl) ?_
    refine gf_X6_9 C hk hP dX6_hourOf_9 ?_
    refine lv_iload_n C.1 C.2.1 dX6_hourOf_12 rfl (lv_at hl 1 rfl) ?_
    obtain ⟨hg, hf⟩ := g_if hf
    refine al_aHr C (hr_of hk) hP hg dX6_hourOf_13 ?_
    refine lv_goto (tgt := 19) C.1 C.2.1 dX6_hourOf_14 (by decide) ?_
    obtain rfl := Option.some.inj hf
    exact u_iret C hP hS dX6_hourOf_19
theorem c_X6_hourOf (l : Launch) (D : va_G) (ids : Nat → ClassId) (ad tt : Nat → Nat) (hA : adOk ad 59) {k : Nat} (hk : isX6 k) {a1 : Int32} {h : Hp} {rv : Int32 × Hp} (hf : f_X6_hourOf h k a1 = some rv) : Met l yX6_hourOf (ws_ yX6_hourOf cX6_hourOf 2 (some .int)) rm_X6_hourOf (va_Pc [.ref (ad k), .int a1] (WB D ids (cEC ids ad) ad 59 (ExC tt ad) h)) (QW D (cEC ids ad) ad 59 (some (.int rv.1)) rv.2) 0 0 (inW ad 59) :=
  u_met (own := RX6) (by decide) rfl (Nat.le_of_ble_eq_true rfl) rfl (fun p e s m args below meth c H ls C hX hP hS hl => w_X6_hourOf (tt := tt) hA C hX hk _ _ _ _ _ hf hP hS hl)
theorem gf_X3_25 {p : Program} {l : Launch} {e : Env} {R : Room} {s : State} {m : MethodId} {args : Array Value} {below : List Frame} {meth : Method} {c : Code} {H : Heap} {locs : List Loc} {cells slots : Nat} {Q : State → Prop} {cc : ByteArray} {nL : Nat} {ret : Option FieldType} {pc : Nat} {ls : Array Slot} {rest : List Value} {D : va_G} {ids : Nat → ClassId} {ad : Nat → Nat} {h : Hp} (C : CX p s m args meth c cc nL ret RX3 D ids) {k : Nat} (hk : isX3 k) (hP : wp D (cEC ids ad) ad 59 h H) (hdg : decode cc pc = .ok (.getfield 25, 3)) (kk : W p l e R s m args below meth c H locs cells slots Q (F0 m (pc + 3) ls (.int (h k 3) :: rest))) : W p l e R s m args below meth c H locs cells slots Q (F0 m pc ls (.ref (ad k) :: rest)) :=
  u_get C hP (lt_X3 hk) (cE_X3 hk) rfl inX3 3 (by decide) rfl q_102 hdg kk
theorem gf_X3_29 {p : Program} {l : Launch} {e : Env} {R : Room} {s : State} {m : MethodId} {args : Array Value} {below : List Frame} {meth : Method} {c : Code} {H : Heap} {locs : List Loc} {cells slots : Nat} {Q : State → Prop} {cc : ByteArray} {nL : Nat} {ret : Option FieldType} {pc : Nat} {ls : Array Slot} {rest : List Value} {D : va_G} {ids : Nat → ClassId} {ad : Nat → Nat} {h : Hp} (C : CX p s m args meth c cc nL ret RX3 D ids) {k : Nat} (hk : isX3 k) (hP : wp D (cEC ids ad) ad 59 h H) (hdg : decode cc pc = .ok (.getfield 29, 3)) (kk : W p l e R s m args below meth c H locs cells slots Q (F0 m (pc + 3) ls (.int (h k 4) :: rest))) : W p l e R s m args below meth c H locs cells slots Q (F0 m pc ls (.ref (ad k) :: rest)) :=
  u_get C hP (lt_X3 hk) (cE_X3 hk) rfl inX3 4 (by decide) rfl q_103 hdg kk
theorem pf_X3_32 {p : Program} {l : Launch} {e : Env} {R : Room} {s : State} {m : MethodId} {args : Array Value} {below : List Frame} {meth : Method} {c : Code} {H : Heap} {locs : List Loc} {cells slots : Nat} {Q : State → Prop} {cc : ByteArray} {nL : Nat} {ret : Option FieldType} {pc : Nat} {ls : Array Slot} {rest : List Value} {D : va_G} {ids : Nat → ClassId} {ad : Nat → Nat} {h : Hp} {x : Int32} (hA : adOk ad 59) (C : CX p s m args meth c cc nL ret RX3 D ids) {k : Nat} (hk : isX3 k) (hz : isb x = true) (hP : wp D (cEC ids ad) ad 59 h H) (hS : va_S (inW ad 59) s.heap H locs) (hdg : decode cc pc = .ok (.putfield 32, 3)) (kk : ∀ (H1 : Heap) (locs1 : List Loc), wp D (cEC ids ad) ad 59 (hs h k 5 x) H1 → va_S (inW ad 59) s.heap H1 locs1 → W p l e R s m args below meth c H1 locs1 cells slots Q (F0 m (pc + 3) ls rest)) : W p l e R s m args below meth c H locs cells slots Q (F0 m pc ls (.int x :: .ref (ad k) :: rest)) :=
  u_put hA C hP hS (lt_X3 hk) (cE_X3 hk) rfl inX3 tyX3 tyX3_ok nmX3 5 (by decide) rfl q_104 rfl (ty := .boolean) rfl (isb_n hz).1 (isb_n hz).2 hdg kk
theorem gf_X3_32 {p : Program} {l : Launch} {e : Env} {R : Room} {s : State} {m : MethodId} {args : Array Value} {below : List Frame} {meth : Method} {c : Code} {H : Heap} {locs : List Loc} {cells slots : Nat} {Q : State → Prop} {cc : ByteArray} {nL : Nat} {ret : Option FieldType} {pc : Nat} {ls : Array Slot} {rest : List Value} {D : va_G} {ids : Nat → ClassId} {ad : Nat → Nat} {h : Hp} (C : CX p s m args meth c cc nL ret RX3 D ids) {k : Nat} (hk : isX3 k) (hP : wp D (cEC ids ad) ad 59 h H) (hdg : decode cc pc = .ok (.getfield 32, 3)) (kk : W p l e R s m args below meth c H locs cells slots Q (F0 m (pc + 3) ls (.int (h k 5) :: rest))) : W p l e R s m args below meth c H locs cells slots Q (F0 m pc ls (.ref (ad k) :: rest)) :=
  u_get C hP (lt_X3 hk) (cE_X3 hk) rfl inX3 5 (by decide) rfl q_104 hdg kk
theorem gf_X3_38 {p : Program} {l : Launch} {e : Env} {R : Room} {s : State} {m : MethodId} {args : Array Value} {below : List Frame} {meth : Method} {c : Code} {H : Heap} {locs : List Loc} {cells slots : Nat} {Q : State → Prop} {cc : ByteArray} {nL : Nat} {ret : Option FieldType} {pc : Nat} {ls : Array Slot} {rest : List Value} {D : va_G} {ids : Nat → ClassId} {ad : Nat → Nat} {h : Hp} (C : CX p s m args meth c cc nL ret RX3 D ids) {k : Nat} (hk : isX3 k) (hP : wp D (cEC ids ad) ad 59 h H) (hdg : decode cc pc = .ok (.getfield 38, 3)) (kk : W p l e R s m args below meth c H locs cells slots Q (F0 m (pc + 3) ls (.int (h k 7) :: rest))) : W p l e R s m args below meth c H locs cells slots Q (F0 m pc ls (.ref (ad k) :: rest)) :=
  u_get C hP (lt_X3 hk) (cE_X3 hk) rfl inX3 7 (by decide) rfl q_106 hdg kk
theorem cv_X3_60 {p : Program} {l : Launch} {e : Env} {R : Room} {s : State} {m : MethodId} {args : Array Value} {below : List Frame} {meth : Method} {c : Code} {H : Heap} {locs : List Loc} {Q : State → Prop} {cc : ByteArray} {nL : Nat} {ret : Option FieldType} {pc : Nat} {ls : Array Slot} {rest : List Value} {D : va_G} {ids : Nat → ClassId} {ad tt : Nat → Nat} {h : Hp} (hA : adOk ad 59) (C : CX p s m args meth c cc nL ret RX3 D ids) (hX : (ExC tt ad) s s.heap) (hP : wp D (cEC ids ad) ad 59 h H) (hS : va_S (inW ad 59) s.heap H locs) {k : Nat} (hk : isX6 k) {a1 : Int32} {rv : Int32 × Hp} (hf : f_X6_has h k a1 = some rv) (hR : 0 + 1 ≤ R.frames ∧ 8 + (2 + 11) + 0 ≤ R.locals) (hsz : ls.size = nL) (hcat : (rest.map fun v => v.category).sum ≤ 8) (hdg : decode cc pc = .ok (.invokevirtual 60, 3)) (kk : ∀ (H1 : Heap) (locs1 : List Loc), wp D (cEC ids ad) ad 59 rv.2 H1 → va_S (inW ad 59) s.heap H1 locs1 → W p l e R s m args below meth c H1 locs1 0 0 Q (F0 m (pc + 3) ls (.int rv.1 :: rest))) : W p l e R s m args below meth c H locs 0 0 Q (F0 m pc ls (.int a1 :: .ref (ad k) :: rest)) :=
  u_callV (As := [.int a1]) (rv := (some (.int rv.1))) C (exC_ok hA) hX (c_X6_has l D ids ad tt hA hk hf) q_342 q_343 q_344 q_76 q_345 ⟨rfl, rfl⟩ (by refine ⟨by decide +kernel, by decide +kernel, ?_⟩; show _ = some 1; decide +kernel) hR (lt_X6 hk) (cE_X6 hk _) rfl hP hS hsz hcat rfl hdg kk
theorem cv_X3_64 {p : Program} {l : Launch} {e : Env} {R : Room} {s : State} {m : MethodId} {args : Array Value} {below : List Frame} {meth : Method} {c : Code} {H : Heap} {locs : List Loc} {Q : State → Prop} {cc : ByteArray} {nL : Nat} {ret : Option FieldType} {pc : Nat} {ls : Array Slot} {rest : List Value} {D : va_G} {ids : Nat → ClassId} {ad tt : Nat → Nat} {h : Hp} (hA : adOk ad 59) (C : CX p s m args meth c cc nL ret RX3 D ids) (hX : (ExC tt ad) s s.heap) (hP : wp D (cEC ids ad) ad 59 h H) (hS : va_S (inW ad 59) s.heap H locs) {k : Nat} (hk : isX6 k) {a1 : Int32} {rv : Int32 × Hp} (hf : f_X6_hourOf h k a1 = some rv) (hR : 1 + 1 ≤ R.frames ∧ 8 + (2 + 11) + 21 ≤ R.locals) (hsz : ls.size = nL) (hcat : (rest.map fun v => v.category).sum ≤ 8) (hdg : decode cc pc = .ok (.invokevirtual 64, 3)) (kk : ∀ (H1 : Heap) (locs1 : List Loc), wp D (cEC ids ad) ad 59 rv.2 H1 → va_S (inW ad 59) s.heap H1 locs1 → W p l e R s m args below meth c H1 locs1 0 0 Q (F0 m (pc + 3) ls (.int rv.1 :: rest))) : W p l e R s m args below meth c H locs 0 0 Q (F0 m pc ls (.int a1 :: .ref (ad k) :: rest)) :=
  u_callV (As := [.int a1]) (rv := (some (.int rv.1))) C (exC_ok hA) hX (c_X6_hourOf l D ids ad tt hA hk hf) q_346 q_347 q_348 q_76 q_349 ⟨rfl, rfl⟩ (by refine ⟨by decide +kernel, by decide +kernel, ?_⟩; show _ = some 1; decide +kernel) hR (lt_X6 hk) (cE_X6 hk _) rfl hP hS hsz hcat rfl hdg kk
theorem gf_X3_22 {p : Program} {l : Launch} {e : Env} {R : Room} {s : State} {m : MethodId} {args : Array Value} {below : List Frame} {meth : Method} {c : Code} {H : Heap} {locs : List Loc} {cells slots : Nat} {Q : State → Prop} {cc : ByteArray} {nL : Nat} {ret : Option FieldType} {pc : Nat} {ls : Array Slot} {rest : List Value} {D : va_G} {ids : Nat → ClassId} {ad : Nat → Nat} {h : Hp} (C : CX p s m args meth c cc nL ret RX3 D ids) {k : Nat} (hk : isX3 k) (hP : wp D (cEC ids ad) ad 59 h H) (hdg : decode cc pc = .ok (.getfield 22, 3)) (kk : W p l e R s m args below meth c H locs cells slots Q (F0 m (pc + 3) ls (.int (h k 2) :: rest))) : W p l e R s m args below meth c H locs cells slots Q (F0 m pc ls (.ref (ad k) :: rest)) :=
  u_get C hP (lt_X3 hk) (cE_X3 hk) rfl inX3 2 (by decide) rfl q_101 hdg kk
theorem pf_X3_35 {p : Program} {l : Launch} {e : Env} {R : Room} {s : State} {m : MethodId} {args : Array Value} {below : List Frame} {meth : Method} {c : Code} {H : Heap} {locs : List Loc} {cells slots : Nat} {Q : State → Prop} {cc : ByteArray} {nL : Nat} {ret : Option FieldType} {pc : Nat} {ls : Array Slot} {rest : List Value} {D : va_G} {ids : Nat → ClassId} {ad : Nat → Nat} {h : Hp} {x : Int32} (hA : adOk ad 59) (C : CX p s m args meth c cc nL ret RX3 D ids) {k : Nat} (hk : isX3 k) (hz : isb x = true) (hP : wp D (cEC ids ad) ad 59 h H) (hS : va_S (inW ad 59) s.heap H locs) (hdg : decode cc pc = .ok (.putfield 35, 3)) (kk : ∀ (H1 : Heap) (locs1 : List Loc), wp D (cEC ids ad) ad 59 (hs h k 6 x) H1 → va_S (inW ad 59) s.heap H1 locs1 → W p l e R s m args below meth c H1 locs1 cells slots Q (F0 m (pc + 3) ls rest)) : W p l e R s m args below meth c H locs cells slots Q (F0 m pc ls (.int x :: .ref (ad k) :: rest)) :=
  u_put hA C hP hS (lt_X3 hk) (cE_X3 hk) rfl inX3 tyX3 tyX3_ok nmX3 6 (by decide) rfl q_105 rfl (ty := .boolean) rfl (isb_n hz).1 (isb_n hz).2 hdg kk
theorem gf_X3_35 {p : Program} {l : Launch} {e : Env} {R : Room} {s : State} {m : MethodId} {args : Array Value} {below : List Frame} {meth : Method} {c : Code} {H : Heap} {locs : List Loc} {cells slots : Nat} {Q : State → Prop} {cc : ByteArray} {nL : Nat} {ret : Option FieldType} {pc : Nat} {ls : Array Slot} {rest : List Value} {D : va_G} {ids : Nat → ClassId} {ad : Nat → Nat} {h : Hp} (C : CX p s m args meth c cc nL ret RX3 D ids) {k : Nat} (hk : isX3 k) (hP : wp D (cEC ids ad) ad 59 h H) (hdg : decode cc pc = .ok (.getfield 35, 3)) (kk : W p l e R s m args below meth c H locs cells slots Q (F0 m (pc + 3) ls (.int (h k 6) :: rest))) : W p l e R s m args below meth c H locs cells slots Q (F0 m pc ls (.ref (ad k) :: rest)) :=
  u_get C hP (lt_X3 hk) (cE_X3 hk) rfl inX3 6 (by decide) rfl q_105 hdg kk
theorem gf_X3_18 {p : Program} {l : Launch} {e : Env} {R : Room} {s : State} {m : MethodId} {args : Array Value} {below : List Frame} {meth : Method} {c : Code} {H : Heap} {locs : List Loc} {cells slots : Nat} {Q : State → Prop} {cc : ByteArray} {nL : Nat} {ret : Option FieldType} {pc : Nat} {ls : Array Slot} {rest : List Value} {D : va_G} {ids : Nat → ClassId} {ad : Nat → Nat} {h : Hp} (C : CX p s m args meth c cc nL ret RX3 D ids) {k : Nat} (hk : isX3 k) (hP : wp D (cEC ids ad) ad 59 h H) (hdg : decode cc pc = .ok (.getfield 18, 3)) (kk : W p l e R s m args below meth c H locs cells slots Q (F0 m (pc + 3) ls (.int (h k 1) :: rest))) : W p l e R s m args below meth c H locs cells slots Q (F0 m pc ls (.ref (ad k) :: rest)) :=
  u_get C hP (lt_X3 hk) (cE_X3 hk) rfl inX3 1 (by decide) rfl q_100 hdg kk
theorem gf_X3_41 {p : Program} {l : Launch} {e : Env} {R : Room} {s : State} {m : MethodId} {args : Array Value} {below : List Frame} {meth : Method} {c : Code} {H : Heap} {locs : List Loc} {cells slots : Nat} {Q : State → Prop} {cc : ByteArray} {nL : Nat} {ret : Option FieldType} {pc : Nat} {ls : Array Slot} {rest : List Value} {D : va_G} {ids : Nat → ClassId} {ad : Nat → Nat} {h : Hp} (C : CX p s m args meth c cc nL ret RX3 D ids) {k : Nat} (hk : isX3 k) (hP : wp D (cEC ids ad) ad 59 h H) (hdg : decode cc pc = .ok (.getfield 41, 3)) (kk : W p l e R s m args below meth c H locs cells slots Q (F0 m (pc + 3) ls (.int (h k 8) :: rest))) : W p l e R s m args below meth c H locs cells slots Q (F0 m pc ls (.ref (ad k) :: rest)) :=
  u_get C hP (lt_X3 hk) (cE_X3 hk) rfl inX3 8 (by decide) rfl q_107 hdg kk
abbrev rm_X3_beginHour : Room := { frames := 2, cells := 0, slots := 0, locals := 42 }
set_option maxRecDepth 100000 in
set_option maxHeartbeats 4000000 in
theorem w_X3_beginHour_126 {p : Program} {l : Launch} {e : Env} {s : State} {m : MethodId} {args : Array Value} {below : List Frame} {meth : Method} {c : Code} {D : va_G} {ids : Nat → ClassId} {ad tt : Nat → Nat} {rv : Hp} (hA : adOk ad 59) (C : CX p s m args meth c cX3_beginHour 3 none RX3 D ids) (hX : (ExC tt ad) s s.heap) {k : Nat} (hk : isX3 k) : ∀ (h : Hp) (H : Heap) (locs : List Loc) (ls : Array Slot), f_X3_beginHour_126 k h = some rv → wp D (cEC ids ad) ad 59 h H → va_S (inW ad 59) s.heap H locs → lv_has ls 3 [(0, .ref (ad k))] → W p l e rm_X3_beginHour s m args below meth c H locs 0 0 (MQ below (QW D (cEC ids ad) ad 59 none rv) args s 0 0 (inW ad 59)) (F0 m 126 ls []) := by
  intro h H locs ls hf hP hS hl
  unfold f_X3_beginHour_126 at hf
  refine lv_aload_n C.1 C.2.1 dX3_beginHour_126 rfl (lv_at hl 0 rfl) ?_
  refine lv_iconst (v := (0 : Int32)) C.1 C.2.1 dX3_beginHour_127 (by decide) ?_
  refine pf_X3_35 hA C hk isb_0 hP hS dX3_beginHour_128 (fun H locs hP hS => ?_)
  obtain rfl := Option.some.inj hf
  exact u_vret C hP hS dX3_beginHour_131
set_option maxRecDepth 100000 in
set_option maxHeartbeats 4000000 in
theorem w_X3_beginHour_98 {p : Program} {l : Launch} {e : Env} {s : State} {m : MethodId} {args : Array Value} {below : List Frame} {meth : Method} {c : Code} {D : va_G} {ids : Nat → ClassId} {ad tt : Nat → Nat} {rv : Hp} (hA : adOk ad 59) (C : CX p s m args meth c cX3_beginHour 3 none RX3 D ids) (hX : (ExC tt ad) s s.heap) {k : Nat} (hk : isX3 k) : ∀ (h : Hp) (x2 : Int32) (t1 : Int32) (H : Heap) (locs : List Loc) (ls : Array Slot), f_X3_beginHour_98 k h x2 t1 = some rv → wp D (cEC ids ad) ad 59 h H → va_S (inW ad 59) s.heap H locs → lv_has ls 3 [(0, .ref (ad k)), (2, .int x2)] → W p l e rm_X3_beginHour s m args below meth c H locs 0 0 (MQ below (QW D (cEC ids ad) ad 59 none rv) args s 0 0 (inW ad 59)) (F0 m 98 ls [.int t1, .ref (ad k)]) := by
  intro h x2 t1 H locs ls hf hP hS hl
  unfold f_X3_beginHour_98 at hf
  obtain ⟨hg, hf⟩ := g_if hf
  refine pf_X3_35 hA C hk hg hP hS dX3_beginHour_98 (fun H locs hP hS => ?_)
  refine lv_aload_n C.1 C.2.1 dX3_beginHour_101 rfl (lv_at hl 0 rfl) ?_
  refine gf_X3_35 C hk hP dX3_beginHour_102 ?_
  refine lv_if_eq (tgt := 131) C.1 C.2.1 dX3_beginHour_105 (by decide) (fun hc => ?_) (fun hc => ?_)
  · have hf := g_t hc hf
    obtain rfl := Option.some.inj hf
    exact u_vret C hP hS dX3_beginHour_131
  · have hf := g_f hc hf
    refine lv_iload_n C.1 C.2.1 dX3_beginHour_108 rfl (lv_at hl 1 rfl) ?_
    refine lv_aload_n C.1 C.2.1 dX3_beginHour_109 rfl (lv_at hl 0 rfl) ?_
    refine gf_X3_18 C hk hP dX3_beginHour_110 ?_
    refine lv_icmp_ge (tgt := 131) C.1 C.2.1 dX3_beginHour_113 (by decide) (fun hc => ?_) (fun hc => ?_)
    · have hf := g_t hc hf
      obtain rfl := Option.some.inj hf
      exact u_vret C hP hS dX3_beginHour_131
    · have hf := g_f hc hf
      refine lv_aload_n C.1 C.2.1 dX3_beginHour_116 rfl (lv_at hl 0 rfl) ?_
      refine lv_dup C.1 C.2.1 dX3_beginHour_117 rfl ?_
      refine gf_X3_41 C hk hP dX3_beginHour_118 ?_
      refine lv_iconst (v := (1 : Int32)) C.1 C.2.1 dX3_beginHour_121 (by decide) ?_
      refine lv_iadd C.1 C.2.1 dX3_beginHour_122 ?_
      refine pf_X3_41 hA C hk hP hS dX3_beginHour_123 (fun H locs hP hS => ?_)
      exact w_X3_beginHour_126 hA C hX hk _ _ _ _ hf hP hS (lv_sub hl [0] rfl)
set_option maxRecDepth 100000 in
set_option maxHeartbeats 4000000 in
theorem w_X3_beginHour_97 {p : Program} {l : Launch} {e : Env} {s : State} {m : MethodId} {args : Array Value} {below : List Frame} {meth : Method} {c : Code} {D : va_G} {ids : Nat → ClassId} {ad tt : Nat → Nat} {rv : Hp} (hA : adOk ad 59) (C : CX p s m args meth c cX3_beginHour 3 none RX3 D ids) (hX : (ExC tt ad) s s.heap) {k : Nat} (hk : isX3 k) : ∀ (h : Hp) (x2 : Int32) (H : Heap) (locs : List Loc) (ls : Array Slot), f_X3_beginHour_97 k h x2 = some rv → wp D (cEC ids ad) ad 59 h H → va_S (inW ad 59) s.heap H locs → lv_has ls 3 [(0, .ref (ad k)), (2, .int x2)] → W p l e rm_X3_beginHour s m args below meth c H locs 0 0 (MQ below (QW D (cEC ids ad) ad 59 none rv) args s 0 0 (inW ad 59)) (F0 m 97 ls [.ref (ad k)]) := by
  intro h x2 H locs ls hf hP hS hl
  unfold f_X3_beginHour_97 at hf
  refine lv_iconst (v := (0 : Int32)) C.1 C.2.1 dX3_beginHour_97 (by decide) ?_
  exact w_X3_beginHour_98 hA C hX hk _ _ _ _ _ _ hf hP hS (lv_sub hl [0, 1] rfl)
set_option maxRecDepth 100000 in
set_option maxHeartbeats 4000000 in
theorem w_X3_beginHour_50 {p : Program} {l : Launch} {e : Env} {s : State} {m : MethodId} {args : Array Value} {below : List Frame} {meth : Method} {c : Code} {D : va_G} {ids : Nat → ClassId} {ad tt : Nat → Nat} {rv : Hp} (hA : adOk ad 59) (C : CX p s m args meth c cX3_beginHour 3 none RX3 D ids) (hX : (ExC tt ad) s s.heap) {k : Nat} (hk : isX3 k) : ∀ (h : Hp) (x1 : Int32) (x2 : Int32) (H : Heap) (locs : List Loc) (ls : Array Slot), f_X3_beginHour_50 k h x1 x2 = some rv → wp D (cEC ids ad) ad 59 h H → va_S (inW ad 59) s.heap H locs → lv_has ls 3 [(0, .ref (ad k)), (1, .int x1), (2, .int x2)] → W p l e rm_X3_beginHour s m args below meth c H locs 0 0 (MQ below (QW D (cEC ids ad) ad 59 none rv) args s 0 0 (inW ad 59)) (F0 m 50 ls []) := by
  intro h x1 x2 H locs ls hf hP hS hl
  unfold f_X3_beginHour_50 at hf
  refine lv_aload_n C.1 C.2.1 dX3_beginHour_50 rfl (lv_at hl 0 rfl) ?_
  refine lv_aload_n C.1 C.2.1 dX3_beginHour_51 rfl (lv_at hl 0 rfl) ?_
  refine gf_X3_25 C hk hP dX3_beginHour_52 ?_
  refine lv_if_ne (tgt := 97) C.1 C.2.1 dX3_beginHour_55 (by decide) (fun hc => ?_) (fun hc => ?_)
  · have hf := g_f hc hf
    exact w_X3_beginHour_97 hA C hX hk _ _ _ _ _ hf hP hS (lv_sub hl [0, 2] rfl)
  · have hf := g_t hc hf
    refine lv_iload_n C.1 C.2.1 dX3_beginHour_58 rfl (lv_at hl 1 rfl) ?_
    refine lv_bipush (v := (21 : Int32)) C.1 C.2.1 dX3_beginHour_59 (by decide) ?_
    refine lv_icmp_gt (tgt := 97) C.1 C.2.1 dX3_beginHour_61 (by decide) (fun hc => ?_) (fun hc => ?_)
    · have hf := g_t hc hf
      exact w_X3_beginHour_97 hA C hX hk _ _ _ _ _ hf hP hS (lv_sub hl [0, 2] rfl)
    · have hf := g_f hc hf
      refine lv_aload_n C.1 C.2.1 dX3_beginHour_64 rfl (lv_at hl 0 rfl) ?_
      refine gf_X3_12 C hk hP dX3_beginHour_65 ?_
      refine lv_aload_n C.1 C.2.1 dX3_beginHour_68 rfl (lv_at hl 0 rfl) ?_
      refine gf_X3_38 C hk hP dX3_beginHour_69 ?_
      obtain ⟨q1, eq1, hf⟩ := g_b hf
      refine cv_X3_60 hA C hX hP hS (tt_of hk) eq1 ⟨Nat.le_of_ble_eq_true rfl, Nat.le_of_ble_eq_true rfl⟩ hl.1 (Nat.le_of_ble_eq_true rfl) dX3_beginHour_72 (fun H locs hP hS => ?_)
      refine lv_if_eq (tgt := 97) C.1 C.2.1 dX3_beginHour_75 (by decide) (fun hc => ?_) (fun hc => ?_)
      · have hf := g_t hc hf
        exact w_X3_beginHour_97 hA C hX hk _ _ _ _ _ hf hP hS (lv_sub hl [0, 2] rfl)
      · have hf := g_f hc hf
        refine lv_aload_n C.1 C.2.1 dX3_beginHour_78 rfl (lv_at hl 0 rfl) ?_
        refine gf_X3_12 C hk hP dX3_beginHour_79 ?_
        refine lv_aload_n C.1 C.2.1 dX3_beginHour_82 rfl (lv_at hl 0 rfl) ?_
        refine gf_X3_38 C hk hP dX3_beginHour_83 ?_
        obtain ⟨q2, eq2, hf⟩ := g_b hf
        refine cv_X3_64 hA C hX hP hS (tt_of hk) eq2 ⟨Nat.le_of_ble_eq_true rfl, Nat.le_of_ble_eq_true rfl⟩ hl.1 (Nat.le_of_ble_eq_true rfl) dX3_beginHour_86 (fun H locs hP hS => ?_)
        refine lv_iload_n C.1 C.2.1 dX3_beginHour_89 rfl (lv_at hl 1 rfl) ?_
        refine lv_icmp_gt (tgt := 97) C.1 C.2.1 dX3_beginHour_90 (by decide) (fun hc => ?_) (fun hc => ?_)
        · have hf := g_t hc hf
          exact w_X3_beginHour_97 hA C hX hk _ _ _ _ _ hf hP hS (lv_sub hl [0, 2] rfl)
        · have hf := g_f hc hf
          refine lv_iconst (v := (1 : Int32)) C.1 C.2.1 dX3_beginHour_93 (by decide) ?_
          refine lv_goto (tgt := 98) C.1 C.2.1 dX3_beginHour_94 (by decide) ?_
          exact w_X3_beginHour_98 hA C hX hk _ _ _ _ _ _ hf hP hS (lv_sub hl [0, 2] rfl)
set_option maxRecDepth 100000 in
set_option maxHeartbeats 4000000 in
theorem w_X3_beginHour_38 {p : Program} {l : Launch} {e : Env} {s : State} {m : MethodId} {args : Array Value} {below : List Frame} {meth : Method} {c : Code} {D : va_G} {ids : Nat → ClassId} {ad tt : Nat → Nat} {rv : Hp} (hA : adOk ad 59) (C : CX p s m args meth c cX3_beginHour 3 none RX3 D ids) (hX : (ExC tt ad) s s.heap) {k : Nat} (hk : isX3 k) : ∀ (h : Hp) (x1 : Int32) (x2 : Int32) (H : Heap) (locs : List Loc) (ls : Array Slot), f_X3_beginHour_38 k h x1 x2 = some rv → wp D (cEC ids ad) ad 59 h H → va_S (inW ad 59) s.heap H locs → lv_has ls 3 [(0, .ref (ad k)), (1, .int x1), (2, .int x2)] → W p l e rm_X3_beginHour s m args below meth c H locs 0 0 (MQ below (QW D (cEC ids ad) ad 59 none rv) args s 0 0 (inW ad 59)) (F0 m 38 ls []) := by
  intro h x1 x2 H locs ls hf hP hS hl
  unfold f_X3_beginHour_38 at hf
  refine lv_aload_n C.1 C.2.1 dX3_beginHour_38 rfl (lv_at hl 0 rfl) ?_
  refine lv_aload_n C.1 C.2.1 dX3_beginHour_39 rfl (lv_at hl 0 rfl) ?_
  refine gf_X3_22 C hk hP dX3_beginHour_40 ?_
  refine lv_iconst (v := (1 : Int32)) C.1 C.2.1 dX3_beginHour_43 (by decide) ?_
  refine lv_iadd C.1 C.2.1 dX3_beginHour_44 ?_
  refine lv_iconst (v := (2 : Int32)) C.1 C.2.1 dX3_beginHour_45 (by decide) ?_
  refine lv_irem C.1 C.2.1 dX3_beginHour_46 (by decide) ?_
  refine pf_X3_22 hA C hk hP hS dX3_beginHour_47 (fun H locs hP hS => ?_)
  exact w_X3_beginHour_50 hA C hX hk _ _ _ _ _ _ hf hP hS (lv_sub hl [0, 1, 2] rfl)
set_option maxRecDepth 100000 in
set_option maxHeartbeats 4000000 in
theorem w_X3_beginHour_23 {p : Program} {l : Launch} {e : Env} {s : State} {m : MethodId} {args : Array Value} {below : List Frame} {meth : Method} {c : Code} {D : va_G} {ids : Nat → ClassId} {ad tt : Nat → Nat} {rv : Hp} (hA : adOk ad 59) (C : CX p s m args meth c cX3_beginHour 3 none RX3 D ids) (hX : (ExC tt ad) s s.heap) {k : Nat} (hk : isX3 k) : ∀ (h : Hp) (x1 : Int32) (x2 : Int32) (t1 : Int32) (H : Heap) (locs : List Loc) (ls : Array Slot), f_X3_beginHour_23 k h x1 x2 t1 = some rv → wp D (cEC ids ad) ad 59 h H → va_S (inW ad 59) s.heap H locs → lv_has ls 3 [(0, .ref (ad k)), (1, .int x1), (2, .int x2)] → W p l e rm_X3_beginHour s m args below meth c H locs 0 0 (MQ below (QW D (cEC ids ad) ad 59 none rv) args s 0 0 (inW ad 59)) (F0 m 23 ls [.int t1, .ref (ad k)]) := by
  intro h x1 x2 t1 H locs ls hf hP hS hl
  unfold f_X3_beginHour_23 at hf
  obtain ⟨hg, hf⟩ := g_if hf
  refine pf_X3_32 hA C hk hg hP hS dX3_beginHour_23 (fun H locs hP hS => ?_)
  refine lv_aload_n C.1 C.2.1 dX3_beginHour_26 rfl (lv_at hl 0 rfl) ?_
  refine gf_X3_32 C hk hP dX3_beginHour_27 ?_
  refine lv_if_eq (tgt := 50) C.1 C.2.1 dX3_beginHour_30 (by decide) (fun hc => ?_) (fun hc => ?_)
  · have hf := g_t hc hf
    exact w_X3_beginHour_50 hA C hX hk _ _ _ _ _ _ hf hP hS (lv_sub hl [0, 1, 2] rfl)
  · have hf := g_f hc hf
    refine lv_aload_n C.1 C.2.1 dX3_beginHour_33 rfl (lv_at hl 0 rfl) ?_
    refine lv_iconst (v := (0 : Int32)) C.1 C.2.1 dX3_beginHour_34 (by decide) ?_
    refine pf_X3_25 hA C hk isb_0 hP hS dX3_beginHour_35 (fun H locs hP hS => ?_)
    exact w_X3_beginHour_38 hA C hX hk _ _ _ _ _ _ hf hP hS (lv_sub hl [0, 1, 2] rfl)
set_option maxRecDepth 100000 in
set_option maxHeartbeats 4000000 in
theorem w_X3_beginHour_22 {p : Program} {l : Launch} {e : Env} {s : State} {m : MethodId} {args : Array Value} {below : List Frame} {meth : Method} {c : Code} {D : va_G} {ids : Nat → ClassId} {ad tt : Nat → Nat} {rv : Hp} (hA : adOk ad 59) (C : CX p s m args meth c cX3_beginHour 3 none RX3 D ids) (hX : (ExC tt ad) s s.heap) {k : Nat} (hk : isX3 k) : ∀ (h : Hp) (x1 : Int32) (x2 : Int32) (H : Heap) (locs : List Loc) (ls : Array Slot), f_X3_beginHour_22 k h x1 x2 = some rv → wp D (cEC ids ad) ad 59 h H → va_S (inW ad 59) s.heap H locs → lv_has ls 3 [(0, .ref (ad k)), (1, .int x1), (2, .int x2)] → W p l e rm_X3_beginHour s m args below meth c H locs 0 0 (MQ below (QW D (cEC ids ad) ad 59 none rv) args s 0 0 (inW ad 59)) (F0 m 22 ls [.ref (ad k)]) := by
  intro h x1 x2 H locs ls hf hP hS hl
  unfold f_X3_beginHour_22 at hf
  refine lv_iconst (v := (0 : Int32)) C.1 C.2.1 dX3_beginHour_22 (by decide) ?_
  exact w_X3_beginHour_23 hA C hX hk _ _ _ _ _ _ _ hf hP hS (lv_sub hl [0, 1, 2] rfl)
set_option maxRecDepth 100000 in
set_option maxHeartbeats 4000000 in
theorem w_X3_beginHour {p : Program} {l : Launch} {e : Env} {s : State} {m : MethodId} {args : Array Value} {below : List Frame} {meth : Method} {c : Code} {D : va_G} {ids : Nat → ClassId} {ad tt : Nat → Nat} {rv : Hp} (hA : adOk ad 59) (C : CX p s m args meth c cX3_beginHour 3 none RX3 D ids) (hX : (ExC tt ad) s s.heap) {k : Nat} (hk : isX3 k) : ∀ (h : Hp) (a1 : Int32) (a2 : Int32) (H : Heap) (locs : List Loc) (ls : Array Slot), f_X3_beginHour h k a1 a2 = some rv → wp D (cEC ids ad) ad 59 h H → va_S (inW ad 59) s.heap H locs → lv_has ls 3 [(0, .ref (ad k)), (1, .int a1), (2, .int a2)] → W p l e rm_X3_beginHour s m args below meth c H locs 0 0 (MQ below (QW D (cEC ids ad) ad 59 none rv) args s 0 0 (inW ad 59)) (F0 m 0 ls []) := by
  intro h a1 a2 H locs ls hf hP hS hl
  unfold f_X3_beginHour at hf
  refine lv_aload_n C.1 C.2.1 dX3_beginHour_0 rfl (lv_at hl 0 rfl) ?_
  refine lv_aload_n C.1 C.2.1 dX3_beginHour_1 rfl (lv_at hl 0 rfl) ?_
  refine gf_X3_25 C hk hP dX3_beginHour_2 ?_
  refine lv_if_eq (tgt := 22) C.1 C.2.1 dX3_beginHour_5 (by decide) (fun hc => ?_) (fun hc => ?_)
  · have hf := g_t hc hf
    exact w_X3_beginHour_22 hA C hX hk _ _ _ _ _ _ hf hP hS (lv_sub hl [0, 1, 2] rfl)
  · have hf := g_f hc hf
    refine lv_iload_n C.1 C.2.1 dX3_beginHour_8 rfl (lv_at hl 1 rfl) ?_
    refine lv_aload_n C.1 C.2.1 dX3_beginHour_9 rfl (lv_at hl 0 rfl) ?_
    refine gf_X3_29 C hk hP dX3_beginHour_10 ?_
    refine lv_iconst (v := (2 : Int32)) C.1 C.2.1 dX3_beginHour_13 (by decide) ?_
    refine lv_iadd C.1 C.2.1 dX3_beginHour_14 ?_
    refine lv_icmp_ne (tgt := 22) C.1 C.2.1 dX3_beginHour_15 (by decide) (fun hc => ?_) (fun hc => ?_)
    · have hf := g_f hc hf
      exact w_X3_beginHour_22 hA C hX hk _ _ _ _ _ _ hf hP hS (lv_sub hl [0, 1, 2] rfl)
    · have hf := g_t hc hf
      refine lv_iconst (v := (1 : Int32)) C.1 C.2.1 dX3_beginHour_18 (by decide) ?_
      refine lv_goto (tgt := 23) C.1 C.2.1 dX3_beginHour_19 (by decide) ?_
      exact w_X3_beginHour_23 hA C hX hk _ _ _ _ _ _ _ hf hP hS (lv_sub hl [0, 1, 2] rfl)
theorem c_X3_beginHour (l : Launch) (D : va_G) (ids : Nat → ClassId) (ad tt : Nat → Nat) (hA : adOk ad 59) {k : Nat} (hk : isX3 k) {a1 : Int32} {a2 : Int32} {h : Hp} {rv : Hp} (hf : f_X3_beginHour h k a1 a2 = some rv) : Met l yX3_beginHour (ws_ yX3_beginHour cX3_beginHour 3 none) rm_X3_beginHour (va_Pc [.ref (ad k), .int a1, .int a2] (WB D ids (cEC ids ad) ad 59 (ExC tt ad) h)) (QW D (cEC ids ad) ad 59 none rv) 0 0 (inW ad 59) :=
  u_met (own := RX3) (by decide) rfl (Nat.le_of_ble_eq_true rfl) rfl (fun p e s m args below meth c H ls C hX hP hS hl => w_X3_beginHour (tt := tt) hA C hX hk _ _ _ _ _ _ hf hP hS hl)
abbrev rm_X3_wantsFrom : Room := { frames := 0, cells := 0, slots := 0, locals := 0 }
set_option maxRecDepth 100000 in
set_option maxHeartbeats 4000000 in
theorem w_X3_wantsFrom {p : Program} {l : Launch} {e : Env} {s : State} {m : MethodId} {args : Array Value} {below : List Frame} {meth : Method} {c : Code} {D : va_G} {ids : Nat → ClassId} {ad tt : Nat → Nat} {rv : Int32 × Hp} (hA : adOk ad 59) (C : CX p s m args meth c cX3_wantsFrom 2 (some .boolean) RX3 D ids) (hX : (ExC tt ad) s s.heap) {k : Nat} (hk : isX3 k) : ∀ (h : Hp) (a1 : Int32) (H : Heap) (locs : List Loc) (ls : Array Slot), f_X3_wantsFrom h k a1 = some rv → wp D (cEC ids ad) ad 59 h H → va_S (inW ad 59) s.heap H locs → lv_has ls 2 [(0, .ref (ad k)), (1, .int a1)] → W p l e rm_X3_wantsFrom s m args below meth c H locs 0 0 (MQ below (QW D (cEC ids ad) ad 59 (some (.int rv.1)) rv.2) args s 0 0 (inW ad 59)) (F0 m 0 ls []) := by
  intro h a1 H locs ls hf hP hS hl
  unfold f_X3_wantsFrom at hf
  refine lv_aload_n C.1 C.2.1 dX3_wantsFrom_0 rfl (lv_at hl 0 rfl) ?_
  refine gf_X3_35 C hk hP dX3_wantsFrom_1 ?_
  refine lv_if_eq (tgt := 19) C.1 C.2.1 dX3_wantsFrom_4 (by decide) (fun hc => ?_) (fun hc => ?_)
  · have hf := g_t hc hf
    refine lv_iconst (v := (0 : Int32)) C.1 C.2.1 dX3_wantsFrom_19 (by decide) ?_
    obtain rfl := Option.some.inj hf
    exact u_zret C hP hS isb_0 dX3_wantsFrom_20
  · have hf := g_f hc hf
    refine lv_aload_n C.1 C.2.1 dX3_wantsFrom_7 rfl (lv_at hl 0 rfl) ?_
    refine gf_X3_22 C hk hP dX3_wantsFrom_8 ?_
    refine lv_iload_n C.1 C.2.1 dX3_wantsFrom_11 rfl (lv_at hl 1 rfl) ?_
    refine lv_icmp_ne (tgt := 19) C.1 C.2.1 dX3_wantsFrom_12 (by decide) (fun hc => ?_) (fun hc => ?_)
    · have hf := g_f hc hf
      refine lv_iconst (v := (0 : Int32)) C.1 C.2.1 dX3_wantsFrom_19 (by decide) ?_
      obtain rfl := Option.some.inj hf
      exact u_zret C hP hS isb_0 dX3_wantsFrom_20
    · have hf := g_t hc hf
      refine lv_iconst (v := (1 : Int32)) C.1 C.2.1 dX3_wantsFrom_15 (by decide) ?_
      refine lv_goto (tgt := 20) C.1 C.2.1 dX3_wantsFrom_16 (by decide) ?_
      obtain rfl := Option.some.inj hf
      exact u_zret C hP hS isb_1 dX3_wantsFrom_20
theorem c_X3_wantsFrom (l : Launch) (D : va_G) (ids : Nat → ClassId) (ad tt : Nat → Nat) (hA : adOk ad 59) {k : Nat} (hk : isX3 k) {a1 : Int32} {h : Hp} {rv : Int32 × Hp} (hf : f_X3_wantsFrom h k a1 = some rv) : Met l yX3_wantsFrom (ws_ yX3_wantsFrom cX3_wantsFrom 2 (some .boolean)) rm_X3_wantsFrom (va_Pc [.ref (ad k), .int a1] (WB D ids (cEC ids ad) ad 59 (ExC tt ad) h)) (QW D (cEC ids ad) ad 59 (some (.int rv.1)) rv.2) 0 0 (inW ad 59) :=
  u_met (own := RX3) (by decide) rfl (Nat.le_of_ble_eq_true rfl) rfl (fun p e s m args below meth c H ls C hX hP hS hl => w_X3_wantsFrom (tt := tt) hA C hX hk _ _ _ _ _ hf hP hS hl)
abbrev rm_X3_arrivedAt : Room := { frames := 0, cells := 0, slots := 0, locals := 0 }
set_option maxRecDepth 100000 in
set_option maxHeartbeats 4000000 in
theorem w_X3_arrivedAt {p : Program} {l : Launch} {e : Env} {s : State} {m : MethodId} {args : Array Value} {below : List Frame} {meth : Method} {c : Code} {D : va_G} {ids : Nat → ClassId} {ad tt : Nat → Nat} {rv : Int32 × Hp} (hA : adOk ad 59) (C : CX p s m args meth c cX3_arrivedAt 2 (some .boolean) RX3 D ids) (hX : (ExC tt ad) s s.heap) {k : Nat} (hk : isX3 k) : ∀ (h : Hp) (a1 : Int32) (H : Heap) (locs : List Loc) (ls : Array Slot), f_X3_arrivedAt h k a1 = some rv → wp D (cEC ids ad) ad 59 h H → va_S (inW ad 59) s.heap H locs → lv_has ls 2 [(0, .ref (ad k)), (1, .int a1)] → W p l e rm_X3_arrivedAt s m args below meth c H locs 0 0 (MQ below (QW D (cEC ids ad) ad 59 (some (.int rv.1)) rv.2) args s 0 0 (inW ad 59)) (F0 m 0 ls []) := by
  intro h a1 H locs ls hf hP hS hl
  unfold f_X3_arrivedAt at hf
  refine lv_aload_n C.1 C.2.1 dX3_arrivedAt_0 rfl (lv_at hl 0 rfl) ?_
  refine gf_X3_32 C hk hP dX3_arrivedAt_1 ?_
  refine lv_if_eq (tgt := 19) C.1 C.2.1 dX3_arrivedAt_4 (by decide) (fun hc => ?_) (fun hc => ?_)
  · have hf := g_t hc hf
    refine lv_iconst (v := (0 : Int32)) C.1 C.2.1 dX3_arrivedAt_19 (by decide) ?_
    obtain rfl := Option.some.inj hf
    exact u_zret C hP hS isb_0 dX3_arrivedAt_20
  · have hf := g_f hc hf
    refine lv_aload_n C.1 C.2.1 dX3_arrivedAt_7 rfl (lv_at hl 0 rfl) ?_
    refine gf_X3_22 C hk hP dX3_arrivedAt_8 ?_
    refine lv_iload_n C.1 C.2.1 dX3_arrivedAt_11 rfl (lv_at hl 1 rfl) ?_
    refine lv_icmp_ne (tgt := 19) C.1 C.2.1 dX3_arrivedAt_12 (by decide) (fun hc => ?_) (fun hc => ?_)
    · have hf := g_f hc hf
      refine lv_iconst (v := (0 : Int32)) C.1 C.2.1 dX3_arrivedAt_19 (by decide) ?_
      obtain rfl := Option.some.inj hf
      exact u_zret C hP hS isb_0 dX3_arrivedAt_20
    · have hf := g_t hc hf
      refine lv_iconst (v := (1 : Int32)) C.1 C.2.1 dX3_arrivedAt_15 (by decide) ?_
      refine lv_goto (tgt := 20) C.1 C.2.1 dX3_arrivedAt_16 (by decide) ?_
      obtain rfl := Option.some.inj hf
      exact u_zret C hP hS isb_1 dX3_arrivedAt_20
theorem c_X3_arrivedAt (l : Launch) (D : va_G) (ids : Nat → ClassId) (ad tt : Nat → Nat) (hA : adOk ad 59) {k : Nat} (hk : isX3 k) {a1 : Int32} {h : Hp} {rv : Int32 × Hp} (hf : f_X3_arrivedAt h k a1 = some rv) : Met l yX3_arrivedAt (ws_ yX3_arrivedAt cX3_arrivedAt 2 (some .boolean)) rm_X3_arrivedAt (va_Pc [.ref (ad k), .int a1] (WB D ids (cEC ids ad) ad 59 (ExC tt ad) h)) (QW D (cEC ids ad) ad 59 (some (.int rv.1)) rv.2) 0 0 (inW ad 59) :=
  u_met (own := RX3) (by decide) rfl (Nat.le_of_ble_eq_true rfl) rfl (fun p e s m args below meth c H ls C hX hP hS hl => w_X3_arrivedAt (tt := tt) hA C hX hk _ _ _ _ _ hf hP hS hl)
theorem gf_X4_18 {p : Program} {l : Launch} {e : Env} {R : Room} {s : State} {m : MethodId} {args : Array Value} {below : List Frame} {meth : Method} {c : Code} {H : Heap} {locs : List Loc} {cells slots : Nat} {Q : State → Prop} {cc : ByteArray} {nL : Nat} {ret : Option FieldType} {pc : Nat} {ls : Array Slot} {rest : List Value} {D : va_G} {ids : Nat → ClassId} {ad : Nat → Nat} {h : Hp} (C : CX p s m args meth c cc nL ret RX4 D ids) (hP : wp D (cEC ids ad) ad 59 h H) (hdg : decode cc pc = .ok (.getfield 18, 3)) (kk : W p l e R s m args below meth c H locs cells slots Q (F0 m (pc + 3) ls (.int (h 48 1) :: rest))) : W p l e R s m args below meth c H locs cells slots Q (F0 m pc ls (.ref (ad 48) :: rest)) :=
  u_get C hP (by decide) cE_X4 rfl inX4 1 (by decide) rfl q_93 hdg kk
theorem pf_X4_18 {p : Program} {l : Launch} {e : Env} {R : Room} {s : State} {m : MethodId} {args : Array Value} {below : List Frame} {meth : Method} {c : Code} {H : Heap} {locs : List Loc} {cells slots : Nat} {Q : State → Prop} {cc : ByteArray} {nL : Nat} {ret : Option FieldType} {pc : Nat} {ls : Array Slot} {rest : List Value} {D : va_G} {ids : Nat → ClassId} {ad : Nat → Nat} {h : Hp} {x : Int32} (hA : adOk ad 59) (C : CX p s m args meth c cc nL ret RX4 D ids) (hP : wp D (cEC ids ad) ad 59 h H) (hS : va_S (inW ad 59) s.heap H locs) (hdg : decode cc pc = .ok (.putfield 18, 3)) (kk : ∀ (H1 : Heap) (locs1 : List Loc), wp D (cEC ids ad) ad 59 (hs h 48 1 x) H1 → va_S (inW ad 59) s.heap H1 locs1 → W p l e R s m args below meth c H1 locs1 cells slots Q (F0 m (pc + 3) ls rest)) : W p l e R s m args below meth c H locs cells slots Q (F0 m pc ls (.int x :: .ref (ad 48) :: rest)) :=
  u_put hA C hP hS (by decide) cE_X4 rfl inX4 tyX4 tyX4_ok nmX4 1 (by decide) rfl q_93 rfl (ty := .int) rfl rfl rfl hdg kk
theorem gf_X4_22 {p : Program} {l : Launch} {e : Env} {R : Room} {s : State} {m : MethodId} {args : Array Value} {below : List Frame} {meth : Method} {c : Code} {H : Heap} {locs : List Loc} {cells slots : Nat} {Q : State → Prop} {cc : ByteArray} {nL : Nat} {ret : Option FieldType} {pc : Nat} {ls : Array Slot} {rest : List Value} {D : va_G} {ids : Nat → ClassId} {ad : Nat → Nat} {h : Hp} (C : CX p s m args meth c cc nL ret RX4 D ids) (hP : wp D (cEC ids ad) ad 59 h H) (hdg : decode cc pc = .ok (.getfield 22, 3)) (kk : W p l e R s m args below meth c H locs cells slots Q (F0 m (pc + 3) ls (.int (h 48 2) :: rest))) : W p l e R s m args below meth c H locs cells slots Q (F0 m pc ls (.ref (ad 48) :: rest)) :=
  u_get C hP (by decide) cE_X4 rfl inX4 2 (by decide) rfl q_94 hdg kk
theorem pf_X4_22 {p : Program} {l : Launch} {e : Env} {R : Room} {s : State} {m : MethodId} {args : Array Value} {below : List Frame} {meth : Method} {c : Code} {H : Heap} {locs : List Loc} {cells slots : Nat} {Q : State → Prop} {cc : ByteArray} {nL : Nat} {ret : Option FieldType} {pc : Nat} {ls : Array Slot} {rest : List Value} {D : va_G} {ids : Nat → ClassId} {ad : Nat → Nat} {h : Hp} {x : Int32} (hA : adOk ad 59) (C : CX p s m args meth c cc nL ret RX4 D ids) (hP : wp D (cEC ids ad) ad 59 h H) (hS : va_S (inW ad 59) s.heap H locs) (hdg : decode cc pc = .ok (.putfield 22, 3)) (kk : ∀ (H1 : Heap) (locs1 : List Loc), wp D (cEC ids ad) ad 59 (hs h 48 2 x) H1 → va_S (inW ad 59) s.heap H1 locs1 → W p l e R s m args below meth c H1 locs1 cells slots Q (F0 m (pc + 3) ls rest)) : W p l e R s m args below meth c H locs cells slots Q (F0 m pc ls (.int x :: .ref (ad 48) :: rest)) :=
  u_put hA C hP hS (by decide) cE_X4 rfl inX4 tyX4 tyX4_ok nmX4 2 (by decide) rfl q_94 rfl (ty := .int) rfl rfl rfl hdg kk
abbrev rm_X4_drawLot : Room := { frames := 0, cells := 0, slots := 0, locals := 0 }
set_option maxRecDepth 100000 in
set_option maxHeartbeats 4000000 in
theorem w_X4_drawLot_27 {p : Program} {l : Launch} {e : Env} {s : State} {m : MethodId} {args : Array Value} {below : List Frame} {meth : Method} {c : Code} {D : va_G} {ids : Nat → ClassId} {ad tt : Nat → Nat} {rv : Int32 × Hp} (hA : adOk ad 59) (C : CX p s m args meth c cX4_drawLot 2 (some .int) RX4 D ids) (hX : (ExC tt ad) s s.heap) : ∀ (h : Hp) (x1 : Int32) (H : Heap) (locs : List Loc) (ls : Array Slot), f_X4_drawLot_27 h x1 = some rv → wp D (cEC ids ad) ad 59 h H → va_S (inW ad 59) s.heap H locs → lv_has ls 2 [(0, .ref (ad 48)), (1, .int x1)] → W p l e rm_X4_drawLot s m args below meth c H locs 0 0 (MQ below (QW D (cEC ids ad) ad 59 (some (.int rv.1)) rv.2) args s 0 0 (inW ad 59)) (F0 m 27 ls []) := by
  intro h x1 H locs ls hf hP hS hl
  unfold f_X4_drawLot_27 at hf
  refine lv_iload_n C.1 C.2.1 dX4_drawLot_27 rfl (lv_at hl 1 rfl) ?_
  refine lv_if_le (tgt := 40) C.1 C.2.1 dX4_drawLot_28 (by decide) (fun hc => ?_) (fun hc => ?_)
  · have hf := g_t hc hf
    refine lv_iconst (v := (0 : Int32)) C.1 C.2.1 dX4_drawLot_40 (by decide) ?_
    obtain rfl := Option.some.inj hf
    exact u_iret C hP hS dX4_drawLot_41
  · have hf := g_f hc hf
    refine lv_aload_n C.1 C.2.1 dX4_drawLot_31 rfl (lv_at hl 0 rfl) ?_
    refine gf_X4_18 C hP dX4_drawLot_32 ?_
    refine lv_iload_n C.1 C.2.1 dX4_drawLot_35 rfl (lv_at hl 1 rfl) ?_
    obtain ⟨hg, hf⟩ := g_if hf
    refine lv_irem C.1 C.2.1 dX4_drawLot_36 hg ?_
    refine lv_goto (tgt := 41) C.1 C.2.1 dX4_drawLot_37 (by decide) ?_
    obtain rfl := Option.some.inj hf
    exact u_iret C hP hS dX4_drawLot_41
set_option maxRecDepth 100000 in
set_option maxHeartbeats 4000000 in
theorem w_X4_drawLot {p : Program} {l : Launch} {e : Env} {s : State} {m : MethodId} {args : Array Value} {below : List Frame} {meth : Method} {c : Code} {D : va_G} {ids : Nat → ClassId} {ad tt : Nat → Nat} {rv : Int32 × Hp} (hA : adOk ad 59) (C : CX p s m args meth c cX4_drawLot 2 (some .int) RX4 D ids) (hX : (ExC tt ad) s s.heap) : ∀ (h : Hp) (a1 : Int32) (H : Heap) (locs : List Loc) (ls : Array Slot), f_X4_drawLot h a1 = some rv → wp D (cEC ids ad) ad 59 h H → va_S (inW ad 59) s.heap H locs → lv_has ls 2 [(0, .ref (ad 48)), (1, .int a1)] → W p l e rm_X4_drawLot s m args below meth c H locs 0 0 (MQ below (QW D (cEC ids ad) ad 59 (some (.int rv.1)) rv.2) args s 0 0 (inW ad 59)) (F0 m 0 ls []) := by
  intro h a1 H locs ls hf hP hS hl
  unfold f_X4_drawLot at hf
  refine lv_aload_n C.1 C.2.1 dX4_drawLot_0 rfl (lv_at hl 0 rfl) ?_
  refine lv_bipush (v := (75 : Int32)) C.1 C.2.1 dX4_drawLot_1 (by decide) ?_
  refine lv_aload_n C.1 C.2.1 dX4_drawLot_3 rfl (lv_at hl 0 rfl) ?_
  refine gf_X4_18 C hP dX4_drawLot_4 ?_
  refine lv_imul C.1 C.2.1 dX4_drawLot_7 ?_
  refine lv_bipush (v := (74 : Int32)) C.1 C.2.1 dX4_drawLot_8 (by decide) ?_
  refine lv_iadd C.1 C.2.1 dX4_drawLot_10 ?_
  refine lv_ldc (v := (65537 : Int32)) C.1 C.2.1 C.2.2.2.2.2.1 (C.2.2.2.2.2.2.1 _ q_367) dX4_drawLot_11 ?_
  refine lv_irem C.1 C.2.1 dX4_drawLot_13 (by decide) ?_
  refine pf_X4_18 hA C hP hS dX4_drawLot_14 (fun H locs hP hS => ?_)
  refine lv_aload_n C.1 C.2.1 dX4_drawLot_17 rfl (lv_at hl 0 rfl) ?_
  refine lv_dup C.1 C.2.1 dX4_drawLot_18 rfl ?_
  refine gf_X4_22 C hP dX4_drawLot_19 ?_
  refine lv_iconst (v := (1 : Int32)) C.1 C.2.1 dX4_drawLot_22 (by decide) ?_
  refine lv_iadd C.1 C.2.1 dX4_drawLot_23 ?_
  refine pf_X4_22 hA C hP hS dX4_drawLot_24 (fun H locs hP hS => ?_)
  exact w_X4_drawLot_27 hA C hX _ _ _ _ _ hf hP hS (lv_sub hl [0, 1] rfl)
theorem c_X4_drawLot (l : Launch) (D : va_G) (ids : Nat → ClassId) (ad tt : Nat → Nat) (hA : adOk ad 59) {a1 : Int32} {h : Hp} {rv : Int32 × Hp} (hf : f_X4_drawLot h a1 = some rv) : Met l yX4_drawLot (ws_ yX4_drawLot cX4_drawLot 2 (some .int)) rm_X4_drawLot (va_Pc [.ref (ad 48), .int a1] (WB D ids (cEC ids ad) ad 59 (ExC tt ad) h)) (QW D (cEC ids ad) ad 59 (some (.int rv.1)) rv.2) 0 0 (inW ad 59) :=
  u_met (own := RX4) (by decide) rfl (Nat.le_of_ble_eq_true rfl) rfl (fun p e s m args below meth c H ls C hX hP hS hl => w_X4_drawLot (tt := tt) hA C hX _ _ _ _ _ hf hP hS hl)
theorem pf_X3_29 {p : Program} {l : Launch} {e : Env} {R : Room} {s : State} {m : MethodId} {args : Array Value} {below : List Frame} {meth : Method} {c : Code} {H : Heap} {locs : List Loc} {cells slots : Nat} {Q : State → Prop} {cc : ByteArray} {nL : Nat} {ret : Option FieldType} {pc : Nat} {ls : Array Slot} {rest : List Value} {D : va_G} {ids : Nat → ClassId} {ad : Nat → Nat} {h : Hp} {x : Int32} (hA : adOk ad 59) (C : CX p s m args meth c cc nL ret RX3 D ids) {k : Nat} (hk : isX3 k) (hP : wp D (cEC ids ad) ad 59 h H) (hS : va_S (inW ad 59) s.heap H locs) (hdg : decode cc pc = .ok (.putfield 29, 3)) (kk : ∀ (H1 : Heap) (locs1 : List Loc), wp D (cEC ids ad) ad 59 (hs h k 4 x) H1 → va_S (inW ad 59) s.heap H1 locs1 → W p l e R s m args below meth c H1 locs1 cells slots Q (F0 m (pc + 3) ls rest)) : W p l e R s m args below meth c H locs cells slots Q (F0 m pc ls (.int x :: .ref (ad k) :: rest)) :=
  u_put hA C hP hS (lt_X3 hk) (cE_X3 hk) rfl inX3 tyX3 tyX3_ok nmX3 4 (by decide) rfl q_103 rfl (ty := .int) rfl rfl rfl hdg kk
abbrev rm_X3_depart : Room := { frames := 0, cells := 0, slots := 0, locals := 0 }
set_option maxRecDepth 100000 in
set_option maxHeartbeats 4000000 in
theorem w_X3_depart_10 {p : Program} {l : Launch} {e : Env} {s : State} {m : MethodId} {args : Array Value} {below : List Frame} {meth : Method} {c : Code} {D : va_G} {ids : Nat → ClassId} {ad tt : Nat → Nat} {rv : Hp} (hA : adOk ad 59) (C : CX p s m args meth c cX3_depart 2 none RX3 D ids) (hX : (ExC tt ad) s s.heap) {k : Nat} (hk : isX3 k) : ∀ (h : Hp) (x1 : Int32) (H : Heap) (locs : List Loc) (ls : Array Slot), f_X3_depart_10 k h x1 = some rv → wp D (cEC ids ad) ad 59 h H → va_S (inW ad 59) s.heap H locs → lv_has ls 2 [(0, .ref (ad k)), (1, .int x1)] → W p l e rm_X3_depart s m args below meth c H locs 0 0 (MQ below (QW D (cEC ids ad) ad 59 none rv) args s 0 0 (inW ad 59)) (F0 m 10 ls []) := by
  intro h x1 H locs ls hf hP hS hl
  unfold f_X3_depart_10 at hf
  refine lv_aload_n C.1 C.2.1 dX3_depart_10 rfl (lv_at hl 0 rfl) ?_
  refine lv_iload_n C.1 C.2.1 dX3_depart_11 rfl (lv_at hl 1 rfl) ?_
  refine pf_X3_29 hA C hk hP hS dX3_depart_12 (fun H locs hP hS => ?_)
  refine lv_aload_n C.1 C.2.1 dX3_depart_15 rfl (lv_at hl 0 rfl) ?_
  refine lv_dup C.1 C.2.1 dX3_depart_16 rfl ?_
  refine gf_X3_38 C hk hP dX3_depart_17 ?_
  refine lv_iconst (v := (1 : Int32)) C.1 C.2.1 dX3_depart_20 (by decide) ?_
  refine lv_iadd C.1 C.2.1 dX3_depart_21 ?_
  refine pf_X3_38 hA C hk hP hS dX3_depart_22 (fun H locs hP hS => ?_)
  obtain rfl := Option.some.inj hf
  exact u_vret C hP hS dX3_depart_25
set_option maxRecDepth 100000 in
set_option maxHeartbeats 4000000 in
theorem w_X3_depart {p : Program} {l : Launch} {e : Env} {s : State} {m : MethodId} {args : Array Value} {below : List Frame} {meth : Method} {c : Code} {D : va_G} {ids : Nat → ClassId} {ad tt : Nat → Nat} {rv : Hp} (hA : adOk ad 59) (C : CX p s m args meth c cX3_depart 2 none RX3 D ids) (hX : (ExC tt ad) s s.heap) {k : Nat} (hk : isX3 k) : ∀ (h : Hp) (a1 : Int32) (H : Heap) (locs : List Loc) (ls : Array Slot), f_X3_depart h k a1 = some rv → wp D (cEC ids ad) ad 59 h H → va_S (inW ad 59) s.heap H locs → lv_has ls 2 [(0, .ref (ad k)), (1, .int a1)] → W p l e rm_X3_depart s m args below meth c H locs 0 0 (MQ below (QW D (cEC ids ad) ad 59 none rv) args s 0 0 (inW ad 59)) (F0 m 0 ls []) := by
  intro h a1 H locs ls hf hP hS hl
  unfold f_X3_depart at hf
  refine lv_aload_n C.1 C.2.1 dX3_depart_0 rfl (lv_at hl 0 rfl) ?_
  refine lv_iconst (v := (1 : Int32)) C.1 C.2.1 dX3_depart_1 (by decide) ?_
  refine pf_X3_25 hA C hk isb_1 hP hS dX3_depart_2 (fun H locs hP hS => ?_)
  refine lv_aload_n C.1 C.2.1 dX3_depart_5 rfl (lv_at hl 0 rfl) ?_
  refine lv_iconst (v := (0 : Int32)) C.1 C.2.1 dX3_depart_6 (by decide) ?_
  refine pf_X3_35 hA C hk isb_0 hP hS dX3_depart_7 (fun H locs hP hS => ?_)
  exact w_X3_depart_10 hA C hX hk _ _ _ _ _ hf hP hS (lv_sub hl [0, 1] rfl)
theorem c_X3_depart (l : Launch) (D : va_G) (ids : Nat → ClassId) (ad tt : Nat → Nat) (hA : adOk ad 59) {k : Nat} (hk : isX3 k) {a1 : Int32} {h : Hp} {rv : Hp} (hf : f_X3_depart h k a1 = some rv) : Met l yX3_depart (ws_ yX3_depart cX3_depart 2 none) rm_X3_depart (va_Pc [.ref (ad k), .int a1] (WB D ids (cEC ids ad) ad 59 (ExC tt ad) h)) (QW D (cEC ids ad) ad 59 none rv) 0 0 (inW ad 59) :=
  u_met (own := RX3) (by decide) rfl (Nat.le_of_ble_eq_true rfl) rfl (fun p e s m args below meth c H ls C hX hP hS hl => w_X3_depart (tt := tt) hA C hX hk _ _ _ _ _ hf hP hS hl)
theorem gf_X3_44 {p : Program} {l : Launch} {e : Env} {R : Room} {s : State} {m : MethodId} {args : Array Value} {below : List Frame} {meth : Method} {c : Code} {H : Heap} {locs : List Loc} {cells slots : Nat} {Q : State → Prop} {cc : ByteArray} {nL : Nat} {ret : Option FieldType} {pc : Nat} {ls : Array Slot} {rest : List Value} {D : va_G} {ids : Nat → ClassId} {ad : Nat → Nat} {h : Hp} (C : CX p s m args meth c cc nL ret RX3 D ids) {k : Nat} (hk : isX3 k) (hP : wp D (cEC ids ad) ad 59 h H) (hdg : decode cc pc = .ok (.getfield 44, 3)) (kk : W p l e R s m args below meth c H locs cells slots Q (F0 m (pc + 3) ls (.int (h k 9) :: rest))) : W p l e R s m args below meth c H locs cells slots Q (F0 m pc ls (.ref (ad k) :: rest)) :=
  u_get C hP (lt_X3 hk) (cE_X3 hk) rfl inX3 9 (by decide) rfl q_108 hdg kk
theorem gf_X3_47 {p : Program} {l : Launch} {e : Env} {R : Room} {s : State} {m : MethodId} {args : Array Value} {below : List Frame} {meth : Method} {c : Code} {H : Heap} {locs : List Loc} {cells slots : Nat} {Q : State → Prop} {cc : ByteArray} {nL : Nat} {ret : Option FieldType} {pc : Nat} {ls : Array Slot} {rest : List Value} {D : va_G} {ids : Nat → ClassId} {ad : Nat → Nat} {h : Hp} (C : CX p s m args meth c cc nL ret RX3 D ids) {k : Nat} (hk : isX3 k) (hP : wp D (cEC ids ad) ad 59 h H) (hdg : decode cc pc = .ok (.getfield 47, 3)) (kk : W p l e R s m args below meth c H locs cells slots Q (F0 m (pc + 3) ls (.int (h k 10) :: rest))) : W p l e R s m args below meth c H locs cells slots Q (F0 m pc ls (.ref (ad k) :: rest)) :=
  u_get C hP (lt_X3 hk) (cE_X3 hk) rfl inX3 10 (by decide) rfl q_109 hdg kk
abbrev rm_X3_stay : Room := { frames := 0, cells := 0, slots := 0, locals := 0 }
set_option maxRecDepth 100000 in
set_option maxHeartbeats 4000000 in
theorem w_X3_stay {p : Program} {l : Launch} {e : Env} {s : State} {m : MethodId} {args : Array Value} {below : List Frame} {meth : Method} {c : Code} {D : va_G} {ids : Nat → ClassId} {ad tt : Nat → Nat} {rv : Hp} (hA : adOk ad 59) (C : CX p s m args meth c cX3_stay 2 none RX3 D ids) (hX : (ExC tt ad) s s.heap) {k : Nat} (hk : isX3 k) : ∀ (h : Hp) (a1 : Int32) (H : Heap) (locs : List Loc) (ls : Array Slot), f_X3_stay h k a1 = some rv → wp D (cEC ids ad) ad 59 h H → va_S (inW ad 59) s.heap H locs → lv_has ls 2 [(0, .ref (ad k)), (1, .int a1)] → W p l e rm_X3_stay s m args below meth c H locs 0 0 (MQ below (QW D (cEC ids ad) ad 59 none rv) args s 0 0 (inW ad 59)) (F0 m 0 ls []) := by
  intro h a1 H locs ls hf hP hS hl
  unfold f_X3_stay at hf
  refine lv_aload_n C.1 C.2.1 dX3_stay_0 rfl (lv_at hl 0 rfl) ?_
  refine lv_dup C.1 C.2.1 dX3_stay_1 rfl ?_
  refine gf_X3_44 C hk hP dX3_stay_2 ?_
  refine lv_iconst (v := (1 : Int32)) C.1 C.2.1 dX3_stay_5 (by decide) ?_
  refine lv_iadd C.1 C.2.1 dX3_stay_6 ?_
  refine pf_X3_44 hA C hk hP hS dX3_stay_7 (fun H locs hP hS => ?_)
  refine lv_iload_n C.1 C.2.1 dX3_stay_10 rfl (lv_at hl 1 rfl) ?_
  refine lv_if_eq (tgt := 24) C.1 C.2.1 dX3_stay_11 (by decide) (fun hc => ?_) (fun hc => ?_)
  · have hf := g_t hc hf
    obtain rfl := Option.some.inj hf
    exact u_vret C hP hS dX3_stay_24
  · have hf := g_f hc hf
    refine lv_aload_n C.1 C.2.1 dX3_stay_14 rfl (lv_at hl 0 rfl) ?_
    refine lv_dup C.1 C.2.1 dX3_stay_15 rfl ?_
    refine gf_X3_47 C hk hP dX3_stay_16 ?_
    refine lv_iconst (v := (1 : Int32)) C.1 C.2.1 dX3_stay_19 (by decide) ?_
    refine lv_iadd C.1 C.2.1 dX3_stay_20 ?_
    refine pf_X3_47 hA C hk hP hS dX3_stay_21 (fun H locs hP hS => ?_)
    obtain rfl := Option.some.inj hf
    exact u_vret C hP hS dX3_stay_24
theorem c_X3_stay (l : Launch) (D : va_G) (ids : Nat → ClassId) (ad tt : Nat → Nat) (hA : adOk ad 59) {k : Nat} (hk : isX3 k) {a1 : Int32} {h : Hp} {rv : Hp} (hf : f_X3_stay h k a1 = some rv) : Met l yX3_stay (ws_ yX3_stay cX3_stay 2 none) rm_X3_stay (va_Pc [.ref (ad k), .int a1] (WB D ids (cEC ids ad) ad 59 (ExC tt ad) h)) (QW D (cEC ids ad) ad 59 none rv) 0 0 (inW ad 59) :=
  u_met (own := RX3) (by decide) rfl (Nat.le_of_ble_eq_true rfl) rfl (fun p e s m args below meth c H ls C hX hP hS hl => w_X3_stay (tt := tt) hA C hX hk _ _ _ _ _ hf hP hS hl)
