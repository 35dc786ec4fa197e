theorem pf_X5_20 {p : Program} {l : Launch} {e : Env} {R : Room} {s : State} {m : MethodId} {args : Array Value} {below : List Frame} {meth : Method} {c : Code} {H : Heap} {locs : List Loc} {cells slots : Nat} {Q : State → Prop} {cc : ByteArray} {nL : Nat} {ret : Option FieldType} {pc : Nat} {ls : Array Slot} {rest : List Value} {D : va_G} {ids : Nat → ClassId} {ad : Nat → Nat} {h : Hp} {x : Int32} (hA : adOk ad 59) (C : CX p s m args meth c cc nL ret RX5 D ids) {k : Nat} (hk : isX5 k) (hP : wp D (cEC ids ad) ad 59 h H) (hS : va_S (inW ad 59) s.heap H locs) (hdg : decode cc pc = .ok (.putfield 20, 3)) (kk : ∀ (H1 : Heap) (locs1 : List Loc), wp D (cEC ids ad) ad 59 (hs h k 1 x) H1 → va_S (inW ad 59) s.heap H1 locs1 → W p l e R s m args below meth c H1 locs1 cells slots Q (F0 m (pc + 3) ls rest)) : W p l e R s m args below meth c H locs cells slots Q (F0 m pc ls (.int x :: .ref (ad k) :: rest)) :=
  u_put hA C hP hS (lt_X5 hk) (cE_X5 hk) rfl inX5 tyX5 tyX5_ok nmX5 1 (by decide) rfl q_37 rfl (ty := .int) rfl rfl rfl hdg kk
theorem pf_X5_24 {p : Program} {l : Launch} {e : Env} {R : Room} {s : State} {m : MethodId} {args : Array Value} {below : List Frame} {meth : Method} {c : Code} {H : Heap} {locs : List Loc} {cells slots : Nat} {Q : State → Prop} {cc : ByteArray} {nL : Nat} {ret : Option FieldType} {pc : Nat} {ls : Array Slot} {rest : List Value} {D : va_G} {ids : Nat → ClassId} {ad : Nat → Nat} {h : Hp} {x : Int32} (hA : adOk ad 59) (C : CX p s m args meth c cc nL ret RX5 D ids) {k : Nat} (hk : isX5 k) (hP : wp D (cEC ids ad) ad 59 h H) (hS : va_S (inW ad 59) s.heap H locs) (hdg : decode cc pc = .ok (.putfield 24, 3)) (kk : ∀ (H1 : Heap) (locs1 : List Loc), wp D (cEC ids ad) ad 59 (hs h k 2 x) H1 → va_S (inW ad 59) s.heap H1 locs1 → W p l e R s m args below meth c H1 locs1 cells slots Q (F0 m (pc + 3) ls rest)) : W p l e R s m args below meth c H locs cells slots Q (F0 m pc ls (.int x :: .ref (ad k) :: rest)) :=
  u_put hA C hP hS (lt_X5 hk) (cE_X5 hk) rfl inX5 tyX5 tyX5_ok nmX5 2 (by decide) rfl q_38 rfl (ty := .int) rfl rfl rfl hdg kk
theorem cv_X5_64 {p : Program} {l : Launch} {e : Env} {R : Room} {s : State} {m : MethodId} {args : Array Value} {below : List Frame} {meth : Method} {c : Code} {H : Heap} {locs : List Loc} {Q : State → Prop} {cc : ByteArray} {nL : Nat} {ret : Option FieldType} {pc : Nat} {ls : Array Slot} {rest : List Value} {D : va_G} {ids : Nat → ClassId} {ad tt : Nat → Nat} {h : Hp} (hA : adOk ad 59) (C : CX p s m args meth c cc nL ret RX5 D ids) (hX : (ExC tt ad) s s.heap) (hP : wp D (cEC ids ad) ad 59 h H) (hS : va_S (inW ad 59) s.heap H locs) {k : Nat} (hk : isX2 k) {k1 : Nat} (hk1 : isX2 k1) {rv : Hp} (hf : f_X2_copyFrom h k k1 = some rv) (hR : 0 + 1 ≤ R.frames ∧ 8 + (2 + 11) + 0 ≤ R.locals) (hsz : ls.size = nL) (hcat : (rest.map fun v => v.category).sum ≤ 8) (hdg : decode cc pc = .ok (.invokevirtual 64, 3)) (kk : ∀ (H1 : Heap) (locs1 : List Loc), wp D (cEC ids ad) ad 59 rv H1 → va_S (inW ad 59) s.heap H1 locs1 → W p l e R s m args below meth c H1 locs1 0 0 Q (F0 m (pc + 3) ls (rest))) : W p l e R s m args below meth c H locs 0 0 Q (F0 m pc ls (.ref (ad k1) :: .ref (ad k) :: rest)) :=
  u_callV (As := [.ref (ad k1)]) (rv := none) C (exC_ok hA) hX (c_X2_copyFrom l D ids ad tt hA hk hk1 hf) q_245 q_246 q_247 q_35 q_248 ⟨rfl, rfl⟩ (by refine ⟨by decide +kernel, by decide +kernel, ?_⟩; show _ = some 1; decide +kernel) hR (lt_X2 hk) (cE_X2 hk _) rfl hP hS hsz hcat rfl hdg kk
theorem gf_X5_27 {p : Program} {l : Launch} {e : Env} {R : Room} {s : State} {m : MethodId} {args : Array Value} {below : List Frame} {meth : Method} {c : Code} {H : Heap} {locs : List Loc} {cells slots : Nat} {Q : State → Prop} {cc : ByteArray} {nL : Nat} {ret : Option FieldType} {pc : Nat} {ls : Array Slot} {rest : List Value} {D : va_G} {ids : Nat → ClassId} {ad : Nat → Nat} {h : Hp} (C : CX p s m args meth c cc nL ret RX5 D ids) {k : Nat} (hk : isX5 k) (hP : wp D (cEC ids ad) ad 59 h H) (hdg : decode cc pc = .ok (.getfield 27, 3)) (kk : W p l e R s m args below meth c H locs cells slots Q (F0 m (pc + 3) ls (.int (h k 3) :: rest))) : W p l e R s m args below meth c H locs cells slots Q (F0 m pc ls (.ref (ad k) :: rest)) :=
  u_get C hP (lt_X5 hk) (cE_X5 hk) rfl inX5 3 (by decide) rfl q_39 hdg kk
theorem pf_X5_27 {p : Program} {l : Launch} {e : Env} {R : Room} {s : State} {m : MethodId} {args : Array Value} {below : List Frame} {meth : Method} {c : Code} {H : Heap} {locs : List Loc} {cells slots : Nat} {Q : State → Prop} {cc : ByteArray} {nL : Nat} {ret : Option FieldType} {pc : Nat} {ls : Array Slot} {rest : List Value} {D : va_G} {ids : Nat → ClassId} {ad : Nat → Nat} {h : Hp} {x : Int32} (hA : adOk ad 59) (C : CX p s m args meth c cc nL ret RX5 D ids) {k : Nat} (hk : isX5 k) (hP : wp D (cEC ids ad) ad 59 h H) (hS : va_S (inW ad 59) s.heap H locs) (hdg : decode cc pc = .ok (.putfield 27, 3)) (kk : ∀ (H1 : Heap) (locs1 : List Loc), wp D (cEC ids ad) ad 59 (hs h k 3 x) H1 → va_S (inW ad 59) s.heap H1 locs1 → W p l e R s m args below meth c H1 locs1 cells slots Q (F0 m (pc + 3) ls rest)) : W p l e R s m args below meth c H locs cells slots Q (F0 m pc ls (.int x :: .ref (ad k) :: rest)) :=
  u_put hA C hP hS (lt_X5 hk) (cE_X5 hk) rfl inX5 tyX5 tyX5_ok nmX5 3 (by decide) rfl q_39 rfl (ty := .int) rfl rfl rfl hdg kk
theorem gf_X5_30 {p : Program} {l : Launch} {e : Env} {R : Room} {s : State} {m : MethodId} {args : Array Value} {below : List Frame} {meth : Method} {c : Code} {H : Heap} {locs : List Loc} {cells slots : Nat} {Q : State → Prop} {cc : ByteArray} {nL : Nat} {ret : Option FieldType} {pc : Nat} {ls : Array Slot} {rest : List Value} {D : va_G} {ids : Nat → ClassId} {ad : Nat → Nat} {h : Hp} (C : CX p s m args meth c cc nL ret RX5 D ids) {k : Nat} (hk : isX5 k) (hP : wp D (cEC ids ad) ad 59 h H) (hdg : decode cc pc = .ok (.getfield 30, 3)) (kk : W p l e R s m args below meth c H locs cells slots Q (F0 m (pc + 3) ls (.int (h k 4) :: rest))) : W p l e R s m args below meth c H locs cells slots Q (F0 m pc ls (.ref (ad k) :: rest)) :=
  u_get C hP (lt_X5 hk) (cE_X5 hk) rfl inX5 4 (by decide) rfl q_40 hdg kk
theorem pf_X5_30 {p : Program} {l : Launch} {e : Env} {R : Room} {s : State} {m : MethodId} {args : Array Value} {below : List Frame} {meth : Method} {c : Code} {H : Heap} {locs : List Loc} {cells slots : Nat} {Q : State → Prop} {cc : ByteArray} {nL : Nat} {ret : Option FieldType} {pc : Nat} {ls : Array Slot} {rest : List Value} {D : va_G} {ids : Nat → ClassId} {ad : Nat → Nat} {h : Hp} {x : Int32} (hA : adOk ad 59) (C : CX p s m args meth c cc nL ret RX5 D ids) {k : Nat} (hk : isX5 k) (hP : wp D (cEC ids ad) ad 59 h H) (hS : va_S (inW ad 59) s.heap H locs) (hdg : decode cc pc = .ok (.putfield 30, 3)) (kk : ∀ (H1 : Heap) (locs1 : List Loc), wp D (cEC ids ad) ad 59 (hs h k 4 x) H1 → va_S (inW ad 59) s.heap H1 locs1 → W p l e R s m args below meth c H1 locs1 cells slots Q (F0 m (pc + 3) ls rest)) : W p l e R s m args below meth c H locs cells slots Q (F0 m pc ls (.int x :: .ref (ad k) :: rest)) :=
  u_put hA C hP hS (lt_X5 hk) (cE_X5 hk) rfl inX5 tyX5 tyX5_ok nmX5 4 (by decide) rfl q_40 rfl (ty := .int) rfl rfl rfl hdg kk
theorem gf_X5_33 {p : Program} {l : Launch} {e : Env} {R : Room} {s : State} {m : MethodId} {args : Array Value} {below : List Frame} {meth : Method} {c : Code} {H : Heap} {locs : List Loc} {cells slots : Nat} {Q : State → Prop} {cc : ByteArray} {nL : Nat} {ret : Option FieldType} {pc : Nat} {ls : Array Slot} {rest : List Value} {D : va_G} {ids : Nat → ClassId} {ad : Nat → Nat} {h : Hp} (C : CX p s m args meth c cc nL ret RX5 D ids) {k : Nat} (hk : isX5 k) (hP : wp D (cEC ids ad) ad 59 h H) (hdg : decode cc pc = .ok (.getfield 33, 3)) (kk : W p l e R s m args below meth c H locs cells slots Q (F0 m (pc + 3) ls (.int (h k 5) :: rest))) : W p l e R s m args below meth c H locs cells slots Q (F0 m pc ls (.ref (ad k) :: rest)) :=
  u_get C hP (lt_X5 hk) (cE_X5 hk) rfl inX5 5 (by decide) rfl q_41 hdg kk
theorem pf_X5_33 {p : Program} {l : Launch} {e : Env} {R : Room} {s : State} {m : MethodId} {args : Array Value} {below : List Frame} {meth : Method} {c : Code} {H : Heap} {locs : List Loc} {cells slots : Nat} {Q : State → Prop} {cc : ByteArray} {nL : Nat} {ret : Option FieldType} {pc : Nat} {ls : Array Slot} {rest : List Value} {D : va_G} {ids : Nat → ClassId} {ad : Nat → Nat} {h : Hp} {x : Int32} (hA : adOk ad 59) (C : CX p s m args meth c cc nL ret RX5 D ids) {k : Nat} (hk : isX5 k) (hP : wp D (cEC ids ad) ad 59 h H) (hS : va_S (inW ad 59) s.heap H locs) (hdg : decode cc pc = .ok (.putfield 33, 3)) (kk : ∀ (H1 : Heap) (locs1 : List Loc), wp D (cEC ids ad) ad 59 (hs h k 5 x) H1 → va_S (inW ad 59) s.heap H1 locs1 → W p l e R s m args below meth c H1 locs1 cells slots Q (F0 m (pc + 3) ls rest)) : W p l e R s m args below meth c H locs cells slots Q (F0 m pc ls (.int x :: .ref (ad k) :: rest)) :=
  u_put hA C hP hS (lt_X5 hk) (cE_X5 hk) rfl inX5 tyX5 tyX5_ok nmX5 5 (by decide) rfl q_41 rfl (ty := .int) rfl rfl rfl hdg kk
theorem gf_X5_36 {p : Program} {l : Launch} {e : Env} {R : Room} {s : State} {m : MethodId} {args : Array Value} {below : List Frame} {meth : Method} {c : Code} {H : Heap} {locs : List Loc} {cells slots : Nat} {Q : State → Prop} {cc : ByteArray} {nL : Nat} {ret : Option FieldType} {pc : Nat} {ls : Array Slot} {rest : List Value} {D : va_G} {ids : Nat → ClassId} {ad : Nat → Nat} {h : Hp} (C : CX p s m args meth c cc nL ret RX5 D ids) {k : Nat} (hk : isX5 k) (hP : wp D (cEC ids ad) ad 59 h H) (hdg : decode cc pc = .ok (.getfield 36, 3)) (kk : W p l e R s m args below meth c H locs cells slots Q (F0 m (pc + 3) ls (.int (h k 6) :: rest))) : W p l e R s m args below meth c H locs cells slots Q (F0 m pc ls (.ref (ad k) :: rest)) :=
  u_get C hP (lt_X5 hk) (cE_X5 hk) rfl inX5 6 (by decide) rfl q_42 hdg kk
theorem pf_X5_36 {p : Program} {l : Launch} {e : Env} {R : Room} {s : State} {m : MethodId} {args : Array Value} {below : List Frame} {meth : Method} {c : Code} {H : Heap} {locs : List Loc} {cells slots : Nat} {Q : State → Prop} {cc : ByteArray} {nL : Nat} {ret : Option FieldType} {pc : Nat} {ls : Array Slot} {rest : List Value} {D : va_G} {ids : Nat → ClassId} {ad : Nat → Nat} {h : Hp} {x : Int32} (hA : adOk ad 59) (C : CX p s m args meth c cc nL ret RX5 D ids) {k : Nat} (hk : isX5 k) (hP : wp D (cEC ids ad) ad 59 h H) (hS : va_S (inW ad 59) s.heap H locs) (hdg : decode cc pc = .ok (.putfield 36, 3)) (kk : ∀ (H1 : Heap) (locs1 : List Loc), wp D (cEC ids ad) ad 59 (hs h k 6 x) H1 → va_S (inW ad 59) s.heap H1 locs1 → W p l e R s m args below meth c H1 locs1 cells slots Q (F0 m (pc + 3) ls rest)) : W p l e R s m args below meth c H locs cells slots Q (F0 m pc ls (.int x :: .ref (ad k) :: rest)) :=
  u_put hA C hP hS (lt_X5 hk) (cE_X5 hk) rfl inX5 tyX5 tyX5_ok nmX5 6 (by decide) rfl q_42 rfl (ty := .int) rfl rfl rfl hdg kk
abbrev rm_X5_copyFrom : Room := { frames := 1, cells := 0, slots := 0, locals := 21 }
set_option maxRecDepth 100000 in
set_option maxHeartbeats 4000000 in
theorem w_X5_copyFrom_60 {p : Program} {l : Launch} {e : Env} {s : State} {m : MethodId} {args : Array Value} {below : List Frame} {meth : Method} {c : Code} {D : va_G} {ids : Nat → ClassId} {ad tt : Nat → Nat} {rv : Hp} (hA : adOk ad 59) (C : CX p s m args meth c cX5_copyFrom 3 none RX5 D ids) (hX : (ExC tt ad) s s.heap) {k : Nat} (hk : isX5 k) {k1 : Nat} (hk1 : isX5 k1) : ∀ (h : Hp) (H : Heap) (locs : List Loc) (ls : Array Slot), f_X5_copyFrom_60 k k1 h = some rv → wp D (cEC ids ad) ad 59 h H → va_S (inW ad 59) s.heap H locs → lv_has ls 3 [(0, .ref (ad k)), (1, .ref (ad k1))] → W p l e rm_X5_copyFrom s m args below meth c H locs 0 0 (MQ below (QW D (cEC ids ad) ad 59 none rv) args s 0 0 (inW ad 59)) (F0 m 60 ls []) := by
  intro h H locs ls hf hP hS hl
  unfold f_X5_copyFrom_60 at hf
  refine lv_aload_n C.1 C.2.1 dX5_copyFrom_60 rfl (lv_at hl 0 rfl) ?_
  refine lv_aload_n C.1 C.2.1 dX5_copyFrom_61 rfl (lv_at hl 1 rfl) ?_
  refine gf_X5_33 C hk1 hP dX5_copyFrom_62 ?_
  refine pf_X5_33 hA C hk hP hS dX5_copyFrom_65 (fun H locs hP hS => ?_)
  refine lv_aload_n C.1 C.2.1 dX5_copyFrom_68 rfl (lv_at hl 0 rfl) ?_
  refine lv_aload_n C.1 C.2.1 dX5_copyFrom_69 rfl (lv_at hl 1 rfl) ?_
  refine gf_X5_36 C hk1 hP dX5_copyFrom_70 ?_
  refine pf_X5_36 hA C hk hP hS dX5_copyFrom_73 (fun H locs hP hS => ?_)
  obtain rfl := Option.some.inj hf
  exact u_vret C hP hS dX5_copyFrom_76
set_option maxRecDepth 100000 in
set_option maxHeartbeats 4000000 in
theorem w_X5_copyFrom_44 {p : Program} {l : Launch} {e : Env} {s : State} {m : MethodId} {args : Array Value} {below : List Frame} {meth : Method} {c : Code} {D : va_G} {ids : Nat → ClassId} {ad tt : Nat → Nat} {rv : Hp} (hA : adOk ad 59) (C : CX p s m args meth c cX5_copyFrom 3 none RX5 D ids) (hX : (ExC tt ad) s s.heap) {k : Nat} (hk : isX5 k) {k1 : Nat} (hk1 : isX5 k1) : ∀ (h : Hp) (H : Heap) (locs : List Loc) (ls : Array Slot), f_X5_copyFrom_44 k k1 h = some rv → wp D (cEC ids ad) ad 59 h H → va_S (inW ad 59) s.heap H locs → lv_has ls 3 [(0, .ref (ad k)), (1, .ref (ad k1))] → W p l e rm_X5_copyFrom s m args below meth c H locs 0 0 (MQ below (QW D (cEC ids ad) ad 59 none rv) args s 0 0 (inW ad 59)) (F0 m 44 ls []) := by
  intro h H locs ls hf hP hS hl
  unfold f_X5_copyFrom_44 at hf
  refine lv_aload_n C.1 C.2.1 dX5_copyFrom_44 rfl (lv_at hl 0 rfl) ?_
  refine lv_aload_n C.1 C.2.1 dX5_copyFrom_45 rfl (lv_at hl 1 rfl) ?_
  refine gf_X5_27 C hk1 hP dX5_copyFrom_46 ?_
  refine pf_X5_27 hA C hk hP hS dX5_copyFrom_49 (fun H locs hP hS => ?_)
  refine lv_aload_n C.1 C.2.1 dX5_copyFrom_52 rfl (lv_at hl 0 rfl) ?_
  refine lv_aload_n C.1 C.2.1 dX5_copyFrom_53 rfl (lv_at hl 1 rfl) ?_
  refine gf_X5_30 C hk1 hP dX5_copyFrom_54 ?_
  refine pf_X5_30 hA C hk hP hS dX5_copyFrom_57 (fun H locs hP hS => ?_)
  exact w_X5_copyFrom_60 hA C hX hk hk1 _ _ _ _ hf hP hS (lv_sub hl [0, 1] rfl)
set_option maxRecDepth 100000 in
set_option maxHeartbeats 4000000 in
theorem w_X5_copyFrom_2 {p : Program} {l : Launch} {e : Env} {s : State} {m : MethodId} {args : Array Value} {below : List Frame} {meth : Method} {c : Code} {D : va_G} {ids : Nat → ClassId} {ad tt : Nat → Nat} {rv : Hp} (hA : adOk ad 59) (C : CX p s m args meth c cX5_copyFrom 3 none RX5 D ids) (hX : (ExC tt ad) s s.heap) {k : Nat} (hk : isX5 k) {k1 : Nat} (hk1 : isX5 k1) : ∀ (fu : Nat), ∀ (h : Hp) (x2 : Int32) (H : Heap) (locs : List Loc) (ls : Array Slot), f_X5_copyFrom_2 k k1 fu h x2 = some rv → wp D (cEC ids ad) ad 59 h H → va_S (inW ad 59) s.heap H locs → lv_has ls 3 [(0, .ref (ad k)), (1, .ref (ad k1)), (2, .int x2)] → W p l e rm_X5_copyFrom s m args below meth c H locs 0 0 (MQ below (QW D (cEC ids ad) ad 59 none rv) args s 0 0 (inW ad 59)) (F0 m 2 ls []) := by
  intro fu
  induction fu with
  | zero =>
    intro h x2 H locs ls hf hP hS hl
    cases hf
  | succ fu ih =>
    intro h x2 H locs ls hf hP hS hl
    rw [f_X5_copyFrom_2_s] at hf
    refine lv_iload_n C.1 C.2.1 dX5_copyFrom_2 rfl (lv_at hl 2 rfl) ?_
    refine lv_iconst (v := (3 : Int32)) C.1 C.2.1 dX5_copyFrom_3 (by decide) ?_
    refine lv_icmp_ge (tgt := 28) C.1 C.2.1 dX5_copyFrom_4 (by decide) (fun hc => ?_) (fun hc => ?_)
    · have hf := g_t hc hf
      refine lv_aload_n C.1 C.2.1 dX5_copyFrom_28 rfl (lv_at hl 0 rfl) ?_
      refine lv_aload_n C.1 C.2.1 dX5_copyFrom_29 rfl (lv_at hl 1 rfl) ?_
      refine gf_X5_20 C hk1 hP dX5_copyFrom_30 ?_
      refine pf_X5_20 hA C hk hP hS dX5_copyFrom_33 (fun H locs hP hS => ?_)
      refine lv_aload_n C.1 C.2.1 dX5_copyFrom_36 rfl (lv_at hl 0 rfl) ?_
      refine lv_aload_n C.1 C.2.1 dX5_copyFrom_37 rfl (lv_at hl 1 rfl) ?_
      refine gf_X5_24 C hk1 hP dX5_copyFrom_38 ?_
      refine pf_X5_24 hA C hk hP hS dX5_copyFrom_41 (fun H locs hP hS => ?_)
      exact w_X5_copyFrom_44 hA C hX hk hk1 _ _ _ _ hf hP hS (lv_sub hl [0, 1] rfl)
    · have hf := g_f hc hf
      refine lv_aload_n C.1 C.2.1 dX5_copyFrom_7 rfl (lv_at hl 0 rfl) ?_
      refine gf_X5_14 C hk hP dX5_copyFrom_8 ?_
      refine lv_iload_n C.1 C.2.1 dX5_copyFrom_11 rfl (lv_at hl 2 rfl) ?_
      obtain ⟨hg1, hf⟩ := g_if hf
      refine rl_aCap C (cap_of hk) hP hg1 dX5_copyFrom_12 ?_
      refine lv_aload_n C.1 C.2.1 dX5_copyFrom_13 rfl (lv_at hl 1 rfl) ?_
      refine gf_X5_14 C hk1 hP dX5_copyFrom_14 ?_
      refine lv_iload_n C.1 C.2.1 dX5_copyFrom_17 rfl (lv_at hl 2 rfl) ?_
      obtain ⟨hg2, hf⟩ := g_if hf
      refine rl_aCap C (cap_of hk1) hP hg2 dX5_copyFrom_18 ?_
      obtain ⟨q3, eq3, hf⟩ := g_b hf
      refine cv_X5_64 hA C hX hP hS (cp_el (cap_of hk) hg1) (cp_el (cap_of hk1) hg2) eq3 ⟨Nat.le_of_ble_eq_true rfl, Nat.le_of_ble_eq_true rfl⟩ hl.1 (Nat.le_of_ble_eq_true rfl) dX5_copyFrom_19 (fun H locs hP hS => ?_)
      refine lv_iinc (v := (x2 + 1)) (lv' := [(2, .int (x2 + 1)), (0, .ref (ad k)), (1, .ref (ad k1))]) C.1 C.2.1 dX5_copyFrom_22 hl (k := 2) rfl (by rfl) (by decide) rfl (fun ls hl => ?_)
      refine lv_goto (tgt := 2) C.1 C.2.1 dX5_copyFrom_25 (by decide) ?_
      exact ih _ _ _ _ _ hf hP hS (lv_sub hl [1, 2, 0] rfl)
set_option maxRecDepth 100000 in
set_option maxHeartbeats 4000000 in
theorem w_X5_copyFrom {p : Program} {l : Launch} {e : Env} {s : State} {m : MethodId} {args : Array Value} {below : List Frame} {meth : Method} {c : Code} {D : va_G} {ids : Nat → ClassId} {ad tt : Nat → Nat} {rv : Hp} (hA : adOk ad 59) (C : CX p s m args meth c cX5_copyFrom 3 none RX5 D ids) (hX : (ExC tt ad) s s.heap) {k : Nat} (hk : isX5 k) {k1 : Nat} (hk1 : isX5 k1) : ∀ (h : Hp) (H : Heap) (locs : List Loc) (ls : Array Slot), f_X5_copyFrom h k k1 = some rv → wp D (cEC ids ad) ad 59 h H → va_S (inW ad 59) s.heap H locs → lv_has ls 3 [(0, .ref (ad k)), (1, .ref (ad k1))] → W p l e rm_X5_copyFrom s m args below meth c H locs 0 0 (MQ below (QW D (cEC ids ad) ad 59 none rv) args s 0 0 (inW ad 59)) (F0 m 0 ls []) := by
  intro h H locs ls hf hP hS hl
  unfold f_X5_copyFrom at hf
  refine lv_iconst (v := (0 : Int32)) C.1 C.2.1 dX5_copyFrom_0 (by decide) ?_
  refine lv_istore_n (lv' := [(2, .int (0 : Int32)), (0, .ref (ad k)), (1, .ref (ad k1))]) C.1 C.2.1 dX5_copyFrom_1 rfl hl (by decide) rfl (fun ls hl => ?_)
  exact w_X5_copyFrom_2 hA C hX hk hk1 _ _ _ _ _ _ hf hP hS (lv_sub hl [1, 2, 0] rfl)
theorem c_X5_copyFrom (l : Launch) (D : va_G) (ids : Nat → ClassId) (ad tt : Nat → Nat) (hA : adOk ad 59) {k : Nat} (hk : isX5 k) {k1 : Nat} (hk1 : isX5 k1) {h : Hp} {rv : Hp} (hf : f_X5_copyFrom h k k1 = some rv) : Met l yX5_copyFrom (ws_ yX5_copyFrom cX5_copyFrom 3 none) rm_X5_copyFrom (va_Pc [.ref (ad k), .ref (ad k1)] (WB D ids (cEC ids ad) ad 59 (ExC tt ad) h)) (QW D (cEC ids ad) ad 59 none rv) 0 0 (inW ad 59) :=
  u_met (own := RX5) (by decide) rfl (Nat.le_of_ble_eq_true rfl) rfl (fun p e s m args below meth c H ls C hX hP hS hl => w_X5_copyFrom (tt := tt) hA C hX hk hk1 _ _ _ _ hf hP hS hl)
theorem gf_X7_23 {p : Program} {l : Launch} {e : Env} {R : Room} {s : State} {m : MethodId} {args : Array Value} {below : List Frame} {meth : Method} {c : Code} {H : Heap} {locs : List Loc} {cells slots : Nat} {Q : State → Prop} {cc : ByteArray} {nL : Nat} {ret : Option FieldType} {pc : Nat} {ls : Array Slot} {rest : List Value} {D : va_G} {ids : Nat → ClassId} {ad : Nat → Nat} {h : Hp} (C : CX p s m args meth c cc nL ret RX7 D ids) (hP : wp D (cEC ids ad) ad 59 h H) (hdg : decode cc pc = .ok (.getfield 23, 3)) (kk : W p l e R s m args below meth c H locs cells slots Q (F0 m (pc + 3) ls (.ref (ad 36) :: rest))) : W p l e R s m args below meth c H locs cells slots Q (F0 m pc ls (.ref (ad 0) :: rest)) :=
  u_get C hP (by decide) cE_X7 rfl inX7 3 (by decide) rfl q_15 hdg kk
theorem ln_aSt {p : Program} {l : Launch} {e : Env} {R : Room} {s : State} {m : MethodId} {args : Array Value} {below : List Frame} {meth : Method} {c : Code} {H : Heap} {locs : List Loc} {cells slots : Nat} {Q : State → Prop} {cc : ByteArray} {nL : Nat} {ret : Option FieldType} {own : String} {pc : Nat} {ls : Array Slot} {rest : List Value} {D : va_G} {ids : Nat → ClassId} {ad : Nat → Nat} {h : Hp} (C : CX p s m args meth c cc nL ret own D ids) (hP : wp D (cEC ids ad) ad 59 h H) (hdg : decode cc pc = .ok (.arraylength, 1)) (kk : W p l e R s m args below meth c H locs cells slots Q (F0 m (pc + 1) ls (.int (4 : Int32) :: rest))) : W p l e R s m args below meth c H locs cells slots Q (F0 m pc ls (.ref (ad 36) :: rest)) :=
  u_alen C hP 4 rfl (by decide) (cE_aSt _) rfl hdg kk
theorem rl_aSt {p : Program} {l : Launch} {e : Env} {R : Room} {s : State} {m : MethodId} {args : Array Value} {below : List Frame} {meth : Method} {c : Code} {H : Heap} {locs : List Loc} {cells slots : Nat} {Q : State → Prop} {cc : ByteArray} {nL : Nat} {ret : Option FieldType} {own : String} {pc : Nat} {ls : Array Slot} {rest : List Value} {D : va_G} {ids : Nat → ClassId} {ad : Nat → Nat} {h : Hp} (C : CX p s m args meth c cc nL ret own D ids) (hP : wp D (cEC ids ad) ad 59 h H) {i : Int32} (hg : inb i 4 = true) (hdg : decode cc pc = .ok (.aaload, 1)) (kk : W p l e R s m args below meth c H locs cells slots Q (F0 m (pc + 1) ls (.ref (ad (11 + 5 * (h 36 i.toNatClampNeg).toNatClampNeg)) :: rest))) : W p l e R s m args below meth c H locs cells slots Q (F0 m pc ls (.int i :: .ref (ad 36) :: rest)) :=
  u_aald C hP 4 rfl (by decide) cE_aSt hg rfl hdg kk
theorem cv_X7_80 {p : Program} {l : Launch} {e : Env} {R : Room} {s : State} {m : MethodId} {args : Array Value} {below : List Frame} {meth : Method} {c : Code} {H : Heap} {locs : List Loc} {Q : State → Prop} {cc : ByteArray} {nL : Nat} {ret : Option FieldType} {pc : Nat} {ls : Array Slot} {rest : List Value} {D : va_G} {ids : Nat → ClassId} {ad tt : Nat → Nat} {h : Hp} (hA : adOk ad 59) (C : CX p s m args meth c cc nL ret RX7 D ids) (hX : (ExC tt ad) s s.heap) (hP : wp D (cEC ids ad) ad 59 h H) (hS : va_S (inW ad 59) s.heap H locs) {k : Nat} (hk : isX5 k) {k1 : Nat} (hk1 : isX5 k1) {rv : Hp} (hf : f_X5_copyFrom h k k1 = some rv) (hR : 1 + 1 ≤ R.frames ∧ 8 + (3 + 11) + 21 ≤ R.locals) (hsz : ls.size = nL) (hcat : (rest.map fun v => v.category).sum ≤ 8) (hdg : decode cc pc = .ok (.invokevirtual 80, 3)) (kk : ∀ (H1 : Heap) (locs1 : List Loc), wp D (cEC ids ad) ad 59 rv H1 → va_S (inW ad 59) s.heap H1 locs1 → W p l e R s m args below meth c H1 locs1 0 0 Q (F0 m (pc + 3) ls (rest))) : W p l e R s m args below meth c H locs 0 0 Q (F0 m pc ls (.ref (ad k1) :: .ref (ad k) :: rest)) :=
  u_callV (As := [.ref (ad k1)]) (rv := none) C (exC_ok hA) hX (c_X5_copyFrom l D ids ad tt hA hk hk1 hf) q_241 q_242 q_243 q_11 q_244 ⟨rfl, rfl⟩ (by refine ⟨by decide +kernel, by decide +kernel, ?_⟩; show _ = some 1; decide +kernel) hR (lt_X5 hk) (cE_X5 hk _) rfl hP hS hsz hcat rfl hdg kk
theorem pf_X7_27 {p : Program} {l : Launch} {e : Env} {R : Room} {s : State} {m : MethodId} {args : Array Value} {below : List Frame} {meth : Method} {c : Code} {H : Heap} {locs : List Loc} {cells slots : Nat} {Q : State → Prop} {cc : ByteArray} {nL : Nat} {ret : Option FieldType} {pc : Nat} {ls : Array Slot} {rest : List Value} {D : va_G} {ids : Nat → ClassId} {ad : Nat → Nat} {h : Hp} {x : Int32} (hA : adOk ad 59) (C : CX p s m args meth c cc nL ret RX7 D ids) (hP : wp D (cEC ids ad) ad 59 h H) (hS : va_S (inW ad 59) s.heap H locs) (hdg : decode cc pc = .ok (.putfield 27, 3)) (kk : ∀ (H1 : Heap) (locs1 : List Loc), wp D (cEC ids ad) ad 59 (hs h 0 4 x) H1 → va_S (inW ad 59) s.heap H1 locs1 → W p l e R s m args below meth c H1 locs1 cells slots Q (F0 m (pc + 3) ls rest)) : W p l e R s m args below meth c H locs cells slots Q (F0 m pc ls (.int x :: .ref (ad 0) :: rest)) :=
  u_put hA C hP hS (by decide) cE_X7 rfl inX7 tyX7 tyX7_ok nmX7 4 (by decide) rfl q_16 rfl (ty := .int) rfl rfl rfl hdg kk
abbrev rm_X7_record : Room := { frames := 2, cells := 0, slots := 0, locals := 43 }
set_option maxRecDepth 100000 in
set_option maxHeartbeats 4000000 in
theorem w_X7_record_74 {p : Program} {l : Launch} {e : Env} {s : State} {m : MethodId} {args : Array Value} {below : List Frame} {meth : Method} {c : Code} {D : va_G} {ids : Nat → ClassId} {ad tt : Nat → Nat} {rv : Hp} (hA : adOk ad 59) (C : CX p s m args meth c cX7_record 3 none RX7 D ids) (hX : (ExC tt ad) s s.heap) : ∀ (h : Hp) (H : Heap) (locs : List Loc) (ls : Array Slot), f_X7_record_74 h = some rv → wp D (cEC ids ad) ad 59 h H → va_S (inW ad 59) s.heap H locs → lv_has ls 3 [(0, .ref (ad 0))] → W p l e rm_X7_record s m args below meth c H locs 0 0 (MQ below (QW D (cEC ids ad) ad 59 none rv) args s 0 0 (inW ad 59)) (F0 m 74 ls []) := by
  intro h H locs ls hf hP hS hl
  unfold f_X7_record_74 at hf
  refine lv_aload_n C.1 C.2.1 dX7_record_74 rfl (lv_at hl 0 rfl) ?_
  refine gf_X7_23 C hP dX7_record_75 ?_
  refine lv_aload_n C.1 C.2.1 dX7_record_78 rfl (lv_at hl 0 rfl) ?_
  refine gf_X7_27 C hP dX7_record_79 ?_
  obtain ⟨hg1, hf⟩ := g_if hf
  obtain ⟨hg2, hf⟩ := g_if hf
  refine rl_aSt C hP hg1 dX7_record_82 ?_
  refine lv_aload_n C.1 C.2.1 dX7_record_83 rfl (lv_at hl 0 rfl) ?_
  refine gf_X7_12 C hP dX7_record_84 ?_
  obtain ⟨q3, eq3, hf⟩ := g_b hf
  refine cv_X7_80 hA C hX hP hS (hi_el hg2) pX5_1 eq3 ⟨Nat.le_of_ble_eq_true rfl, Nat.le_of_ble_eq_true rfl⟩ hl.1 (Nat.le_of_ble_eq_true rfl) dX7_record_87 (fun H locs hP hS => ?_)
  refine lv_aload_n C.1 C.2.1 dX7_record_90 rfl (lv_at hl 0 rfl) ?_
  refine lv_dup C.1 C.2.1 dX7_record_91 rfl ?_
  refine gf_X7_27 C hP dX7_record_92 ?_
  refine lv_iconst (v := (1 : Int32)) C.1 C.2.1 dX7_record_95 (by decide) ?_
  refine lv_iadd C.1 C.2.1 dX7_record_96 ?_
  refine pf_X7_27 hA C hP hS dX7_record_97 (fun H locs hP hS => ?_)
  obtain rfl := Option.some.inj hf
  exact u_vret C hP hS dX7_record_100
set_option maxRecDepth 100000 in
set_option maxHeartbeats 4000000 in
theorem w_X7_record_63 {p : Program} {l : Launch} {e : Env} {s : State} {m : MethodId} {args : Array Value} {below : List Frame} {meth : Method} {c : Code} {D : va_G} {ids : Nat → ClassId} {ad tt : Nat → Nat} {rv : Hp} (hA : adOk ad 59) (C : CX p s m args meth c cX7_record 3 none RX7 D ids) (hX : (ExC tt ad) s s.heap) : ∀ (h : Hp) (H : Heap) (locs : List Loc) (ls : Array Slot), f_X7_record_63 h = some rv → wp D (cEC ids ad) ad 59 h H → va_S (inW ad 59) s.heap H locs → lv_has ls 3 [(0, .ref (ad 0))] → W p l e rm_X7_record s m args below meth c H locs 0 0 (MQ below (QW D (cEC ids ad) ad 59 none rv) args s 0 0 (inW ad 59)) (F0 m 63 ls []) := by
  intro h H locs ls hf hP hS hl
  unfold f_X7_record_63 at hf
  refine lv_aload_n C.1 C.2.1 dX7_record_63 rfl (lv_at hl 0 rfl) ?_
  refine lv_aload_n C.1 C.2.1 dX7_record_64 rfl (lv_at hl 0 rfl) ?_
  refine gf_X7_23 C hP dX7_record_65 ?_
  refine ln_aSt C hP dX7_record_68 ?_
  refine lv_iconst (v := (1 : Int32)) C.1 C.2.1 dX7_record_69 (by decide) ?_
  refine lv_isub C.1 C.2.1 dX7_record_70 ?_
  refine pf_X7_27 hA C hP hS dX7_record_71 (fun H locs hP hS => ?_)
  exact w_X7_record_74 hA C hX _ _ _ _ hf hP hS (lv_sub hl [0] rfl)
set_option maxRecDepth 100000 in
set_option maxHeartbeats 4000000 in
theorem w_X7_record_21 {p : Program} {l : Launch} {e : Env} {s : State} {m : MethodId} {args : Array Value} {below : List Frame} {meth : Method} {c : Code} {D : va_G} {ids : Nat → ClassId} {ad tt : Nat → Nat} {rv : Hp} (hA : adOk ad 59) (C : CX p s m args meth c cX7_record 3 none RX7 D ids) (hX : (ExC tt ad) s s.heap) : ∀ (fu : Nat), ∀ (h : Hp) (r1 : Nat) (x2 : Int32) (H : Heap) (locs : List Loc) (ls : Array Slot), f_X7_record_21 fu h r1 x2 = some rv → wp D (cEC ids ad) ad 59 h H → va_S (inW ad 59) s.heap H locs → isX5 r1 → lv_has ls 3 [(0, .ref (ad 0)), (1, .ref (ad r1)), (2, .int x2)] → W p l e rm_X7_record s m args below meth c H locs 0 0 (MQ below (QW D (cEC ids ad) ad 59 none rv) args s 0 0 (inW ad 59)) (F0 m 21 ls []) := by
  intro fu
  induction fu with
  | zero =>
    intro h r1 x2 H locs ls hf hP hS hr1 hl
    cases hf
  | succ fu ih =>
    intro h r1 x2 H locs ls hf hP hS hr1 hl
    rw [f_X7_record_21_s] at hf
    refine lv_iload_n C.1 C.2.1 dX7_record_21 rfl (lv_at hl 2 rfl) ?_
    refine lv_aload_n C.1 C.2.1 dX7_record_22 rfl (lv_at hl 0 rfl) ?_
    refine gf_X7_23 C hP dX7_record_23 ?_
    refine ln_aSt C hP dX7_record_26 ?_
    refine lv_icmp_ge (tgt := 50) C.1 C.2.1 dX7_record_27 (by decide) (fun hc => ?_) (fun hc => ?_)
    · have hf := g_t hc hf
      refine lv_aload_n C.1 C.2.1 dX7_record_50 rfl (lv_at hl 0 rfl) ?_
      refine gf_X7_23 C hP dX7_record_51 ?_
      refine lv_aload_n C.1 C.2.1 dX7_record_54 rfl (lv_at hl 0 rfl) ?_
      refine gf_X7_23 C hP dX7_record_55 ?_
      refine ln_aSt C hP dX7_record_58 ?_
      refine lv_iconst (v := (1 : Int32)) C.1 C.2.1 dX7_record_59 (by decide) ?_
      refine lv_isub C.1 C.2.1 dX7_record_60 ?_
      refine lv_aload_n C.1 C.2.1 dX7_record_61 rfl (lv_at hl 1 rfl) ?_
      obtain ⟨hg, hf⟩ := g_if hf
      obtain ⟨hh, hf⟩ := g_if hf
      refine rs_aSt2 hA C hr1 hh hP hS hg dX7_record_62 (fun H locs hP hS => ?_)
      exact w_X7_record_63 hA C hX _ _ _ _ hf hP hS (lv_sub hl [0] rfl)
    · have hf := g_f hc hf
      refine lv_aload_n C.1 C.2.1 dX7_record_30 rfl (lv_at hl 0 rfl) ?_
      refine gf_X7_23 C hP dX7_record_31 ?_
      refine lv_iload_n C.1 C.2.1 dX7_record_34 rfl (lv_at hl 2 rfl) ?_
      refine lv_iconst (v := (1 : Int32)) C.1 C.2.1 dX7_record_35 (by decide) ?_
      refine lv_isub C.1 C.2.1 dX7_record_36 ?_
      refine lv_aload_n C.1 C.2.1 dX7_record_37 rfl (lv_at hl 0 rfl) ?_
      refine gf_X7_23 C hP dX7_record_38 ?_
      refine lv_iload_n C.1 C.2.1 dX7_record_41 rfl (lv_at hl 2 rfl) ?_
      obtain ⟨hg1, hf⟩ := g_if hf
      obtain ⟨hg2, hf⟩ := g_if hf
      refine rl_aSt C hP hg1 dX7_record_42 ?_
      obtain ⟨hg, hf⟩ := g_if hf
      refine rs_aSt hA C ((hi_el hg2)) hP hS hg dX7_record_43 (fun H locs hP hS => ?_)
      refine lv_iinc (v := (x2 + 1)) (lv' := [(2, .int (x2 + 1)), (0, .ref (ad 0)), (1, .ref (ad r1))]) C.1 C.2.1 dX7_record_44 hl (k := 2) rfl (by rfl) (by decide) rfl (fun ls hl => ?_)
      refine lv_goto (tgt := 21) C.1 C.2.1 dX7_record_47 (by decide) ?_
      exact ih _ _ _ _ _ _ hf hP hS hr1 (lv_sub hl [1, 2, 0] rfl)
set_option maxRecDepth 100000 in
set_option maxHeartbeats 4000000 in
theorem w_X7_record {p : Program} {l : Launch} {e : Env} {s : State} {m : MethodId} {args : Array Value} {below : List Frame} {meth : Method} {c : Code} {D : va_G} {ids : Nat → ClassId} {ad tt : Nat → Nat} {rv : Hp} (hA : adOk ad 59) (C : CX p s m args meth c cX7_record 3 none RX7 D ids) (hX : (ExC tt ad) s s.heap) : ∀ (h : Hp) (H : Heap) (locs : List Loc) (ls : Array Slot), f_X7_record h = some rv → wp D (cEC ids ad) ad 59 h H → va_S (inW ad 59) s.heap H locs → lv_has ls 3 [(0, .ref (ad 0))] → W p l e rm_X7_record s m args below meth c H locs 0 0 (MQ below (QW D (cEC ids ad) ad 59 none rv) args s 0 0 (inW ad 59)) (F0 m 0 ls []) := by
  intro h H locs ls hf hP hS hl
  unfold f_X7_record at hf
  refine lv_aload_n C.1 C.2.1 dX7_record_0 rfl (lv_at hl 0 rfl) ?_
  refine gf_X7_27 C hP dX7_record_1 ?_
  refine lv_aload_n C.1 C.2.1 dX7_record_4 rfl (lv_at hl 0 rfl) ?_
  refine gf_X7_23 C hP dX7_record_5 ?_
  refine ln_aSt C hP dX7_record_8 ?_
  refine lv_icmp_lt (tgt := 74) C.1 C.2.1 dX7_record_9 (by decide) (fun hc => ?_) (fun hc => ?_)
  · have hf := g_t hc hf
    exact w_X7_record_74 hA C hX _ _ _ _ hf hP hS (lv_sub hl [0] rfl)
  · have hf := g_f hc hf
    refine lv_aload_n C.1 C.2.1 dX7_record_12 rfl (lv_at hl 0 rfl) ?_
    refine gf_X7_23 C hP dX7_record_13 ?_
    refine lv_iconst (v := (0 : Int32)) C.1 C.2.1 dX7_record_16 (by decide) ?_
    obtain ⟨hg1, hf⟩ := g_if hf
    obtain ⟨hg2, hf⟩ := g_if hf
    refine rl_aSt C hP hg1 dX7_record_17 ?_
    refine lv_astore_n (lv' := [(1, .ref (ad (11 + 5 * (h 36 (0 : Int32).toNatClampNeg).toNatClampNeg))), (0, .ref (ad 0))]) C.1 C.2.1 dX7_record_18 rfl hl (by decide) rfl (fun ls hl => ?_)
    refine lv_iconst (v := (1 : Int32)) C.1 C.2.1 dX7_record_19 (by decide) ?_
    refine lv_istore_n (lv' := [(2, .int (1 : Int32)), (1, .ref (ad (11 + 5 * (h 36 (0 : Int32).toNatClampNeg).toNatClampNeg))), (0, .ref (ad 0))]) C.1 C.2.1 dX7_record_20 rfl hl (by decide) rfl (fun ls hl => ?_)
    exact w_X7_record_21 hA C hX _ _ _ _ _ _ _ hf hP hS (hi_el hg2) (lv_sub hl [2, 1, 0] rfl)
theorem c_X7_record (l : Launch) (D : va_G) (ids : Nat → ClassId) (ad tt : Nat → Nat) (hA : adOk ad 59) {h : Hp} {rv : Hp} (hf : f_X7_record h = some rv) : Met l yX7_record (ws_ yX7_record cX7_record 3 none) rm_X7_record (va_Pc [.ref (ad 0)] (WB D ids (cEC ids ad) ad 59 (ExC tt ad) h)) (QW D (cEC ids ad) ad 59 none rv) 0 0 (inW ad 59) :=
  u_met (own := RX7) (by decide) rfl (Nat.le_of_ble_eq_true rfl) rfl (fun p e s m args below meth c H ls C hX hP hS hl => w_X7_record (tt := tt) hA C hX _ _ _ _ hf hP hS hl)
abbrev rm_X2_change : Room := { frames := 0, cells := 0, slots := 0, locals := 0 }
set_option maxRecDepth 100000 in
set_option maxHeartbeats 4000000 in
theorem w_X2_change_45 {p : Program} {l : Launch} {e : Env} {s : State} {m : MethodId} {args : Array Value} {below : List Frame} {meth : Method} {c : Code} {D : va_G} {ids : Nat → ClassId} {ad tt : Nat → Nat} {rv : Hp} (hA : adOk ad 59) (C : CX p s m args meth c cX2_change 3 none RX2 D ids) (hX : (ExC tt ad) s s.heap) {k : Nat} (hk : isX2 k) : ∀ (h : Hp) (H : Heap) (locs : List Loc) (ls : Array Slot), f_X2_change_45 k h = some rv → wp D (cEC ids ad) ad 59 h H → va_S (inW ad 59) s.heap H locs → lv_has ls 3 [] → W p l e rm_X2_change s m args below meth c H locs 0 0 (MQ below (QW D (cEC ids ad) ad 59 none rv) args s 0 0 (inW ad 59)) (F0 m 45 ls []) := by
  intro h H locs ls hf hP hS hl
  unfold f_X2_change_45 at hf
  refine lv_goto (tgt := 64) C.1 C.2.1 dX2_change_45 (by decide) ?_
  obtain rfl := Option.some.inj hf
  exact u_vret C hP hS dX2_change_64
set_option maxRecDepth 100000 in
set_option maxHeartbeats 4000000 in
theorem w_X2_change_61 {p : Program} {l : Launch} {e : Env} {s : State} {m : MethodId} {args : Array Value} {below : List Frame} {meth : Method} {c : Code} {D : va_G} {ids : Nat → ClassId} {ad tt : Nat → Nat} {rv : Hp} (hA : adOk ad 59) (C : CX p s m args meth c cX2_change 3 none RX2 D ids) (hX : (ExC tt ad) s s.heap) {k : Nat} (hk : isX2 k) : ∀ (h : Hp) (H : Heap) (locs : List Loc) (ls : Array Slot), f_X2_change_61 k h = some rv → wp D (cEC ids ad) ad 59 h H → va_S (inW ad 59) s.heap H locs → lv_has ls 3 [] → W p l e rm_X2_change s m args below meth c H locs 0 0 (MQ below (QW D (cEC ids ad) ad 59 none rv) args s 0 0 (inW ad 59)) (F0 m 61 ls []) := by
  intro h H locs ls hf hP hS hl
  unfold f_X2_change_61 at hf
  refine lv_goto (tgt := 64) C.1 C.2.1 dX2_change_61 (by decide) ?_
  obtain rfl := Option.some.inj hf
  exact u_vret C hP hS dX2_change_64
set_option maxRecDepth 100000 in
set_option maxHeartbeats 4000000 in
theorem w_X2_change {p : Program} {l : Launch} {e : Env} {s : State} {m : MethodId} {args : Array Value} {below : List Frame} {meth : Method} {c : Code} {D : va_G} {ids : Nat → ClassId} {ad tt : Nat → Nat} {rv : Hp} (hA : adOk ad 59) (C : CX p s m args meth c cX2_change 3 none RX2 D ids) (hX : (ExC tt ad) s s.heap) {k : Nat} (hk : isX2 k) : ∀ (h : Hp) (a1 : Int32) (a2 : Int32) (H : Heap) (locs : List Loc) (ls : Array Slot), f_X2_change h k a1 a2 = some rv → wp D (cEC ids ad) ad 59 h H → va_S (inW ad 59) s.heap H locs → lv_has ls 3 [(0, .ref (ad k)), (1, .int a1), (2, .int a2)] → W p l e rm_X2_change s m args below meth c H locs 0 0 (MQ below (QW D (cEC ids ad) ad 59 none rv) args s 0 0 (inW ad 59)) (F0 m 0 ls []) := by
  intro h a1 a2 H locs ls hf hP hS hl
  unfold f_X2_change at hf
  refine lv_iload_n C.1 C.2.1 dX2_change_0 rfl (lv_at hl 1 rfl) ?_
  by_cases hc0 : a1 = 0
  · have hf := g_t hc0 hf
    refine lv_tableIn (off := 31) (tgt := 32) C.1 C.2.1 dX2_change_1 (by rw [hc0]; decide) (by rw [hc0]; decide) (by rw [hc0]; rfl) (by decide) ?_
    refine lv_aload_n C.1 C.2.1 dX2_change_32 rfl (lv_at hl 0 rfl) ?_
    refine lv_iload_n C.1 C.2.1 dX2_change_33 rfl (lv_at hl 2 rfl) ?_
    refine pf_X2_36 hA C hk hP hS dX2_change_34 (fun H locs hP hS => ?_)
    refine lv_goto (tgt := 64) C.1 C.2.1 dX2_change_37 (by decide) ?_
    obtain rfl := Option.some.inj hf
    exact u_vret C hP hS dX2_change_64
  · have hf := g_f hc0 hf
    by_cases hc1 : a1 = 1
    · have hf := g_t hc1 hf
      refine lv_tableIn (off := 39) (tgt := 40) C.1 C.2.1 dX2_change_1 (by rw [hc1]; decide) (by rw [hc1]; decide) (by rw [hc1]; rfl) (by decide) ?_
      refine lv_aload_n C.1 C.2.1 dX2_change_40 rfl (lv_at hl 0 rfl) ?_
      refine lv_iload_n C.1 C.2.1 dX2_change_41 rfl (lv_at hl 2 rfl) ?_
      refine pf_X2_9 hA C hk hP hS dX2_change_42 (fun H locs hP hS => ?_)
      exact w_X2_change_45 hA C hX hk _ _ _ _ hf hP hS (lv_sub hl [] rfl)
    · have hf := g_f hc1 hf
      by_cases hc2 : a1 = 2
      · have hf := g_t hc2 hf
        refine lv_tableIn (off := 47) (tgt := 48) C.1 C.2.1 dX2_change_1 (by rw [hc2]; decide) (by rw [hc2]; decide) (by rw [hc2]; rfl) (by decide) ?_
        refine lv_aload_n C.1 C.2.1 dX2_change_48 rfl (lv_at hl 0 rfl) ?_
        refine lv_iload_n C.1 C.2.1 dX2_change_49 rfl (lv_at hl 2 rfl) ?_
        refine pf_X2_15 hA C hk hP hS dX2_change_50 (fun H locs hP hS => ?_)
        refine lv_goto (tgt := 64) C.1 C.2.1 dX2_change_53 (by decide) ?_
        obtain rfl := Option.some.inj hf
        exact u_vret C hP hS dX2_change_64
      · have hf := g_f hc2 hf
        by_cases hc3 : a1 = 3
        · have hf := g_t hc3 hf
          refine lv_tableIn (off := 55) (tgt := 56) C.1 C.2.1 dX2_change_1 (by rw [hc3]; decide) (by rw [hc3]; decide) (by rw [hc3]; rfl) (by decide) ?_
          refine lv_aload_n C.1 C.2.1 dX2_change_56 rfl (lv_at hl 0 rfl) ?_
          refine lv_iload_n C.1 C.2.1 dX2_change_57 rfl (lv_at hl 2 rfl) ?_
          refine pf_X2_39 hA C hk hP hS dX2_change_58 (fun H locs hP hS => ?_)
          exact w_X2_change_61 hA C hX hk _ _ _ _ hf hP hS (lv_sub hl [] rfl)
        · have hf := g_f hc3 hf
          have hsw : a1.toInt < 0 ∨ 3 < a1.toInt := by
            have zhc0 := lv_neT hc0 (show (0 : Int32).toInt = 0 by decide)
            have zhc1 := lv_neT hc1 (show (1 : Int32).toInt = 1 by decide)
            have zhc2 := lv_neT hc2 (show (2 : Int32).toInt = 2 by decide)
            have zhc3 := lv_neT hc3 (show (3 : Int32).toInt = 3 by decide)
            omega
          refine lv_tableOut (tgt := 64) C.1 C.2.1 dX2_change_1 hsw (by decide) ?_
          obtain rfl := Option.some.inj hf
          exact u_vret C hP hS dX2_change_64
theorem c_X2_change (l : Launch) (D : va_G) (ids : Nat → ClassId) (ad tt : Nat → Nat) (hA : adOk ad 59) {k : Nat} (hk : isX2 k) {a1 : Int32} {a2 : Int32} {h : Hp} {rv : Hp} (hf : f_X2_change h k a1 a2 = some rv) : Met l yX2_change (ws_ yX2_change cX2_change 3 none) rm_X2_change (va_Pc [.ref (ad k), .int a1, .int a2] (WB D ids (cEC ids ad) ad 59 (ExC tt ad) h)) (QW D (cEC ids ad) ad 59 none rv) 0 0 (inW ad 59) :=
  u_met (own := RX2) (by decide) rfl (Nat.le_of_ble_eq_true rfl) rfl (fun p e s m args below meth c H ls C hX hP hS hl => w_X2_change (tt := tt) hA C hX hk _ _ _ _ _ _ hf hP hS hl)
theorem cv_X7_59 {p : Program} {l : Launch} {e : Env} {R : Room} {s : State} {m : MethodId} {args : Array Value} {below : List Frame} {meth : Method} {c : Code} {H : Heap} {locs : List Loc} {Q : State → Prop} {cc : ByteArray} {nL : Nat} {ret : Option FieldType} {pc : Nat} {ls : Array Slot} {rest : List Value} {D : va_G} {ids : Nat → ClassId} {ad tt : Nat → Nat} {h : Hp} (hA : adOk ad 59) (C : CX p s m args meth c cc nL ret RX7 D ids) (hX : (ExC tt ad) s s.heap) (hP : wp D (cEC ids ad) ad 59 h H) (hS : va_S (inW ad 59) s.heap H locs) {a1 : Int32} {a2 : Int32} {rv : Int32 × Hp} (hf : f_X7_isValueOfCaptain h a1 a2 = some rv) (hR : 1 + 1 ≤ R.frames ∧ 8 + (2 + 11) + 23 ≤ R.locals) (hsz : ls.size = nL) (hcat : (rest.map fun v => v.category).sum ≤ 8) (hdg : decode cc pc = .ok (.invokestatic 59, 3)) (kk : ∀ (H1 : Heap) (locs1 : List Loc), wp D (cEC ids ad) ad 59 rv.2 H1 → va_S (inW ad 59) s.heap H1 locs1 → W p l e R s m args below meth c H1 locs1 0 0 Q (F0 m (pc + 3) ls (.int rv.1 :: rest))) : W p l e R s m args below meth c H locs 0 0 Q (F0 m pc ls (.int a2 :: .int a1 :: rest)) :=
  u_callS (As := [.int a1, .int a2]) (rv := (some (.int rv.1))) C (exC_ok hA) hX (c_X7_isValueOfCaptain l D ids ad tt hA hf) q_229 q_230 q_2 q_231 ⟨rfl, rfl⟩ (by refine ⟨by decide +kernel, by decide +kernel, ?_⟩; show _ = some 2; decide +kernel) hR hP hS hsz hcat rfl hdg kk
theorem cv_X7_73 {p : Program} {l : Launch} {e : Env} {R : Room} {s : State} {m : MethodId} {args : Array Value} {below : List Frame} {meth : Method} {c : Code} {H : Heap} {locs : List Loc} {Q : State → Prop} {cc : ByteArray} {nL : Nat} {ret : Option FieldType} {pc : Nat} {ls : Array Slot} {rest : List Value} {D : va_G} {ids : Nat → ClassId} {ad tt : Nat → Nat} {h : Hp} (hA : adOk ad 59) (C : CX p s m args meth c cc nL ret RX7 D ids) (hX : (ExC tt ad) s s.heap) (hP : wp D (cEC ids ad) ad 59 h H) (hS : va_S (inW ad 59) s.heap H locs) {rv : Hp} (hf : f_X7_record h = some rv) (hR : 2 + 1 ≤ R.frames ∧ 8 + (3 + 11) + 43 ≤ R.locals) (hsz : ls.size = nL) (hcat : (rest.map fun v => v.category).sum ≤ 8) (hdg : decode cc pc = .ok (.invokevirtual 73, 3)) (kk : ∀ (H1 : Heap) (locs1 : List Loc), wp D (cEC ids ad) ad 59 rv H1 → va_S (inW ad 59) s.heap H1 locs1 → W p l e R s m args below meth c H1 locs1 0 0 Q (F0 m (pc + 3) ls (rest))) : W p l e R s m args below meth c H locs 0 0 Q (F0 m pc ls (.ref (ad 0) :: rest)) :=
  u_callV (As := []) (rv := none) C (exC_ok hA) hX (c_X7_record l D ids ad tt hA hf) q_237 q_238 q_239 q_2 q_240 ⟨rfl, rfl⟩ (by refine ⟨by decide +kernel, by decide +kernel, ?_⟩; show _ = some 0; decide +kernel) hR (by decide) (cE_X7 _) rfl hP hS hsz hcat rfl hdg kk
theorem cv_X7_76 {p : Program} {l : Launch} {e : Env} {R : Room} {s : State} {m : MethodId} {args : Array Value} {below : List Frame} {meth : Method} {c : Code} {H : Heap} {locs : List Loc} {Q : State → Prop} {cc : ByteArray} {nL : Nat} {ret : Option FieldType} {pc : Nat} {ls : Array Slot} {rest : List Value} {D : va_G} {ids : Nat → ClassId} {ad tt : Nat → Nat} {h : Hp} (hA : adOk ad 59) (C : CX p s m args meth c cc nL ret RX7 D ids) (hX : (ExC tt ad) s s.heap) (hP : wp D (cEC ids ad) ad 59 h H) (hS : va_S (inW ad 59) s.heap H locs) {k : Nat} (hk : isX2 k) {a1 : Int32} {a2 : Int32} {rv : Hp} (hf : f_X2_change h k a1 a2 = some rv) (hR : 0 + 1 ≤ R.frames ∧ 8 + (3 + 11) + 0 ≤ R.locals) (hsz : ls.size = nL) (hcat : (rest.map fun v => v.category).sum ≤ 8) (hdg : decode cc pc = .ok (.invokevirtual 76, 3)) (kk : ∀ (H1 : Heap) (locs1 : List Loc), wp D (cEC ids ad) ad 59 rv H1 → va_S (inW ad 59) s.heap H1 locs1 → W p l e R s m args below meth c H1 locs1 0 0 Q (F0 m (pc + 3) ls (rest))) : W p l e R s m args below meth c H locs 0 0 Q (F0 m pc ls (.int a2 :: .int a1 :: .ref (ad k) :: rest)) :=
  u_callV (As := [.int a1, .int a2]) (rv := none) C (exC_ok hA) hX (c_X2_change l D ids ad tt hA hk hf) q_249 q_250 q_251 q_35 q_252 ⟨rfl, rfl⟩ (by refine ⟨by decide +kernel, by decide +kernel, ?_⟩; show _ = some 2; decide +kernel) hR (lt_X2 hk) (cE_X2 hk _) rfl hP hS hsz hcat rfl hdg kk
abbrev rm_X7_captain : Room := { frames := 3, cells := 0, slots := 0, locals := 65 }
set_option maxRecDepth 100000 in
set_option maxHeartbeats 4000000 in
theorem w_X7_captain {p : Program} {l : Launch} {e : Env} {s : State} {m : MethodId} {args : Array Value} {below : List Frame} {meth : Method} {c : Code} {D : va_G} {ids : Nat → ClassId} {ad tt : Nat → Nat} {rv : Int32 × Hp} (hA : adOk ad 59) (C : CX p s m args meth c cX7_captain 5 (some .int) RX7 D ids) (hX : (ExC tt ad) s s.heap) : ∀ (h : Hp) (a1 : Int32) (a2 : Int32) (a3 : Int32) (H : Heap) (locs : List Loc) (ls : Array Slot), f_X7_captain h a1 a2 a3 = some rv → wp D (cEC ids ad) ad 59 h H → va_S (inW ad 59) s.heap H locs → lv_has ls 5 [(0, .ref (ad 0)), (1, .int a1), (2, .int a2), (3, .int a3)] → W p l e rm_X7_captain s m args below meth c H locs 0 0 (MQ below (QW D (cEC ids ad) ad 59 (some (.int rv.1)) rv.2) args s 0 0 (inW ad 59)) (F0 m 0 ls []) := by
  intro h a1 a2 a3 H locs ls hf hP hS hl
  unfold f_X7_captain at hf
  refine lv_iload_n C.1 C.2.1 dX7_captain_0 rfl (lv_at hl 1 rfl) ?_
  obtain ⟨q1, eq1, hf⟩ := g_b hf
  refine cv_X7_55 hA C hX hP hS eq1 ⟨Nat.le_of_ble_eq_true rfl, Nat.le_of_ble_eq_true rfl⟩ hl.1 (Nat.le_of_ble_eq_true rfl) dX7_captain_1 (fun H locs hP hS => ?_)
  refine lv_if_ne (tgt := 9) C.1 C.2.1 dX7_captain_4 (by decide) (fun hc => ?_) (fun hc => ?_)
  · have hf := g_f hc hf
    refine lv_iload_n C.1 C.2.1 dX7_captain_9 rfl (lv_at hl 2 rfl) ?_
    refine lv_iload_n C.1 C.2.1 dX7_captain_10 rfl (lv_at hl 3 rfl) ?_
    obtain ⟨q2, eq2, hf⟩ := g_b hf
    refine cv_X7_59 hA C hX hP hS eq2 ⟨Nat.le_of_ble_eq_true rfl, Nat.le_of_ble_eq_true rfl⟩ hl.1 (Nat.le_of_ble_eq_true rfl) dX7_captain_11 (fun H locs hP hS => ?_)
    refine lv_if_ne (tgt := 20) C.1 C.2.1 dX7_captain_14 (by decide) (fun hc => ?_) (fun hc => ?_)
    · have hf := g_f hc hf
      refine lv_aload_n C.1 C.2.1 dX7_captain_20 rfl (lv_at hl 0 rfl) ?_
      refine gf_X7_12 C hP dX7_captain_21 ?_
      refine gf_X7_63 C pX5_1 hP dX7_captain_24 ?_
      refine lv_iload_n C.1 C.2.1 dX7_captain_27 rfl (lv_at hl 1 rfl) ?_
      obtain ⟨hg3, hf⟩ := g_if hf
      refine rl_aCap C (cap_of pX5_1) hP hg3 dX7_captain_28 ?_
      refine lv_iload_n C.1 C.2.1 dX7_captain_29 rfl (lv_at hl 2 rfl) ?_
      obtain ⟨q4, eq4, hf⟩ := g_b hf
      refine cv_X7_67 hA C hX hP hS (cp_el (cap_of pX5_1) hg3) eq4 ⟨Nat.le_of_ble_eq_true rfl, Nat.le_of_ble_eq_true rfl⟩ hl.1 (Nat.le_of_ble_eq_true rfl) dX7_captain_30 (fun H locs hP hS => ?_)
      refine lv_istore (lv' := [(4, .int q4.1), (0, .ref (ad 0)), (1, .int a1), (2, .int a2), (3, .int a3)]) C.1 C.2.1 dX7_captain_33 hl (by decide) rfl (fun ls hl => ?_)
      refine lv_iload C.1 C.2.1 dX7_captain_35 (lv_at hl 0 rfl) ?_
      refine lv_iload_n C.1 C.2.1 dX7_captain_37 rfl (lv_at hl 4 rfl) ?_
      refine lv_icmp_ne (tgt := 44) C.1 C.2.1 dX7_captain_38 (by decide) (fun hc => ?_) (fun hc => ?_)
      · have hf := g_f hc hf
        refine lv_aload_n C.1 C.2.1 dX7_captain_44 rfl (lv_at hl 1 rfl) ?_
        obtain ⟨q5, eq5, hf⟩ := g_b hf
        refine cv_X7_73 hA C hX hP hS eq5 ⟨Nat.le_of_ble_eq_true rfl, Nat.le_of_ble_eq_true rfl⟩ hl.1 (Nat.le_of_ble_eq_true rfl) dX7_captain_45 (fun H locs hP hS => ?_)
        refine lv_aload_n C.1 C.2.1 dX7_captain_48 rfl (lv_at hl 1 rfl) ?_
        refine gf_X7_12 C hP dX7_captain_49 ?_
        refine gf_X7_63 C pX5_1 hP dX7_captain_52 ?_
        refine lv_iload_n C.1 C.2.1 dX7_captain_55 rfl (lv_at hl 2 rfl) ?_
        obtain ⟨hg6, hf⟩ := g_if hf
        refine rl_aCap C (cap_of pX5_1) hP hg6 dX7_captain_56 ?_
        refine lv_iload_n C.1 C.2.1 dX7_captain_57 rfl (lv_at hl 3 rfl) ?_
        refine lv_iload_n C.1 C.2.1 dX7_captain_58 rfl (lv_at hl 4 rfl) ?_
        obtain ⟨q7, eq7, hf⟩ := g_b hf
        refine cv_X7_76 hA C hX hP hS (cp_el (cap_of pX5_1) hg6) eq7 ⟨Nat.le_of_ble_eq_true rfl, Nat.le_of_ble_eq_true rfl⟩ hl.1 (Nat.le_of_ble_eq_true rfl) dX7_captain_59 (fun H locs hP hS => ?_)
        refine lv_iload C.1 C.2.1 dX7_captain_62 (lv_at hl 0 rfl) ?_
        obtain rfl := Option.some.inj hf
        exact u_iret C hP hS dX7_captain_64
      · have hf := g_t hc hf
        refine lv_bipush (v := (-5 : Int32)) C.1 C.2.1 dX7_captain_41 (by decide) ?_
        obtain rfl := Option.some.inj hf
        exact u_iret C hP hS dX7_captain_43
    · have hf := g_t hc hf
      refine lv_bipush (v := (-2 : Int32)) C.1 C.2.1 dX7_captain_17 (by decide) ?_
      obtain rfl := Option.some.inj hf
      exact u_iret C hP hS dX7_captain_19
  · have hf := g_t hc hf
    refine lv_iconst (v := (-1 : Int32)) C.1 C.2.1 dX7_captain_7 (by decide) ?_
    obtain rfl := Option.some.inj hf
    exact u_iret C hP hS dX7_captain_8
theorem c_X7_captain (l : Launch) (D : va_G) (ids : Nat → ClassId) (ad tt : Nat → Nat) (hA : adOk ad 59) {a1 : Int32} {a2 : Int32} {a3 : Int32} {h : Hp} {rv : Int32 × Hp} (hf : f_X7_captain h a1 a2 a3 = some rv) : Met l yX7_captain (ws_ yX7_captain cX7_captain 5 (some .int)) rm_X7_captain (va_Pc [.ref (ad 0), .int a1, .int a2, .int a3] (WB D ids (cEC ids ad) ad 59 (ExC tt ad) h)) (QW D (cEC ids ad) ad 59 (some (.int rv.1)) rv.2) 0 0 (inW ad 59) :=
  u_met (own := RX7) (by decide) rfl (Nat.le_of_ble_eq_true rfl) rfl (fun p e s m args below meth c H ls C hX hP hS hl => w_X7_captain (tt := tt) hA C hX _ _ _ _ _ _ _ hf hP hS hl)
theorem pf_X7_91 {p : Program} {l : Launch} {e : Env} {R : Room} {s : State} {m : MethodId} {args : Array Value} {below : List Frame} {meth : Method} {c : Code} {H : Heap} {locs : List Loc} {cells slots : Nat} {Q : State → Prop} {cc : ByteArray} {nL : Nat} {ret : Option FieldType} {pc : Nat} {ls : Array Slot} {rest : List Value} {D : va_G} {ids : Nat → ClassId} {ad : Nat → Nat} {h : Hp} {x : Int32} (hA : adOk ad 59) (C : CX p s m args meth c cc nL ret RX7 D ids) {k : Nat} (hk : isX5 k) (hP : wp D (cEC ids ad) ad 59 h H) (hS : va_S (inW ad 59) s.heap H locs) (hdg : decode cc pc = .ok (.putfield 91, 3)) (kk : ∀ (H1 : Heap) (locs1 : List Loc), wp D (cEC ids ad) ad 59 (hs h k 3 x) H1 → va_S (inW ad 59) s.heap H1 locs1 → W p l e R s m args below meth c H1 locs1 cells slots Q (F0 m (pc + 3) ls rest)) : W p l e R s m args below meth c H locs cells slots Q (F0 m pc ls (.int x :: .ref (ad k) :: rest)) :=
  u_put hA C hP hS (lt_X5 hk) (cE_X5 hk) rfl inX5 tyX5 tyX5_ok nmX5 3 (by decide) rfl q_120 rfl (ty := .int) rfl rfl rfl hdg kk
abbrev rm_X7_truth : Room := { frames := 3, cells := 0, slots := 0, locals := 65 }
set_option maxRecDepth 100000 in
set_option maxHeartbeats 4000000 in
theorem w_X7_truth {p : Program} {l : Launch} {e : Env} {s : State} {m : MethodId} {args : Array Value} {below : List Frame} {meth : Method} {c : Code} {D : va_G} {ids : Nat → ClassId} {ad tt : Nat → Nat} {rv : Int32 × Hp} (hA : adOk ad 59) (C : CX p s m args meth c cX7_truth 3 (some .int) RX7 D ids) (hX : (ExC tt ad) s s.heap) : ∀ (h : Hp) (a1 : Int32) (H : Heap) (locs : List Loc) (ls : Array Slot), f_X7_truth h a1 = some rv → wp D (cEC ids ad) ad 59 h H → va_S (inW ad 59) s.heap H locs → lv_has ls 3 [(0, .ref (ad 0)), (1, .int a1)] → W p l e rm_X7_truth s m args below meth c H locs 0 0 (MQ below (QW D (cEC ids ad) ad 59 (some (.int rv.1)) rv.2) args s 0 0 (inW ad 59)) (F0 m 0 ls []) := by
  intro h a1 H locs ls hf hP hS hl
  unfold f_X7_truth at hf
  refine lv_iload_n C.1 C.2.1 dX7_truth_0 rfl (lv_at hl 1 rfl) ?_
  refine lv_if_lt (tgt := 10) C.1 C.2.1 dX7_truth_1 (by decide) (fun hc => ?_) (fun hc => ?_)
  · have hf := g_t hc hf
    refine lv_bipush (v := (-2 : Int32)) C.1 C.2.1 dX7_truth_10 (by decide) ?_
    obtain rfl := Option.some.inj hf
    exact u_iret C hP hS dX7_truth_12
  · have hf := g_f hc hf
    refine lv_iload_n C.1 C.2.1 dX7_truth_4 rfl (lv_at hl 1 rfl) ?_
    refine lv_bipush (v := (12 : Int32)) C.1 C.2.1 dX7_truth_5 (by decide) ?_
    refine lv_icmp_lt (tgt := 13) C.1 C.2.1 dX7_truth_7 (by decide) (fun hc => ?_) (fun hc => ?_)
    · have hf := g_t hc hf
      refine lv_aload_n C.1 C.2.1 dX7_truth_13 rfl (lv_at hl 0 rfl) ?_
      refine gf_X7_12 C hP dX7_truth_14 ?_
      refine gf_X7_91 C pX5_1 hP dX7_truth_17 ?_
      refine lv_istore_n (lv' := [(2, .int (h 1 3)), (0, .ref (ad 0)), (1, .int a1)]) C.1 C.2.1 dX7_truth_20 rfl hl (by decide) rfl (fun ls hl => ?_)
      refine lv_iload_n C.1 C.2.1 dX7_truth_21 rfl (lv_at hl 0 rfl) ?_
      refine lv_iload_n C.1 C.2.1 dX7_truth_22 rfl (lv_at hl 2 rfl) ?_
      refine lv_icmp_ne (tgt := 29) C.1 C.2.1 dX7_truth_23 (by decide) (fun hc => ?_) (fun hc => ?_)
      · have hf := g_f hc hf
        refine lv_aload_n C.1 C.2.1 dX7_truth_29 rfl (lv_at hl 1 rfl) ?_
        obtain ⟨q1, eq1, hf⟩ := g_b hf
        refine cv_X7_73 hA C hX hP hS eq1 ⟨Nat.le_of_ble_eq_true rfl, Nat.le_of_ble_eq_true rfl⟩ hl.1 (Nat.le_of_ble_eq_true rfl) dX7_truth_30 (fun H locs hP hS => ?_)
        refine lv_aload_n C.1 C.2.1 dX7_truth_33 rfl (lv_at hl 1 rfl) ?_
        refine gf_X7_12 C hP dX7_truth_34 ?_
        refine lv_iload_n C.1 C.2.1 dX7_truth_37 rfl (lv_at hl 2 rfl) ?_
        refine pf_X7_91 hA C pX5_1 hP hS dX7_truth_38 (fun H locs hP hS => ?_)
        refine lv_iload_n C.1 C.2.1 dX7_truth_41 rfl (lv_at hl 0 rfl) ?_
        obtain rfl := Option.some.inj hf
        exact u_iret C hP hS dX7_truth_42
      · have hf := g_t hc hf
        refine lv_bipush (v := (-5 : Int32)) C.1 C.2.1 dX7_truth_26 (by decide) ?_
        obtain rfl := Option.some.inj hf
        exact u_iret C hP hS dX7_truth_28
    · have hf := g_f hc hf
      refine lv_bipush (v := (-2 : Int32)) C.1 C.2.1 dX7_truth_10 (by decide) ?_
      obtain rfl := Option.some.inj hf
      exact u_iret C hP hS dX7_truth_12
theorem c_X7_truth (l : Launch) (D : va_G) (ids : Nat → ClassId) (ad tt : Nat → Nat) (hA : adOk ad 59) {a1 : Int32} {h : Hp} {rv : Int32 × Hp} (hf : f_X7_truth h a1 = some rv) : Met l yX7_truth (ws_ yX7_truth cX7_truth 3 (some .int)) rm_X7_truth (va_Pc [.ref (ad 0), .int a1] (WB D ids (cEC ids ad) ad 59 (ExC tt ad) h)) (QW D (cEC ids ad) ad 59 (some (.int rv.1)) rv.2) 0 0 (inW ad 59) :=
  u_met (own := RX7) (by decide) rfl (Nat.le_of_ble_eq_true rfl) rfl (fun p e s m args below meth c H ls C hX hP hS hl => w_X7_truth (tt := tt) hA C hX _ _ _ _ _ hf hP hS hl)
abbrev rm_X5_changeSetting : Room := { frames := 0, cells := 0, slots := 0, locals := 0 }
set_option maxRecDepth 100000 in
set_option maxHeartbeats 4000000 in
theorem w_X5_changeSetting {p : Program} {l : Launch} {e : Env} {s : State} {m : MethodId} {args : Array Value} {below : List Frame} {meth : Method} {c : Code} {D : va_G} {ids : Nat → ClassId} {ad tt : Nat → Nat} {rv : Hp} (hA : adOk ad 59) (C : CX p s m args meth c cX5_changeSetting 3 none RX5 D ids) (hX : (ExC tt ad) s s.heap) {k : Nat} (hk : isX5 k) : ∀ (h : Hp) (a1 : Int32) (a2 : Int32) (H : Heap) (locs : List Loc) (ls : Array Slot), f_X5_changeSetting h k a1 a2 = some rv → wp D (cEC ids ad) ad 59 h H → va_S (inW ad 59) s.heap H locs → lv_has ls 3 [(0, .ref (ad k)), (1, .int a1), (2, .int a2)] → W p l e rm_X5_changeSetting s m args below meth c H locs 0 0 (MQ below (QW D (cEC ids ad) ad 59 none rv) args s 0 0 (inW ad 59)) (F0 m 0 ls []) := by
  intro h a1 a2 H locs ls hf hP hS hl
  unfold f_X5_changeSetting at hf
  refine lv_iload_n C.1 C.2.1 dX5_changeSetting_0 rfl (lv_at hl 1 rfl) ?_
  refine lv_if_ne (tgt := 12) C.1 C.2.1 dX5_changeSetting_1 (by decide) (fun hc => ?_) (fun hc => ?_)
  · have hf := g_f hc hf
    refine lv_aload_n C.1 C.2.1 dX5_changeSetting_12 rfl (lv_at hl 0 rfl) ?_
    refine lv_iload_n C.1 C.2.1 dX5_changeSetting_13 rfl (lv_at hl 2 rfl) ?_
    refine pf_X5_24 hA C hk hP hS dX5_changeSetting_14 (fun H locs hP hS => ?_)
    obtain rfl := Option.some.inj hf
    exact u_vret C hP hS dX5_changeSetting_17
  · have hf := g_t hc hf
    refine lv_aload_n C.1 C.2.1 dX5_changeSetting_4 rfl (lv_at hl 0 rfl) ?_
    refine lv_iload_n C.1 C.2.1 dX5_changeSetting_5 rfl (lv_at hl 2 rfl) ?_
    refine pf_X5_20 hA C hk hP hS dX5_changeSetting_6 (fun H locs hP hS => ?_)
    refine lv_goto (tgt := 17) C.1 C.2.1 dX5_changeSetting_9 (by decide) ?_
    obtain rfl := Option.some.inj hf
    exact u_vret C hP hS dX5_changeSetting_17
theorem c_X5_changeSetting (l : Launch) (D : va_G) (ids : Nat → ClassId) (ad tt : Nat → Nat) (hA : adOk ad 59) {k : Nat} (hk : isX5 k) {a1 : Int32} {a2 : Int32} {h : Hp} {rv : Hp} (hf : f_X5_changeSetting h k a1 a2 = some rv) : Met l yX5_changeSetting (ws_ yX5_changeSetting cX5_changeSetting 3 none) rm_X5_changeSetting (va_Pc [.ref (ad k), .int a1, .int a2] (WB D ids (cEC ids ad) ad 59 (ExC tt ad) h)) (QW D (cEC ids ad) ad 59 none rv) 0 0 (inW ad 59) :=
  u_met (own := RX5) (by decide) rfl (Nat.le_of_ble_eq_true rfl) rfl (fun p e s m args below meth c H ls C hX hP hS hl => w_X5_changeSetting (tt := tt) hA C hX hk _ _ _ _ _ _ hf hP hS hl)
theorem cv_X7_94 {p : Program} {l : Launch} {e : Env} {R : Room} {s : State} {m : MethodId} {args : Array Value} {below : List Frame} {meth : Method} {c : Code} {H : Heap} {locs : List Loc} {Q : State → Prop} {cc : ByteArray} {nL : Nat} {ret : Option FieldType} {pc : Nat} {ls : Array Slot} {rest : List Value} {D : va_G} {ids : Nat → ClassId} {ad tt : Nat → Nat} {h : Hp} (hA : adOk ad 59) (C : CX p s m args meth c cc nL ret RX7 D ids) (hX : (ExC tt ad) s s.heap) (hP : wp D (cEC ids ad) ad 59 h H) (hS : va_S (inW ad 59) s.heap H locs) {a1 : Int32} {a2 : Int32} {rv : Int32 × Hp} (hf : f_X7_isValueOfSetting h a1 a2 = some rv) (hR : 1 + 1 ≤ R.frames ∧ 8 + (2 + 11) + 23 ≤ R.locals) (hsz : ls.size = nL) (hcat : (rest.map fun v => v.category).sum ≤ 8) (hdg : decode cc pc = .ok (.invokestatic 94, 3)) (kk : ∀ (H1 : Heap) (locs1 : List Loc), wp D (cEC ids ad) ad 59 rv.2 H1 → va_S (inW ad 59) s.heap H1 locs1 → W p l e R s m args below meth c H1 locs1 0 0 Q (F0 m (pc + 3) ls (.int rv.1 :: rest))) : W p l e R s m args below meth c H locs 0 0 Q (F0 m pc ls (.int a2 :: .int a1 :: rest)) :=
  u_callS (As := [.int a1, .int a2]) (rv := (some (.int rv.1))) C (exC_ok hA) hX (c_X7_isValueOfSetting l D ids ad tt hA hf) q_261 q_262 q_2 q_263 ⟨rfl, rfl⟩ (by refine ⟨by decide +kernel, by decide +kernel, ?_⟩; show _ = some 2; decide +kernel) hR hP hS hsz hcat rfl hdg kk
theorem cv_X7_100 {p : Program} {l : Launch} {e : Env} {R : Room} {s : State} {m : MethodId} {args : Array Value} {below : List Frame} {meth : Method} {c : Code} {H : Heap} {locs : List Loc} {Q : State → Prop} {cc : ByteArray} {nL : Nat} {ret : Option FieldType} {pc : Nat} {ls : Array Slot} {rest : List Value} {D : va_G} {ids : Nat → ClassId} {ad tt : Nat → Nat} {h : Hp} (hA : adOk ad 59) (C : CX p s m args meth c cc nL ret RX7 D ids) (hX : (ExC tt ad) s s.heap) (hP : wp D (cEC ids ad) ad 59 h H) (hS : va_S (inW ad 59) s.heap H locs) {k : Nat} (hk : isX5 k) {a1 : Int32} {a2 : Int32} {rv : Hp} (hf : f_X5_changeSetting h k a1 a2 = some rv) (hR : 0 + 1 ≤ R.frames ∧ 8 + (3 + 11) + 0 ≤ R.locals) (hsz : ls.size = nL) (hcat : (rest.map fun v => v.category).sum ≤ 8) (hdg : decode cc pc = .ok (.invokevirtual 100, 3)) (kk : ∀ (H1 : Heap) (locs1 : List Loc), wp D (cEC ids ad) ad 59 rv H1 → va_S (inW ad 59) s.heap H1 locs1 → W p l e R s m args below meth c H1 locs1 0 0 Q (F0 m (pc + 3) ls (rest))) : W p l e R s m args below meth c H locs 0 0 Q (F0 m pc ls (.int a2 :: .int a1 :: .ref (ad k) :: rest)) :=
  u_callV (As := [.int a1, .int a2]) (rv := none) C (exC_ok hA) hX (c_X5_changeSetting l D ids ad tt hA hk hf) q_266 q_267 q_268 q_11 q_269 ⟨rfl, rfl⟩ (by refine ⟨by decide +kernel, by decide +kernel, ?_⟩; show _ = some 2; decide +kernel) hR (lt_X5 hk) (cE_X5 hk _) rfl hP hS hsz hcat rfl hdg kk
abbrev rm_X7_set : Room := { frames := 3, cells := 0, slots := 0, locals := 65 }
set_option maxRecDepth 100000 in
set_option maxHeartbeats 4000000 in
theorem w_X7_set {p : Program} {l : Launch} {e : Env} {s : State} {m : MethodId} {args : Array Value} {below : List Frame} {meth : Method} {c : Code} {D : va_G} {ids : Nat → ClassId} {ad tt : Nat → Nat} {rv : Int32 × Hp} (hA : adOk ad 59) (C : CX p s m args meth c cX7_set 4 (some .int) RX7 D ids) (hX : (ExC tt ad) s s.heap) : ∀ (h : Hp) (a1 : Int32) (a2 : Int32) (H : Heap) (locs : List Loc) (ls : Array Slot), f_X7_set h a1 a2 = some rv → wp D (cEC ids ad) ad 59 h H → va_S (inW ad 59) s.heap H locs → lv_has ls 4 [(0, .ref (ad 0)), (1, .int a1), (2, .int a2)] → W p l e rm_X7_set s m args below meth c H locs 0 0 (MQ below (QW D (cEC ids ad) ad 59 (some (.int rv.1)) rv.2) args s 0 0 (inW ad 59)) (F0 m 0 ls []) := by
  intro h a1 a2 H locs ls hf hP hS hl
  unfold f_X7_set at hf
  refine lv_iload_n C.1 C.2.1 dX7_set_0 rfl (lv_at hl 1 rfl) ?_
  refine lv_iload_n C.1 C.2.1 dX7_set_1 rfl (lv_at hl 2 rfl) ?_
  obtain ⟨q1, eq1, hf⟩ := g_b hf
  refine cv_X7_94 hA C hX hP hS eq1 ⟨Nat.le_of_ble_eq_true rfl, Nat.le_of_ble_eq_true rfl⟩ hl.1 (Nat.le_of_ble_eq_true rfl) dX7_set_2 (fun H locs hP hS => ?_)
  refine lv_if_ne (tgt := 11) C.1 C.2.1 dX7_set_5 (by decide) (fun hc => ?_) (fun hc => ?_)
  · have hf := g_f hc hf
    refine lv_aload_n C.1 C.2.1 dX7_set_11 rfl (lv_at hl 0 rfl) ?_
    refine gf_X7_12 C hP dX7_set_12 ?_
    refine lv_iload_n C.1 C.2.1 dX7_set_15 rfl (lv_at hl 1 rfl) ?_
    obtain ⟨q2, eq2, hf⟩ := g_b hf
    refine cv_X7_97 hA C hX hP hS pX5_1 eq2 ⟨Nat.le_of_ble_eq_true rfl, Nat.le_of_ble_eq_true rfl⟩ hl.1 (Nat.le_of_ble_eq_true rfl) dX7_set_16 (fun H locs hP hS => ?_)
    refine lv_istore_n (lv' := [(3, .int q2.1), (0, .ref (ad 0)), (1, .int a1), (2, .int a2)]) C.1 C.2.1 dX7_set_19 rfl hl (by decide) rfl (fun ls hl => ?_)
    refine lv_iload_n C.1 C.2.1 dX7_set_20 rfl (lv_at hl 0 rfl) ?_
    refine lv_iload_n C.1 C.2.1 dX7_set_21 rfl (lv_at hl 3 rfl) ?_
    refine lv_icmp_ne (tgt := 28) C.1 C.2.1 dX7_set_22 (by decide) (fun hc => ?_) (fun hc => ?_)
    · have hf := g_f hc hf
      refine lv_aload_n C.1 C.2.1 dX7_set_28 rfl (lv_at hl 1 rfl) ?_
      obtain ⟨q3, eq3, hf⟩ := g_b hf
      refine cv_X7_73 hA C hX hP hS eq3 ⟨Nat.le_of_ble_eq_true rfl, Nat.le_of_ble_eq_true rfl⟩ hl.1 (Nat.le_of_ble_eq_true rfl) dX7_set_29 (fun H locs hP hS => ?_)
      refine lv_aload_n C.1 C.2.1 dX7_set_32 rfl (lv_at hl 1 rfl) ?_
      refine gf_X7_12 C hP dX7_set_33 ?_
      refine lv_iload_n C.1 C.2.1 dX7_set_36 rfl (lv_at hl 2 rfl) ?_
      refine lv_iload_n C.1 C.2.1 dX7_set_37 rfl (lv_at hl 3 rfl) ?_
      obtain ⟨q4, eq4, hf⟩ := g_b hf
      refine cv_X7_100 hA C hX hP hS pX5_1 eq4 ⟨Nat.le_of_ble_eq_true rfl, Nat.le_of_ble_eq_true rfl⟩ hl.1 (Nat.le_of_ble_eq_true rfl) dX7_set_38 (fun H locs hP hS => ?_)
      refine lv_iload_n C.1 C.2.1 dX7_set_41 rfl (lv_at hl 0 rfl) ?_
      obtain rfl := Option.some.inj hf
      exact u_iret C hP hS dX7_set_42
    · have hf := g_t hc hf
      refine lv_bipush (v := (-5 : Int32)) C.1 C.2.1 dX7_set_25 (by decide) ?_
      obtain rfl := Option.some.inj hf
      exact u_iret C hP hS dX7_set_27
  · have hf := g_t hc hf
    refine lv_bipush (v := (-2 : Int32)) C.1 C.2.1 dX7_set_8 (by decide) ?_
    obtain rfl := Option.some.inj hf
    exact u_iret C hP hS dX7_set_10
theorem c_X7_set (l : Launch) (D : va_G) (ids : Nat → ClassId) (ad tt : Nat → Nat) (hA : adOk ad 59) {a1 : Int32} {a2 : Int32} {h : Hp} {rv : Int32 × Hp} (hf : f_X7_set h a1 a2 = some rv) : Met l yX7_set (ws_ yX7_set cX7_set 4 (some .int)) rm_X7_set (va_Pc [.ref (ad 0), .int a1, .int a2] (WB D ids (cEC ids ad) ad 59 (ExC tt ad) h)) (QW D (cEC ids ad) ad 59 (some (.int rv.1)) rv.2) 0 0 (inW ad 59) :=
  u_met (own := RX7) (by decide) rfl (Nat.le_of_ble_eq_true rfl) rfl (fun p e s m args below meth c H ls C hX hP hS hl => w_X7_set (tt := tt) hA C hX _ _ _ _ _ _ hf hP hS hl)
theorem pf_X7_104 {p : Program} {l : Launch} {e : Env} {R : Room} {s : State} {m : MethodId} {args : Array Value} {below : List Frame} {meth : Method} {c : Code} {H : Heap} {locs : List Loc} {cells slots : Nat} {Q : State → Prop} {cc : ByteArray} {nL : Nat} {ret : Option FieldType} {pc : Nat} {ls : Array Slot} {rest : List Value} {D : va_G} {ids : Nat → ClassId} {ad : Nat → Nat} {h : Hp} {x : Int32} (hA : adOk ad 59) (C : CX p s m args meth c cc nL ret RX7 D ids) {k : Nat} (hk : isX5 k) (hP : wp D (cEC ids ad) ad 59 h H) (hS : va_S (inW ad 59) s.heap H locs) (hdg : decode cc pc = .ok (.putfield 104, 3)) (kk : ∀ (H1 : Heap) (locs1 : List Loc), wp D (cEC ids ad) ad 59 (hs h k 4 x) H1 → va_S (inW ad 59) s.heap H1 locs1 → W p l e R s m args below meth c H1 locs1 cells slots Q (F0 m (pc + 3) ls rest)) : W p l e R s m args below meth c H locs cells slots Q (F0 m pc ls (.int x :: .ref (ad k) :: rest)) :=
  u_put hA C hP hS (lt_X5 hk) (cE_X5 hk) rfl inX5 tyX5 tyX5_ok nmX5 4 (by decide) rfl q_121 rfl (ty := .int) rfl rfl rfl hdg kk
abbrev rm_X7_lot : Room := { frames := 3, cells := 0, slots := 0, locals := 65 }
set_option maxRecDepth 100000 in
set_option maxHeartbeats 4000000 in
theorem w_X7_lot {p : Program} {l : Launch} {e : Env} {s : State} {m : MethodId} {args : Array Value} {below : List Frame} {meth : Method} {c : Code} {D : va_G} {ids : Nat → ClassId} {ad tt : Nat → Nat} {rv : Int32 × Hp} (hA : adOk ad 59) (C : CX p s m args meth c cX7_lot 3 (some .int) RX7 D ids) (hX : (ExC tt ad) s s.heap) : ∀ (h : Hp) (a1 : Int32) (H : Heap) (locs : List Loc) (ls : Array Slot), f_X7_lot h a1 = some rv → wp D (cEC ids ad) ad 59 h H → va_S (inW ad 59) s.heap H locs → lv_has ls 3 [(0, .ref (ad 0)), (1, .int a1)] → W p l e rm_X7_lot s m args below meth c H locs 0 0 (MQ below (QW D (cEC ids ad) ad 59 (some (.int rv.1)) rv.2) args s 0 0 (inW ad 59)) (F0 m 0 ls []) := by
  intro h a1 H locs ls hf hP hS hl
  unfold f_X7_lot at hf
  refine lv_iload_n C.1 C.2.1 dX7_lot_0 rfl (lv_at hl 1 rfl) ?_
  refine lv_if_lt (tgt := 10) C.1 C.2.1 dX7_lot_1 (by decide) (fun hc => ?_) (fun hc => ?_)
  · have hf := g_t hc hf
    refine lv_bipush (v := (-2 : Int32)) C.1 C.2.1 dX7_lot_10 (by decide) ?_
    obtain rfl := Option.some.inj hf
    exact u_iret C hP hS dX7_lot_12
  · have hf := g_f hc hf
    refine lv_iload_n C.1 C.2.1 dX7_lot_4 rfl (lv_at hl 1 rfl) ?_
    refine lv_ldc (v := (65537 : Int32)) C.1 C.2.1 C.2.2.2.2.2.1 (C.2.2.2.2.2.2.1 _ q_274) dX7_lot_5 ?_
    refine lv_icmp_lt (tgt := 13) C.1 C.2.1 dX7_lot_7 (by decide) (fun hc => ?_) (fun hc => ?_)
    · have hf := g_t hc hf
      refine lv_aload_n C.1 C.2.1 dX7_lot_13 rfl (lv_at hl 0 rfl) ?_
      refine gf_X7_12 C hP dX7_lot_14 ?_
      refine gf_X7_104 C pX5_1 hP dX7_lot_17 ?_
      refine lv_istore_n (lv' := [(2, .int (h 1 4)), (0, .ref (ad 0)), (1, .int a1)]) C.1 C.2.1 dX7_lot_20 rfl hl (by decide) rfl (fun ls hl => ?_)
      refine lv_iload_n C.1 C.2.1 dX7_lot_21 rfl (lv_at hl 0 rfl) ?_
      refine lv_iload_n C.1 C.2.1 dX7_lot_22 rfl (lv_at hl 2 rfl) ?_
      refine lv_icmp_ne (tgt := 29) C.1 C.2.1 dX7_lot_23 (by decide) (fun hc => ?_) (fun hc => ?_)
      · have hf := g_f hc hf
        refine lv_aload_n C.1 C.2.1 dX7_lot_29 rfl (lv_at hl 1 rfl) ?_
        obtain ⟨q1, eq1, hf⟩ := g_b hf
        refine cv_X7_73 hA C hX hP hS eq1 ⟨Nat.le_of_ble_eq_true rfl, Nat.le_of_ble_eq_true rfl⟩ hl.1 (Nat.le_of_ble_eq_true rfl) dX7_lot_30 (fun H locs hP hS => ?_)
        refine lv_aload_n C.1 C.2.1 dX7_lot_33 rfl (lv_at hl 1 rfl) ?_
        refine gf_X7_12 C hP dX7_lot_34 ?_
        refine lv_iload_n C.1 C.2.1 dX7_lot_37 rfl (lv_at hl 2 rfl) ?_
        refine pf_X7_104 hA C pX5_1 hP hS dX7_lot_38 (fun H locs hP hS => ?_)
        refine lv_iload_n C.1 C.2.1 dX7_lot_41 rfl (lv_at hl 0 rfl) ?_
        obtain rfl := Option.some.inj hf
        exact u_iret C hP hS dX7_lot_42
      · have hf := g_t hc hf
        refine lv_bipush (v := (-5 : Int32)) C.1 C.2.1 dX7_lot_26 (by decide) ?_
        obtain rfl := Option.some.inj hf
        exact u_iret C hP hS dX7_lot_28
    · have hf := g_f hc hf
      refine lv_bipush (v := (-2 : Int32)) C.1 C.2.1 dX7_lot_10 (by decide) ?_
      obtain rfl := Option.some.inj hf
      exact u_iret C hP hS dX7_lot_12
theorem c_X7_lot (l : Launch) (D : va_G) (ids : Nat → ClassId) (ad tt : Nat → Nat) (hA : adOk ad 59) {a1 : Int32} {h : Hp} {rv : Int32 × Hp} (hf : f_X7_lot h a1 = some rv) : Met l yX7_lot (ws_ yX7_lot cX7_lot 3 (some .int)) rm_X7_lot (va_Pc [.ref (ad 0), .int a1] (WB D ids (cEC ids ad) ad 59 (ExC tt ad) h)) (QW D (cEC ids ad) ad 59 (some (.int rv.1)) rv.2) 0 0 (inW ad 59) :=
  u_met (own := RX7) (by decide) rfl (Nat.le_of_ble_eq_true rfl) rfl (fun p e s m args below meth c H ls C hX hP hS hl => w_X7_lot (tt := tt) hA C hX _ _ _ _ _ hf hP hS hl)
theorem gf_X3_12 {p : Program} {l : Launch} {e : Env} {R : Room} {s : State} {m : MethodId} {args : Array Value} {below : List Frame} {meth : Method} {c : Code} {H : Heap} {locs : List Loc} {cells slots : Nat} {Q : State → Prop} {cc : ByteArray} {nL : Nat} {ret : Option FieldType} {pc : Nat} {ls : Array Slot} {rest : List Value} {D : va_G} {ids : Nat → ClassId} {ad : Nat → Nat} {h : Hp} (C : CX p s m args meth c cc nL ret RX3 D ids) {k : Nat} (hk : isX3 k) (hP : wp D (cEC ids ad) ad 59 h H) (hdg : decode cc pc = .ok (.getfield 12, 3)) (kk : W p l e R s m args below meth c H locs cells slots Q (F0 m (pc + 3) ls (.ref (ad (k + 1)) :: rest))) : W p l e R s m args below meth c H locs cells slots Q (F0 m pc ls (.ref (ad k) :: rest)) :=
  u_get C hP (lt_X3 hk) (cE_X3 hk) rfl inX3 0 (by decide) rfl q_96 hdg kk
theorem cv_X3_50 {p : Program} {l : Launch} {e : Env} {R : Room} {s : State} {m : MethodId} {args : Array Value} {below : List Frame} {meth : Method} {c : Code} {H : Heap} {locs : List Loc} {Q : State → Prop} {cc : ByteArray} {nL : Nat} {ret : Option FieldType} {pc : Nat} {ls : Array Slot} {rest : List Value} {D : va_G} {ids : Nat → ClassId} {ad tt : Nat → Nat} {h : Hp} (hA : adOk ad 59) (C : CX p s m args meth c cc nL ret RX3 D ids) (hX : (ExC tt ad) s s.heap) (hP : wp D (cEC ids ad) ad 59 h H) (hS : va_S (inW ad 59) s.heap H locs) {k : Nat} (hk : isX6 k) {k1 : Nat} (hk1 : isX2 k1) {rv : Hp} (hf : f_X6_print h k k1 = some rv) (hR : 2 + 1 ≤ R.frames ∧ 8 + (5 + 11) + 42 ≤ R.locals) (hsz : ls.size = nL) (hcat : (rest.map fun v => v.category).sum ≤ 8) (hdg : decode cc pc = .ok (.invokevirtual 50, 3)) (kk : ∀ (H1 : Heap) (locs1 : List Loc), wp D (cEC ids ad) ad 59 rv H1 → va_S (inW ad 59) s.heap H1 locs1 → W p l e R s m args below meth c H1 locs1 0 0 Q (F0 m (pc + 3) ls (rest))) : W p l e R s m args below meth c H locs 0 0 Q (F0 m pc ls (.ref (ad k1) :: .ref (ad k) :: rest)) :=
  u_callV (As := [.ref (ad k1)]) (rv := none) C (exC_ok hA) hX (c_X6_print l D ids ad tt hA hk hk1 hf) q_292 q_130 q_131 q_73 q_132 ⟨rfl, rfl⟩ (by refine ⟨by decide +kernel, by decide +kernel, ?_⟩; show _ = some 1; decide +kernel) hR (lt_X6 hk) (cE_X6 hk _) rfl hP hS hsz hcat rfl hdg kk
theorem gf_X3_54 {p : Program} {l : Launch} {e : Env} {R : Room} {s : State} {m : MethodId} {args : Array Value} {below : List Frame} {meth : Method} {c : Code} {H : Heap} {locs : List Loc} {cells slots : Nat} {Q : State → Prop} {cc : ByteArray} {nL : Nat} {ret : Option FieldType} {pc : Nat} {ls : Array Slot} {rest : List Value} {D : va_G} {ids : Nat → ClassId} {ad : Nat → Nat} {h : Hp} (C : CX p s m args meth c cc nL ret RX3 D ids) {k : Nat} (hk : isX2 k) (hP : wp D (cEC ids ad) ad 59 h H) (hdg : decode cc pc = .ok (.getfield 54, 3)) (kk : W p l e R s m args below meth c H locs cells slots Q (F0 m (pc + 3) ls (.int (h k 1) :: rest))) : W p l e R s m args below meth c H locs cells slots Q (F0 m pc ls (.ref (ad k) :: rest)) :=
  u_get C hP (lt_X2 hk) (cE_X2 hk) rfl inX2 1 (by decide) rfl q_290 hdg kk
theorem pf_X3_18 {p : Program} {l : Launch} {e : Env} {R : Room} {s : State} {m : MethodId} {args : Array Value} {below : List Frame} {meth : Method} {c : Code} {H : Heap} {locs : List Loc} {cells slots : Nat} {Q : State → Prop} {cc : ByteArray} {nL : Nat} {ret : Option FieldType} {pc : Nat} {ls : Array Slot} {rest : List Value} {D : va_G} {ids : Nat → ClassId} {ad : Nat → Nat} {h : Hp} {x : Int32} (hA : adOk ad 59) (C : CX p s m args meth c cc nL ret RX3 D ids) {k : Nat} (hk : isX3 k) (hP : wp D (cEC ids ad) ad 59 h H) (hS : va_S (inW ad 59) s.heap H locs) (hdg : decode cc pc = .ok (.putfield 18, 3)) (kk : ∀ (H1 : Heap) (locs1 : List Loc), wp D (cEC ids ad) ad 59 (hs h k 1 x) H1 → va_S (inW ad 59) s.heap H1 locs1 → W p l e R s m args below meth c H1 locs1 cells slots Q (F0 m (pc + 3) ls rest)) : W p l e R s m args below meth c H locs cells slots Q (F0 m pc ls (.int x :: .ref (ad k) :: rest)) :=
  u_put hA C hP hS (lt_X3 hk) (cE_X3 hk) rfl inX3 tyX3 tyX3_ok nmX3 1 (by decide) rfl q_97 rfl (ty := .int) rfl rfl rfl hdg kk
theorem gf_X3_57 {p : Program} {l : Launch} {e : Env} {R : Room} {s : State} {m : MethodId} {args : Array Value} {below : List Frame} {meth : Method} {c : Code} {H : Heap} {locs : List Loc} {cells slots : Nat} {Q : State → Prop} {cc : ByteArray} {nL : Nat} {ret : Option FieldType} {pc : Nat} {ls : Array Slot} {rest : List Value} {D : va_G} {ids : Nat → ClassId} {ad : Nat → Nat} {h : Hp} (C : CX p s m args meth c cc nL ret RX3 D ids) {k : Nat} (hk : isX2 k) (hP : wp D (cEC ids ad) ad 59 h H) (hdg : decode cc pc = .ok (.getfield 57, 3)) (kk : W p l e R s m args below meth c H locs cells slots Q (F0 m (pc + 3) ls (.int (h k 3) :: rest))) : W p l e R s m args below meth c H locs cells slots Q (F0 m pc ls (.ref (ad k) :: rest)) :=
  u_get C hP (lt_X2 hk) (cE_X2 hk) rfl inX2 3 (by decide) rfl q_291 hdg kk
theorem pf_X3_22 {p : Program} {l : Launch} {e : Env} {R : Room} {s : State} {m : MethodId} {args : Array Value} {below : List Frame} {meth : Method} {c : Code} {H : Heap} {locs : List Loc} {cells slots : Nat} {Q : State → Prop} {cc : ByteArray} {nL : Nat} {ret : Option FieldType} {pc : Nat} {ls : Array Slot} {rest : List Value} {D : va_G} {ids : Nat → ClassId} {ad : Nat → Nat} {h : Hp} {x : Int32} (hA : adOk ad 59) (C : CX p s m args meth c cc nL ret RX3 D ids) {k : Nat} (hk : isX3 k) (hP : wp D (cEC ids ad) ad 59 h H) (hS : va_S (inW ad 59) s.heap H locs) (hdg : decode cc pc = .ok (.putfield 22, 3)) (kk : ∀ (H1 : Heap) (locs1 : List Loc), wp D (cEC ids ad) ad 59 (hs h k 2 x) H1 → va_S (inW ad 59) s.heap H1 locs1 → W p l e R s m args below meth c H1 locs1 cells slots Q (F0 m (pc + 3) ls rest)) : W p l e R s m args below meth c H locs cells slots Q (F0 m pc ls (.int x :: .ref (ad k) :: rest)) :=
  u_put hA C hP hS (lt_X3 hk) (cE_X3 hk) rfl inX3 tyX3 tyX3_ok nmX3 2 (by decide) rfl q_98 rfl (ty := .int) rfl rfl rfl hdg kk
theorem pf_X3_25 {p : Program} {l : Launch} {e : Env} {R : Room} {s : State} {m : MethodId} {args : Array Value} {below : List Frame} {meth : Method} {c : Code} {H : Heap} {locs : List Loc} {cells slots : Nat} {Q : State → Prop} {cc : ByteArray} {nL : Nat} {ret : Option FieldType} {pc : Nat} {ls : Array Slot} {rest : List Value} {D : va_G} {ids : Nat → ClassId} {ad : Nat → Nat} {h : Hp} {x : Int32} (hA : adOk ad 59) (C : CX p s m args meth c cc nL ret RX3 D ids) {k : Nat} (hk : isX3 k) (hz : isb x = true) (hP : wp D (cEC ids ad) ad 59 h H) (hS : va_S (inW ad 59) s.heap H locs) (hdg : decode cc pc = .ok (.putfield 25, 3)) (kk : ∀ (H1 : Heap) (locs1 : List Loc), wp D (cEC ids ad) ad 59 (hs h k 3 x) H1 → va_S (inW ad 59) s.heap H1 locs1 → W p l e R s m args below meth c H1 locs1 cells slots Q (F0 m (pc + 3) ls rest)) : W p l e R s m args below meth c H locs cells slots Q (F0 m pc ls (.int x :: .ref (ad k) :: rest)) :=
  u_put hA C hP hS (lt_X3 hk) (cE_X3 hk) rfl inX3 tyX3 tyX3_ok nmX3 3 (by decide) rfl q_99 rfl (ty := .boolean) rfl (isb_n hz).1 (isb_n hz).2 hdg kk
theorem pf_X3_38 {p : Program} {l : Launch} {e : Env} {R : Room} {s : State} {m : MethodId} {args : Array Value} {below : List Frame} {meth : Method} {c : Code} {H : Heap} {locs : List Loc} {cells slots : Nat} {Q : State → Prop} {cc : ByteArray} {nL : Nat} {ret : Option FieldType} {pc : Nat} {ls : Array Slot} {rest : List Value} {D : va_G} {ids : Nat → ClassId} {ad : Nat → Nat} {h : Hp} {x : Int32} (hA : adOk ad 59) (C : CX p s m args meth c cc nL ret RX3 D ids) {k : Nat} (hk : isX3 k) (hP : wp D (cEC ids ad) ad 59 h H) (hS : va_S (inW ad 59) s.heap H locs) (hdg : decode cc pc = .ok (.putfield 38, 3)) (kk : ∀ (H1 : Heap) (locs1 : List Loc), wp D (cEC ids ad) ad 59 (hs h k 7 x) H1 → va_S (inW ad 59) s.heap H1 locs1 → W p l e R s m args below meth c H1 locs1 cells slots Q (F0 m (pc + 3) ls rest)) : W p l e R s m args below meth c H locs cells slots Q (F0 m pc ls (.int x :: .ref (ad k) :: rest)) :=
  u_put hA C hP hS (lt_X3 hk) (cE_X3 hk) rfl inX3 tyX3 tyX3_ok nmX3 7 (by decide) rfl q_103 rfl (ty := .int) rfl rfl rfl hdg kk
theorem pf_X3_41 {p : Program} {l : Launch} {e : Env} {R : Room} {s : State} {m : MethodId} {args : Array Value} {below : List Frame} {meth : Method} {c : Code} {H : Heap} {locs : List Loc} {cells slots : Nat} {Q : State → Prop} {cc : ByteArray} {nL : Nat} {ret : Option FieldType} {pc : Nat} {ls : Array Slot} {rest : List Value} {D : va_G} {ids : Nat → ClassId} {ad : Nat → Nat} {h : Hp} {x : Int32} (hA : adOk ad 59) (C : CX p s m args meth c cc nL ret RX3 D ids) {k : Nat} (hk : isX3 k) (hP : wp D (cEC ids ad) ad 59 h H) (hS : va_S (inW ad 59) s.heap H locs) (hdg : decode cc pc = .ok (.putfield 41, 3)) (kk : ∀ (H1 : Heap) (locs1 : List Loc), wp D (cEC ids ad) ad 59 (hs h k 8 x) H1 → va_S (inW ad 59) s.heap H1 locs1 → W p l e R s m args below meth c H1 locs1 cells slots Q (F0 m (pc + 3) ls rest)) : W p l e R s m args below meth c H locs cells slots Q (F0 m pc ls (.int x :: .ref (ad k) :: rest)) :=
  u_put hA C hP hS (lt_X3 hk) (cE_X3 hk) rfl inX3 tyX3 tyX3_ok nmX3 8 (by decide) rfl q_104 rfl (ty := .int) rfl rfl rfl hdg kk
theorem pf_X3_44 {p : Program} {l : Launch} {e : Env} {R : Room} {s : State} {m : MethodId} {args : Array Value} {below : List Frame} {meth : Method} {c : Code} {H : Heap} {locs : List Loc} {cells slots : Nat} {Q : State → Prop} {cc : ByteArray} {nL : Nat} {ret : Option FieldType} {pc : Nat} {ls : Array Slot} {rest : List Value} {D : va_G} {ids : Nat → ClassId} {ad : Nat → Nat} {h : Hp} {x : Int32} (hA : adOk ad 59) (C : CX p s m args meth c cc nL ret RX3 D ids) {k : Nat} (hk : isX3 k) (hP : wp D (cEC ids ad) ad 59 h H) (hS : va_S (inW ad 59) s.heap H locs) (hdg : decode cc pc = .ok (.putfield 44, 3)) (kk : ∀ (H1 : Heap) (locs1 : List Loc), wp D (cEC ids ad) ad 59 (hs h k 9 x) H1 → va_S (inW ad 59) s.heap H1 locs1 → W p l e R s m args below meth c H1 locs1 cells slots Q (F0 m (pc + 3) ls rest)) : W p l e R s m args below meth c H locs cells slots Q (F0 m pc ls (.int x :: .ref (ad k) :: rest)) :=
  u_put hA C hP hS (lt_X3 hk) (cE_X3 hk) rfl inX3 tyX3 tyX3_ok nmX3 9 (by decide) rfl q_105 rfl (ty := .int) rfl rfl rfl hdg kk
theorem pf_X3_47 {p : Program} {l : Launch} {e : Env} {R : Room} {s : State} {m : MethodId} {args : Array Value} {below : List Frame} {meth : Method} {c : Code} {H : Heap} {locs : List Loc} {cells slots : Nat} {Q : State → Prop} {cc : ByteArray} {nL : Nat} {ret : Option FieldType} {pc : Nat} {ls : Array Slot} {rest : List Value} {D : va_G} {ids : Nat → ClassId} {ad : Nat → Nat} {h : Hp} {x : Int32} (hA : adOk ad 59) (C : CX p s m args meth c cc nL ret RX3 D ids) {k : Nat} (hk : isX3 k) (hP : wp D (cEC ids ad) ad 59 h H) (hS : va_S (inW ad 59) s.heap H locs) (hdg : decode cc pc = .ok (.putfield 47, 3)) (kk : ∀ (H1 : Heap) (locs1 : List Loc), wp D (cEC ids ad) ad 59 (hs h k 10 x) H1 → va_S (inW ad 59) s.heap H1 locs1 → W p l e R s m args below meth c H1 locs1 cells slots Q (F0 m (pc + 3) ls rest)) : W p l e R s m args below meth c H locs cells slots Q (F0 m pc ls (.int x :: .ref (ad k) :: rest)) :=
  u_put hA C hP hS (lt_X3 hk) (cE_X3 hk) rfl inX3 tyX3 tyX3_ok nmX3 10 (by decide) rfl q_106 rfl (ty := .int) rfl rfl rfl hdg kk
abbrev rm_X3_beginDay : Room := { frames := 3, cells := 0, slots := 0, locals := 66 }
set_option maxRecDepth 100000 in
set_option maxHeartbeats 4000000 in
theorem w_X3_beginDay_44 {p : Program} {l : Launch} {e : Env} {s : State} {m : MethodId} {args : Array Value} {below : List Frame} {meth : Method} {c : Code} {D : va_G} {ids : Nat → ClassId} {ad tt : Nat → Nat} {rv : Hp} (hA : adOk ad 59) (C : CX p s m args meth c cX3_beginDay 2 none RX3 D ids) (hX : (ExC tt ad) s s.heap) {k : Nat} (hk : isX3 k) {k1 : Nat} (hk1 : isX2 k1) : ∀ (h : Hp) (H : Heap) (locs : List Loc) (ls : Array Slot), f_X3_beginDay_44 k k1 h = some rv → wp D (cEC ids ad) ad 59 h H → va_S (inW ad 59) s.heap H locs → lv_has ls 2 [(0, .ref (ad k))] → W p l e rm_X3_beginDay s m args below meth c H locs 0 0 (MQ below (QW D (cEC ids ad) ad 59 none rv) args s 0 0 (inW ad 59)) (F0 m 44 ls []) := by
  intro h H locs ls hf hP hS hl
  unfold f_X3_beginDay_44 at hf
  refine lv_aload_n C.1 C.2.1 dX3_beginDay_44 rfl (lv_at hl 0 rfl) ?_
  refine lv_iconst (v := (0 : Int32)) C.1 C.2.1 dX3_beginDay_45 (by decide) ?_
  refine pf_X3_47 hA C hk hP hS dX3_beginDay_46 (fun H locs hP hS => ?_)
  obtain rfl := Option.some.inj hf
  exact u_vret C hP hS dX3_beginDay_49
set_option maxRecDepth 100000 in
set_option maxHeartbeats 4000000 in
theorem w_X3_beginDay_34 {p : Program} {l : Launch} {e : Env} {s : State} {m : MethodId} {args : Array Value} {below : List Frame} {meth : Method} {c : Code} {D : va_G} {ids : Nat → ClassId} {ad tt : Nat → Nat} {rv : Hp} (hA : adOk ad 59) (C : CX p s m args meth c cX3_beginDay 2 none RX3 D ids) (hX : (ExC tt ad) s s.heap) {k : Nat} (hk : isX3 k) {k1 : Nat} (hk1 : isX2 k1) : ∀ (h : Hp) (H : Heap) (locs : List Loc) (ls : Array Slot), f_X3_beginDay_34 k k1 h = some rv → wp D (cEC ids ad) ad 59 h H → va_S (inW ad 59) s.heap H locs → lv_has ls 2 [(0, .ref (ad k))] → W p l e rm_X3_beginDay s m args below meth c H locs 0 0 (MQ below (QW D (cEC ids ad) ad 59 none rv) args s 0 0 (inW ad 59)) (F0 m 34 ls []) := by
  intro h H locs ls hf hP hS hl
  unfold f_X3_beginDay_34 at hf
  refine lv_aload_n C.1 C.2.1 dX3_beginDay_34 rfl (lv_at hl 0 rfl) ?_
  refine lv_iconst (v := (0 : Int32)) C.1 C.2.1 dX3_beginDay_35 (by decide) ?_
  refine pf_X3_41 hA C hk hP hS dX3_beginDay_36 (fun H locs hP hS => ?_)
  refine lv_aload_n C.1 C.2.1 dX3_beginDay_39 rfl (lv_at hl 0 rfl) ?_
  refine lv_iconst (v := (0 : Int32)) C.1 C.2.1 dX3_beginDay_40 (by decide) ?_
  refine pf_X3_44 hA C hk hP hS dX3_beginDay_41 (fun H locs hP hS => ?_)
  exact w_X3_beginDay_44 hA C hX hk hk1 _ _ _ _ hf hP hS (lv_sub hl [0] rfl)
set_option maxRecDepth 100000 in
set_option maxHeartbeats 4000000 in
theorem w_X3_beginDay_24 {p : Program} {l : Launch} {e : Env} {s : State} {m : MethodId} {args : Array Value} {below : List Frame} {meth : Method} {c : Code} {D : va_G} {ids : Nat → ClassId} {ad tt : Nat → Nat} {rv : Hp} (hA : adOk ad 59) (C : CX p s m args meth c cX3_beginDay 2 none RX3 D ids) (hX : (ExC tt ad) s s.heap) {k : Nat} (hk : isX3 k) {k1 : Nat} (hk1 : isX2 k1) : ∀ (h : Hp) (H : Heap) (locs : List Loc) (ls : Array Slot), f_X3_beginDay_24 k k1 h = some rv → wp D (cEC ids ad) ad 59 h H → va_S (inW ad 59) s.heap H locs → lv_has ls 2 [(0, .ref (ad k))] → W p l e rm_X3_beginDay s m args below meth c H locs 0 0 (MQ below (QW D (cEC ids ad) ad 59 none rv) args s 0 0 (inW ad 59)) (F0 m 24 ls []) := by
  intro h H locs ls hf hP hS hl
  unfold f_X3_beginDay_24 at hf
  refine lv_aload_n C.1 C.2.1 dX3_beginDay_24 rfl (lv_at hl 0 rfl) ?_
  refine lv_iconst (v := (0 : Int32)) C.1 C.2.1 dX3_beginDay_25 (by decide) ?_
  refine pf_X3_25 hA C hk isb_0 hP hS dX3_beginDay_26 (fun H locs hP hS => ?_)
  refine lv_aload_n C.1 C.2.1 dX3_beginDay_29 rfl (lv_at hl 0 rfl) ?_
  refine lv_iconst (v := (0 : Int32)) C.1 C.2.1 dX3_beginDay_30 (by decide) ?_
  refine pf_X3_38 hA C hk hP hS dX3_beginDay_31 (fun H locs hP hS => ?_)
  exact w_X3_beginDay_34 hA C hX hk hk1 _ _ _ _ hf hP hS (lv_sub hl [0] rfl)
set_option maxRecDepth 100000 in
set_option maxHeartbeats 4000000 in
theorem w_X3_beginDay {p : Program} {l : Launch} {e : Env} {s : State} {m : MethodId} {args : Array Value} {below : List Frame} {meth : Method} {c : Code} {D : va_G} {ids : Nat → ClassId} {ad tt : Nat → Nat} {rv : Hp} (hA : adOk ad 59) (C : CX p s m args meth c cX3_beginDay 2 none RX3 D ids) (hX : (ExC tt ad) s s.heap) {k : Nat} (hk : isX3 k) {k1 : Nat} (hk1 : isX2 k1) : ∀ (h : Hp) (H : Heap) (locs : List Loc) (ls : Array Slot), f_X3_beginDay h k k1 = some rv → wp D (cEC ids ad) ad 59 h H → va_S (inW ad 59) s.heap H locs → lv_has ls 2 [(0, .ref (ad k)), (1, .ref (ad k1))] → W p l e rm_X3_beginDay s m args below meth c H locs 0 0 (MQ below (QW D (cEC ids ad) ad 59 none rv) args s 0 0 (inW ad 59)) (F0 m 0 ls []) := by
  intro h H locs ls hf hP hS hl
  unfold f_X3_beginDay at hf
  refine lv_aload_n C.1 C.2.1 dX3_beginDay_0 rfl (lv_at hl 0 rfl) ?_
  refine gf_X3_12 C hk hP dX3_beginDay_1 ?_
  refine lv_aload_n C.1 C.2.1 dX3_beginDay_4 rfl (lv_at hl 1 rfl) ?_
  obtain ⟨q1, eq1, hf⟩ := g_b hf
  refine cv_X3_50 hA C hX hP hS (tt_of hk) hk1 eq1 ⟨Nat.le_of_ble_eq_true rfl, Nat.le_of_ble_eq_true rfl⟩ hl.1 (Nat.le_of_ble_eq_true rfl) dX3_beginDay_5 (fun H locs hP hS => ?_)
  refine lv_aload_n C.1 C.2.1 dX3_beginDay_8 rfl (lv_at hl 0 rfl) ?_
  refine lv_aload_n C.1 C.2.1 dX3_beginDay_9 rfl (lv_at hl 1 rfl) ?_
  refine gf_X3_54 C hk1 hP dX3_beginDay_10 ?_
  refine pf_X3_18 hA C hk hP hS dX3_beginDay_13 (fun H locs hP hS => ?_)
  refine lv_aload_n C.1 C.2.1 dX3_beginDay_16 rfl (lv_at hl 0 rfl) ?_
  refine lv_aload_n C.1 C.2.1 dX3_beginDay_17 rfl (lv_at hl 1 rfl) ?_
  refine gf_X3_57 C hk1 hP dX3_beginDay_18 ?_
  refine pf_X3_22 hA C hk hP hS dX3_beginDay_21 (fun H locs hP hS => ?_)
  exact w_X3_beginDay_24 hA C hX hk hk1 _ _ _ _ hf hP hS (lv_sub hl [0] rfl)
theorem c_X3_beginDay (l : Launch) (D : va_G) (ids : Nat → ClassId) (ad tt : Nat → Nat) (hA : adOk ad 59) {k : Nat} (hk : isX3 k) {k1 : Nat} (hk1 : isX2 k1) {h : Hp} {rv : Hp} (hf : f_X3_beginDay h k k1 = some rv) : Met l yX3_beginDay (ws_ yX3_beginDay cX3_beginDay 2 none) rm_X3_beginDay (va_Pc [.ref (ad k), .ref (ad k1)] (WB D ids (cEC ids ad) ad 59 (ExC tt ad) h)) (QW D (cEC ids ad) ad 59 none rv) 0 0 (inW ad 59) :=
  u_met (own := RX3) (by decide) rfl (Nat.le_of_ble_eq_true rfl) rfl (fun p e s m args below meth c H ls C hX hP hS hl => w_X3_beginDay (tt := tt) hA C hX hk hk1 _ _ _ _ hf hP hS hl)
