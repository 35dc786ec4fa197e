theorem gf_X3_25 {p : Program} {l : Launch} {e : Env} {R : Room} {s : State} {m : MethodId} {args : Array Value} {below : List Frame} {meth : Method} {c : Code} {H : Heap} {locs : List Loc} {cells slots : Nat} {Q : State → Prop} {cc : ByteArray} {nL : Nat} {ret : Option FieldType} {pc : Nat} {ls : Array Slot} {rest : List Value} {D : va_G} {ids : Nat → ClassId} {ad : Nat → Nat} {h : Hp} (C : CX p s m args meth c cc nL ret RX3 D ids) {k : Nat} (hk : isX3 k) (hP : wp D (cEC ids ad) ad 59 h H) (hdg : decode cc pc = .ok (.getfield 25, 3)) (kk : W p l e R s m args below meth c H locs cells slots Q (F0 m (pc + 3) ls (.int (h k 3) :: rest))) : W p l e R s m args below meth c H locs cells slots Q (F0 m pc ls (.ref (ad k) :: rest)) :=
  u_get C hP (lt_X3 hk) (cE_X3 hk) rfl inX3 3 (by decide) rfl q_99 hdg kk
theorem gf_X3_29 {p : Program} {l : Launch} {e : Env} {R : Room} {s : State} {m : MethodId} {args : Array Value} {below : List Frame} {meth : Method} {c : Code} {H : Heap} {locs : List Loc} {cells slots : Nat} {Q : State → Prop} {cc : ByteArray} {nL : Nat} {ret : Option FieldType} {pc : Nat} {ls : Array Slot} {rest : List Value} {D : va_G} {ids : Nat → ClassId} {ad : Nat → Nat} {h : Hp} (C : CX p s m args meth c cc nL ret RX3 D ids) {k : Nat} (hk : isX3 k) (hP : wp D (cEC ids ad) ad 59 h H) (hdg : decode cc pc = .ok (.getfield 29, 3)) (kk : W p l e R s m args below meth c H locs cells slots Q (F0 m (pc + 3) ls (.int (h k 4) :: rest))) : W p l e R s m args below meth c H locs cells slots Q (F0 m pc ls (.ref (ad k) :: rest)) :=
  u_get C hP (lt_X3 hk) (cE_X3 hk) rfl inX3 4 (by decide) rfl q_100 hdg kk
theorem pf_X3_32 {p : Program} {l : Launch} {e : Env} {R : Room} {s : State} {m : MethodId} {args : Array Value} {below : List Frame} {meth : Method} {c : Code} {H : Heap} {locs : List Loc} {cells slots : Nat} {Q : State → Prop} {cc : ByteArray} {nL : Nat} {ret : Option FieldType} {pc : Nat} {ls : Array Slot} {rest : List Value} {D : va_G} {ids : Nat → ClassId} {ad : Nat → Nat} {h : Hp} {x : Int32} (hA : adOk ad 59) (C : CX p s m args meth c cc nL ret RX3 D ids) {k : Nat} (hk : isX3 k) (hz : isb x = true) (hP : wp D (cEC ids ad) ad 59 h H) (hS : va_S (inW ad 59) s.heap H locs) (hdg : decode cc pc = .ok (.putfield 32, 3)) (kk : ∀ (H1 : Heap) (locs1 : List Loc), wp D (cEC ids ad) ad 59 (hs h k 5 x) H1 → va_S (inW ad 59) s.heap H1 locs1 → W p l e R s m args below meth c H1 locs1 cells slots Q (F0 m (pc + 3) ls rest)) : W p l e R s m args below meth c H locs cells slots Q (F0 m pc ls (.int x :: .ref (ad k) :: rest)) :=
  u_put hA C hP hS (lt_X3 hk) (cE_X3 hk) rfl inX3 tyX3 tyX3_ok nmX3 5 (by decide) rfl q_101 rfl (ty := .boolean) rfl (isb_n hz).1 (isb_n hz).2 hdg kk
theorem gf_X3_32 {p : Program} {l : Launch} {e : Env} {R : Room} {s : State} {m : MethodId} {args : Array Value} {below : List Frame} {meth : Method} {c : Code} {H : Heap} {locs : List Loc} {cells slots : Nat} {Q : State → Prop} {cc : ByteArray} {nL : Nat} {ret : Option FieldType} {pc : Nat} {ls : Array Slot} {rest : List Value} {D : va_G} {ids : Nat → ClassId} {ad : Nat → Nat} {h : Hp} (C : CX p s m args meth c cc nL ret RX3 D ids) {k : Nat} (hk : isX3 k) (hP : wp D (cEC ids ad) ad 59 h H) (hdg : decode cc pc = .ok (.getfield 32, 3)) (kk : W p l e R s m args below meth c H locs cells slots Q (F0 m (pc + 3) ls (.int (h k 5) :: rest))) : W p l e R s m args below meth c H locs cells slots Q (F0 m pc ls (.ref (ad k) :: rest)) :=
  u_get C hP (lt_X3 hk) (cE_X3 hk) rfl inX3 5 (by decide) rfl q_101 hdg kk
theorem gf_X3_38 {p : Program} {l : Launch} {e : Env} {R : Room} {s : State} {m : MethodId} {args : Array Value} {below : List Frame} {meth : Method} {c : Code} {H : Heap} {locs : List Loc} {cells slots : Nat} {Q : State → Prop} {cc : ByteArray} {nL : Nat} {ret : Option FieldType} {pc : Nat} {ls : Array Slot} {rest : List Value} {D : va_G} {ids : Nat → ClassId} {ad : Nat → Nat} {h : Hp} (C : CX p s m args meth c cc nL ret RX3 D ids) {k : Nat} (hk : isX3 k) (hP : wp D (cEC ids ad) ad 59 h H) (hdg : decode cc pc = .ok (.getfield 38, 3)) (kk : W p l e R s m args below meth c H locs cells slots Q (F0 m (pc + 3) ls (.int (h k 7) :: rest))) : W p l e R s m args below meth c H locs cells slots Q (F0 m pc ls (.ref (ad k) :: rest)) :=
  u_get C hP (lt_X3 hk) (cE_X3 hk) rfl inX3 7 (by decide) rfl q_103 hdg kk
theorem cv_X3_60 {p : Program} {l : Launch} {e : Env} {R : Room} {s : State} {m : MethodId} {args : Array Value} {below : List Frame} {meth : Method} {c : Code} {H : Heap} {locs : List Loc} {Q : State → Prop} {cc : ByteArray} {nL : Nat} {ret : Option FieldType} {pc : Nat} {ls : Array Slot} {rest : List Value} {D : va_G} {ids : Nat → ClassId} {ad tt : Nat → Nat} {h : Hp} (hA : adOk ad 59) (C : CX p s m args meth c cc nL ret RX3 D ids) (hX : (ExC tt ad) s s.heap) (hP : wp D (cEC ids ad) ad 59 h H) (hS : va_S (inW ad 59) s.heap H locs) {k : Nat} (hk : isX6 k) {a1 : Int32} {rv : Int32 × Hp} (hf : f_X6_has h k a1 = some rv) (hR : 0 + 1 ≤ R.frames ∧ 8 + (2 + 11) + 0 ≤ R.locals) (hsz : ls.size = nL) (hcat : (rest.map fun v => v.category).sum ≤ 8) (hdg : decode cc pc = .ok (.invokevirtual 60, 3)) (kk : ∀ (H1 : Heap) (locs1 : List Loc), wp D (cEC ids ad) ad 59 rv.2 H1 → va_S (inW ad 59) s.heap H1 locs1 → W p l e R s m args below meth c H1 locs1 0 0 Q (F0 m (pc + 3) ls (.int rv.1 :: rest))) : W p l e R s m args below meth c H locs 0 0 Q (F0 m pc ls (.int a1 :: .ref (ad k) :: rest)) :=
  u_callV (As := [.int a1]) (rv := (some (.int rv.1))) C (exC_ok hA) hX (c_X6_has l D ids ad tt hA hk hf) q_297 q_153 q_154 q_73 q_155 ⟨rfl, rfl⟩ (by refine ⟨by decide +kernel, by decide +kernel, ?_⟩; show _ = some 1; decide +kernel) hR (lt_X6 hk) (cE_X6 hk _) rfl hP hS hsz hcat rfl hdg kk
theorem cv_X3_64 {p : Program} {l : Launch} {e : Env} {R : Room} {s : State} {m : MethodId} {args : Array Value} {below : List Frame} {meth : Method} {c : Code} {H : Heap} {locs : List Loc} {Q : State → Prop} {cc : ByteArray} {nL : Nat} {ret : Option FieldType} {pc : Nat} {ls : Array Slot} {rest : List Value} {D : va_G} {ids : Nat → ClassId} {ad tt : Nat → Nat} {h : Hp} (hA : adOk ad 59) (C : CX p s m args meth c cc nL ret RX3 D ids) (hX : (ExC tt ad) s s.heap) (hP : wp D (cEC ids ad) ad 59 h H) (hS : va_S (inW ad 59) s.heap H locs) {k : Nat} (hk : isX6 k) {a1 : Int32} {rv : Int32 × Hp} (hf : f_X6_hourOf h k a1 = some rv) (hR : 1 + 1 ≤ R.frames ∧ 8 + (2 + 11) + 21 ≤ R.locals) (hsz : ls.size = nL) (hcat : (rest.map fun v => v.category).sum ≤ 8) (hdg : decode cc pc = .ok (.invokevirtual 64, 3)) (kk : ∀ (H1 : Heap) (locs1 : List Loc), wp D (cEC ids ad) ad 59 rv.2 H1 → va_S (inW ad 59) s.heap H1 locs1 → W p l e R s m args below meth c H1 locs1 0 0 Q (F0 m (pc + 3) ls (.int rv.1 :: rest))) : W p l e R s m args below meth c H locs 0 0 Q (F0 m pc ls (.int a1 :: .ref (ad k) :: rest)) :=
  u_callV (As := [.int a1]) (rv := (some (.int rv.1))) C (exC_ok hA) hX (c_X6_hourOf l D ids ad tt hA hk hf) q_298 q_149 q_150 q_73 q_151 ⟨rfl, rfl⟩ (by refine ⟨by decide +kernel, by decide +kernel, ?_⟩; show _ = some 1; decide +kernel) hR (lt_X6 hk) (cE_X6 hk _) rfl hP hS hsz hcat rfl hdg kk
theorem gf_X3_22 {p : Program} {l : Launch} {e : Env} {R : Room} {s : State} {m : MethodId} {args : Array Value} {below : List Frame} {meth : Method} {c : Code} {H : Heap} {locs : List Loc} {cells slots : Nat} {Q : State → Prop} {cc : ByteArray} {nL : Nat} {ret : Option FieldType} {pc : Nat} {ls : Array Slot} {rest : List Value} {D : va_G} {ids : Nat → ClassId} {ad : Nat → Nat} {h : Hp} (C : CX p s m args meth c cc nL ret RX3 D ids) {k : Nat} (hk : isX3 k) (hP : wp D (cEC ids ad) ad 59 h H) (hdg : decode cc pc = .ok (.getfield 22, 3)) (kk : W p l e R s m args below meth c H locs cells slots Q (F0 m (pc + 3) ls (.int (h k 2) :: rest))) : W p l e R s m args below meth c H locs cells slots Q (F0 m pc ls (.ref (ad k) :: rest)) :=
  u_get C hP (lt_X3 hk) (cE_X3 hk) rfl inX3 2 (by decide) rfl q_98 hdg kk
theorem pf_X3_35 {p : Program} {l : Launch} {e : Env} {R : Room} {s : State} {m : MethodId} {args : Array Value} {below : List Frame} {meth : Method} {c : Code} {H : Heap} {locs : List Loc} {cells slots : Nat} {Q : State → Prop} {cc : ByteArray} {nL : Nat} {ret : Option FieldType} {pc : Nat} {ls : Array Slot} {rest : List Value} {D : va_G} {ids : Nat → ClassId} {ad : Nat → Nat} {h : Hp} {x : Int32} (hA : adOk ad 59) (C : CX p s m args meth c cc nL ret RX3 D ids) {k : Nat} (hk : isX3 k) (hz : isb x = true) (hP : wp D (cEC ids ad) ad 59 h H) (hS : va_S (inW ad 59) s.heap H locs) (hdg : decode cc pc = .ok (.putfield 35, 3)) (kk : ∀ (H1 : Heap) (locs1 : List Loc), wp D (cEC ids ad) ad 59 (hs h k 6 x) H1 → va_S (inW ad 59) s.heap H1 locs1 → W p l e R s m args below meth c H1 locs1 cells slots Q (F0 m (pc + 3) ls rest)) : W p l e R s m args below meth c H locs cells slots Q (F0 m pc ls (.int x :: .ref (ad k) :: rest)) :=
  u_put hA C hP hS (lt_X3 hk) (cE_X3 hk) rfl inX3 tyX3 tyX3_ok nmX3 6 (by decide) rfl q_102 rfl (ty := .boolean) rfl (isb_n hz).1 (isb_n hz).2 hdg kk
theorem gf_X3_35 {p : Program} {l : Launch} {e : Env} {R : Room} {s : State} {m : MethodId} {args : Array Value} {below : List Frame} {meth : Method} {c : Code} {H : Heap} {locs : List Loc} {cells slots : Nat} {Q : State → Prop} {cc : ByteArray} {nL : Nat} {ret : Option FieldType} {pc : Nat} {ls : Array Slot} {rest : List Value} {D : va_G} {ids : Nat → ClassId} {ad : Nat → Nat} {h : Hp} (C : CX p s m args meth c cc nL ret RX3 D ids) {k : Nat} (hk : isX3 k) (hP : wp D (cEC ids ad) ad 59 h H) (hdg : decode cc pc = .ok (.getfield 35, 3)) (kk : W p l e R s m args below meth c H locs cells slots Q (F0 m (pc + 3) ls (.int (h k 6) :: rest))) : W p l e R s m args below meth c H locs cells slots Q (F0 m pc ls (.ref (ad k) :: rest)) :=
  u_get C hP (lt_X3 hk) (cE_X3 hk) rfl inX3 6 (by decide) rfl q_102 hdg kk
theorem gf_X3_18 {p : Program} {l : Launch} {e : Env} {R : Room} {s : State} {m : MethodId} {args : Array Value} {below : List Frame} {meth : Method} {c : Code} {H : Heap} {locs : List Loc} {cells slots : Nat} {Q : State → Prop} {cc : ByteArray} {nL : Nat} {ret : Option FieldType} {pc : Nat} {ls : Array Slot} {rest : List Value} {D : va_G} {ids : Nat → ClassId} {ad : Nat → Nat} {h : Hp} (C : CX p s m args meth c cc nL ret RX3 D ids) {k : Nat} (hk : isX3 k) (hP : wp D (cEC ids ad) ad 59 h H) (hdg : decode cc pc = .ok (.getfield 18, 3)) (kk : W p l e R s m args below meth c H locs cells slots Q (F0 m (pc + 3) ls (.int (h k 1) :: rest))) : W p l e R s m args below meth c H locs cells slots Q (F0 m pc ls (.ref (ad k) :: rest)) :=
  u_get C hP (lt_X3 hk) (cE_X3 hk) rfl inX3 1 (by decide) rfl q_97 hdg kk
theorem gf_X3_41 {p : Program} {l : Launch} {e : Env} {R : Room} {s : State} {m : MethodId} {args : Array Value} {below : List Frame} {meth : Method} {c : Code} {H : Heap} {locs : List Loc} {cells slots : Nat} {Q : State → Prop} {cc : ByteArray} {nL : Nat} {ret : Option FieldType} {pc : Nat} {ls : Array Slot} {rest : List Value} {D : va_G} {ids : Nat → ClassId} {ad : Nat → Nat} {h : Hp} (C : CX p s m args meth c cc nL ret RX3 D ids) {k : Nat} (hk : isX3 k) (hP : wp D (cEC ids ad) ad 59 h H) (hdg : decode cc pc = .ok (.getfield 41, 3)) (kk : W p l e R s m args below meth c H locs cells slots Q (F0 m (pc + 3) ls (.int (h k 8) :: rest))) : W p l e R s m args below meth c H locs cells slots Q (F0 m pc ls (.ref (ad k) :: rest)) :=
  u_get C hP (lt_X3 hk) (cE_X3 hk) rfl inX3 8 (by decide) rfl q_104 hdg kk
abbrev rm_X3_beginHour : Room := { frames := 2, cells := 0, slots := 0, locals := 42 }
set_option maxRecDepth 100000 in
set_option maxHeartbeats 4000000 in
theorem w_X3_beginHour_126 {p : Program} {l : Launch} {e : Env} {s : State} {m : MethodId} {args : Array Value} {below : List Frame} {meth : Method} {c : Code} {D : va_G} {ids : Nat → ClassId} {ad tt : Nat → Nat} {rv : Hp} (hA : adOk ad 59) (C : CX p s m args meth c cX3_beginHour 3 none RX3 D ids) (hX : (ExC tt ad) s s.heap) {k : Nat} (hk : isX3 k) : ∀ (h : Hp) (H : Heap) (locs : List Loc) (ls : Array Slot), f_X3_beginHour_126 k h = some rv → wp D (cEC ids ad) ad 59 h H → va_S (inW ad 59) s.heap H locs → lv_has ls 3 [(0, .ref (ad k))] → W p l e rm_X3_beginHour s m args below meth c H locs 0 0 (MQ below (QW D (cEC ids ad) ad 59 none rv) args s 0 0 (inW ad 59)) (F0 m 126 ls []) := by
  intro h H locs ls hf hP hS hl
  unfold f_X3_beginHour_126 at hf
  refine lv_aload_n C.1 C.2.1 dX3_beginHour_126 rfl (lv_at hl 0 rfl) ?_
  refine lv_iconst (v := (0 : Int32)) C.1 C.2.1 dX3_beginHour_127 (by decide) ?_
  refine pf_X3_35 hA C hk isb_0 hP hS dX3_beginHour_128 (fun H locs hP hS => ?_)
  obtain rfl := Option.some.inj hf
  exact u_vret C hP hS dX3_beginHour_131
set_option maxRecDepth 100000 in
set_option maxHeartbeats 4000000 in
theorem w_X3_beginHour_98 {p : Program} {l : Launch} {e : Env} {s : State} {m : MethodId} {args : Array Value} {below : List Frame} {meth : Method} {c : Code} {D : va_G} {ids : Nat → ClassId} {ad tt : Nat → Nat} {rv : Hp} (hA : adOk ad 59) (C : CX p s m args meth c cX3_beginHour 3 none RX3 D ids) (hX : (ExC tt ad) s s.heap) {k : Nat} (hk : isX3 k) : ∀ (h : Hp) (x2 : Int32) (t1 : Int32) (H : Heap) (locs : List Loc) (ls : Array Slot), f_X3_beginHour_98 k h x2 t1 = some rv → wp D (cEC ids ad) ad 59 h H → va_S (inW ad 59) s.heap H locs → lv_has ls 3 [(0, .ref (ad k)), (2, .int x2)] → W p l e rm_X3_beginHour s m args below meth c H locs 0 0 (MQ below (QW D (cEC ids ad) ad 59 none rv) args s 0 0 (inW ad 59)) (F0 m 98 ls [.int t1, .ref (ad k)]) := by
  intro h x2 t1 H locs ls hf hP hS hl
  unfold f_X3_beginHour_98 at hf
  obtain ⟨hg, hf⟩ := g_if hf
  refine pf_X3_35 hA C hk hg hP hS dX3_beginHour_98 (fun H locs hP hS => ?_)
  refine lv_aload_n C.1 C.2.1 dX3_beginHour_101 rfl (lv_at hl 0 rfl) ?_
  refine gf_X3_35 C hk hP dX3_beginHour_102 ?_
  refine lv_if_eq (tgt := 131) C.1 C.2.1 dX3_beginHour_105 (by decide) (fun hc => ?_) (fun hc => ?_)
  · have hf := g_t hc hf
    obtain rfl := Option.some.inj hf
    exact u_vret C hP hS dX3_beginHour_131
  · have hf := g_f hc hf
    refine lv_iload_n C.1 C.2.1 dX3_beginHour_108 rfl (lv_at hl 1 rfl) ?_
    refine lv_aload_n C.1 C.2.1 dX3_beginHour_109 rfl (lv_at hl 0 rfl) ?_
    refine gf_X3_18 C hk hP dX3_beginHour_110 ?_
    refine lv_icmp_ge (tgt := 131) C.1 C.2.1 dX3_beginHour_113 (by decide) (fun hc => ?_) (fun hc => ?_)
    · have hf := g_t hc hf
      obtain rfl := Option.some.inj hf
      exact u_vret C hP hS dX3_beginHour_131
    · have hf := g_f hc hf
      refine lv_aload_n C.1 C.2.1 dX3_beginHour_116 rfl (lv_at hl 0 rfl) ?_
      refine lv_dup C.1 C.2.1 dX3_beginHour_117 rfl ?_
      refine gf_X3_41 C hk hP dX3_beginHour_118 ?_
      refine lv_iconst (v := (1 : Int32)) C.1 C.2.1 dX3_beginHour_121 (by decide) ?_
      refine lv_iadd C.1 C.2.1 dX3_beginHour_122 ?_
      refine pf_X3_41 hA C hk hP hS dX3_beginHour_123 (fun H locs hP hS => ?_)
      exact w_X3_beginHour_126 hA C hX hk _ _ _ _ hf hP hS (lv_sub hl [0] rfl)
set_option maxRecDepth 100000 in
set_option maxHeartbeats 4000000 in
theorem w_X3_beginHour_97 {p : Program} {l : Launch} {e : Env} {s : State} {m : MethodId} {args : Array Value} {below : List Frame} {meth : Method} {c : Code} {D : va_G} {ids : Nat → ClassId} {ad tt : Nat → Nat} {rv : Hp} (hA : adOk ad 59) (C : CX p s m args meth c cX3_beginHour 3 none RX3 D ids) (hX : (ExC tt ad) s s.heap) {k : Nat} (hk : isX3 k) : ∀ (h : Hp) (x2 : Int32) (H : Heap) (locs : List Loc) (ls : Array Slot), f_X3_beginHour_97 k h x2 = some rv → wp D (cEC ids ad) ad 59 h H → va_S (inW ad 59) s.heap H locs → lv_has ls 3 [(0, .ref (ad k)), (2, .int x2)] → W p l e rm_X3_beginHour s m args below meth c H locs 0 0 (MQ below (QW D (cEC ids ad) ad 59 none rv) args s 0 0 (inW ad 59)) (F0 m 97 ls [.ref (ad k)]) := by
  intro h x2 H locs ls hf hP hS hl
  unfold f_X3_beginHour_97 at hf
  refine lv_iconst (v := (0 : Int32)) C.1 C.2.1 dX3_beginHour_97 (by decide) ?_
  exact w_X3_beginHour_98 hA C hX hk _ _ _ _ _ _ hf hP hS (lv_sub hl [0, 1] rfl)
set_option maxRecDepth 100000 in
set_option maxHeartbeats 4000000 in
theorem w_X3_beginHour_50 {p : Program} {l : Launch} {e : Env} {s : State} {m : MethodId} {args : Array Value} {below : List Frame} {meth : Method} {c : Code} {D : va_G} {ids : Nat → ClassId} {ad tt : Nat → Nat} {rv : Hp} (hA : adOk ad 59) (C : CX p s m args meth c cX3_beginHour 3 none RX3 D ids) (hX : (ExC tt ad) s s.heap) {k : Nat} (hk : isX3 k) : ∀ (h : Hp) (x1 : Int32) (x2 : Int32) (H : Heap) (locs : List Loc) (ls : Array Slot), f_X3_beginHour_50 k h x1 x2 = some rv → wp D (cEC ids ad) ad 59 h H → va_S (inW ad 59) s.heap H locs → lv_has ls 3 [(0, .ref (ad k)), (1, .int x1), (2, .int x2)] → W p l e rm_X3_beginHour s m args below meth c H locs 0 0 (MQ below (QW D (cEC ids ad) ad 59 none rv) args s 0 0 (inW ad 59)) (F0 m 50 ls []) := by
  intro h x1 x2 H locs ls hf hP hS hl
  unfold f_X3_beginHour_50 at hf
  refine lv_aload_n C.1 C.2.1 dX3_beginHour_50 rfl (lv_at hl 0 rfl) ?_
  refine lv_aload_n C.1 C.2.1 dX3_beginHour_51 rfl (lv_at hl 0 rfl) ?_
  refine gf_X3_25 C hk hP dX3_beginHour_52 ?_
  refine lv_if_ne (tgt := 97) C.1 C.2.1 dX3_beginHour_55 (by decide) (fun hc => ?_) (fun hc => ?_)
  · have hf := g_f hc hf
    exact w_X3_beginHour_97 hA C hX hk _ _ _ _ _ hf hP hS (lv_sub hl [0, 2] rfl)
  · have hf := g_t hc hf
    refine lv_iload_n C.1 C.2.1 dX3_beginHour_58 rfl (lv_at hl 1 rfl) ?_
    refine lv_bipush (v := (21 : Int32)) C.1 C.2.1 dX3_beginHour_59 (by decide) ?_
    refine lv_icmp_gt (tgt := 97) C.1 C.2.1 dX3_beginHour_61 (by decide) (fun hc => ?_) (fun hc => ?_)
    · have hf := g_t hc hf
      exact w_X3_beginHour_97 hA C hX hk _ _ _ _ _ hf hP hS (lv_sub hl [0, 2] rfl)
    · have hf := g_f hc hf
      refine lv_aload_n C.1 C.2.1 dX3_beginHour_64 rfl (lv_at hl 0 rfl) ?_
      refine gf_X3_12 C hk hP dX3_beginHour_65 ?_
      refine lv_aload_n C.1 C.2.1 dX3_beginHour_68 rfl (lv_at hl 0 rfl) ?_
      refine gf_X3_38 C hk hP dX3_beginHour_69 ?_
      obtain ⟨q1, eq1, hf⟩ := g_b hf
      refine cv_X3_60 hA C hX hP hS (tt_of hk) eq1 ⟨Nat.le_of_ble_eq_true rfl, Nat.le_of_ble_eq_true rfl⟩ hl.1 (Nat.le_of_ble_eq_true rfl) dX3_beginHour_72 (fun H locs hP hS => ?_)
      refine lv_if_eq (tgt := 97) C.1 C.2.1 dX3_beginHour_75 (by decide) (fun hc => ?_) (fun hc => ?_)
      · have hf := g_t hc hf
        exact w_X3_beginHour_97 hA C hX hk _ _ _ _ _ hf hP hS (lv_sub hl [0, 2] rfl)
      · have hf := g_f hc hf
        refine lv_aload_n C.1 C.2.1 dX3_beginHour_78 rfl (lv_at hl 0 rfl) ?_
        refine gf_X3_12 C hk hP dX3_beginHour_79 ?_
        refine lv_aload_n C.1 C.2.1 dX3_beginHour_82 rfl (lv_at hl 0 rfl) ?_
        refine gf_X3_38 C hk hP dX3_beginHour_83 ?_
        obtain ⟨q2, eq2, hf⟩ := g_b hf
        refine cv_X3_64 hA C hX hP hS (tt_of hk) eq2 ⟨Nat.le_of_ble_eq_true rfl, Nat.le_of_ble_eq_true rfl⟩ hl.1 (Nat.le_of_ble_eq_true rfl) dX3_beginHour_86 (fun H locs hP hS => ?_)
        refine lv_iload_n C.1 C.2.1 dX3_beginHour_89 rfl (lv_at hl 1 rfl) ?_
        refine lv_icmp_gt (tgt := 97) C.1 C.2.1 dX3_beginHour_90 (by decide) (fun hc => ?_) (fun hc => ?_)
        · have hf := g_t hc hf
          exact w_X3_beginHour_97 hA C hX hk _ _ _ _ _ hf hP hS (lv_sub hl [0, 2] rfl)
        · have hf := g_f hc hf
          refine lv_iconst (v := (1 : Int32)) C.1 C.2.1 dX3_beginHour_93 (by decide) ?_
          refine lv_goto (tgt := 98) C.1 C.2.1 dX3_beginHour_94 (by decide) ?_
          exact w_X3_beginHour_98 hA C hX hk _ _ _ _ _ _ hf hP hS (lv_sub hl [0, 2] rfl)
set_option maxRecDepth 100000 in
set_option maxHeartbeats 4000000 in
theorem w_X3_beginHour_38 {p : Program} {l : Launch} {e : Env} {s : State} {m : MethodId} {args : Array Value} {below : List Frame} {meth : Method} {c : Code} {D : va_G} {ids : Nat → ClassId} {ad tt : Nat → Nat} {rv : Hp} (hA : adOk ad 59) (C : CX p s m args meth c cX3_beginHour 3 none RX3 D ids) (hX : (ExC tt ad) s s.heap) {k : Nat} (hk : isX3 k) : ∀ (h : Hp) (x1 : Int32) (x2 : Int32) (H : Heap) (locs : List Loc) (ls : Array Slot), f_X3_beginHour_38 k h x1 x2 = some rv → wp D (cEC ids ad) ad 59 h H → va_S (inW ad 59) s.heap H locs → lv_has ls 3 [(0, .ref (ad k)), (1, .int x1), (2, .int x2)] → W p l e rm_X3_beginHour s m args below meth c H locs 0 0 (MQ below (QW D (cEC ids ad) ad 59 none rv) args s 0 0 (inW ad 59)) (F0 m 38 ls []) := by
  intro h x1 x2 H locs ls hf hP hS hl
  unfold f_X3_beginHour_38 at hf
  refine lv_aload_n C.1 C.2.1 dX3_beginHour_38 rfl (lv_at hl 0 rfl) ?_
  refine lv_aload_n C.1 C.2.1 dX3_beginHour_39 rfl (lv_at hl 0 rfl) ?_
  refine gf_X3_22 C hk hP dX3_beginHour_40 ?_
  refine lv_iconst (v := (1 : Int32)) C.1 C.2.1 dX3_beginHour_43 (by decide) ?_
  refine lv_iadd C.1 C.2.1 dX3_beginHour_44 ?_
  refine lv_iconst (v := (2 : Int32)) C.1 C.2.1 dX3_beginHour_45 (by decide) ?_
  refine lv_irem C.1 C.2.1 dX3_beginHour_46 (by decide) ?_
  refine pf_X3_22 hA C hk hP hS dX3_beginHour_47 (fun H locs hP hS => ?_)
  exact w_X3_beginHour_50 hA C hX hk _ _ _ _ _ _ hf hP hS (lv_sub hl [0, 1, 2] rfl)
set_option maxRecDepth 100000 in
set_option maxHeartbeats 4000000 in
theorem w_X3_beginHour_23 {p : Program} {l : Launch} {e : Env} {s : State} {m : MethodId} {args : Array Value} {below : List Frame} {meth : Method} {c : Code} {D : va_G} {ids : Nat → ClassId} {ad tt : Nat → Nat} {rv : Hp} (hA : adOk ad 59) (C : CX p s m args meth c cX3_beginHour 3 none RX3 D ids) (hX : (ExC tt ad) s s.heap) {k : Nat} (hk : isX3 k) : ∀ (h : Hp) (x1 : Int32) (x2 : Int32) (t1 : Int32) (H : Heap) (locs : List Loc) (ls : Array Slot), f_X3_beginHour_23 k h x1 x2 t1 = some rv → wp D (cEC ids ad) ad 59 h H → va_S (inW ad 59) s.heap H locs → lv_has ls 3 [(0, .ref (ad k)), (1, .int x1), (2, .int x2)] → W p l e rm_X3_beginHour s m args below meth c H locs 0 0 (MQ below (QW D (cEC ids ad) ad 59 none rv) args s 0 0 (inW ad 59)) (F0 m 23 ls [.int t1, .ref (ad k)]) := by
  intro h x1 x2 t1 H locs ls hf hP hS hl
  unfold f_X3_beginHour_23 at hf
  obtain ⟨hg, hf⟩ := g_if hf
  refine pf_X3_32 hA C hk hg hP hS dX3_beginHour_23 (fun H locs hP hS => ?_)
  refine lv_aload_n C.1 C.2.1 dX3_beginHour_26 rfl (lv_at hl 0 rfl) ?_
  refine gf_X3_32 C hk hP dX3_beginHour_27 ?_
  refine lv_if_eq (tgt := 50) C.1 C.2.1 dX3_beginHour_30 (by decide) (fun hc => ?_) (fun hc => ?_)
  · have hf := g_t hc hf
    exact w_X3_beginHour_50 hA C hX hk _ _ _ _ _ _ hf hP hS (lv_sub hl [0, 1, 2] rfl)
  · have hf := g_f hc hf
    refine lv_aload_n C.1 C.2.1 dX3_beginHour_33 rfl (lv_at hl 0 rfl) ?_
    refine lv_iconst (v := (0 : Int32)) C.1 C.2.1 dX3_beginHour_34 (by decide) ?_
    refine pf_X3_25 hA C hk isb_0 hP hS dX3_beginHour_35 (fun H locs hP hS => ?_)
    exact w_X3_beginHour_38 hA C hX hk _ _ _ _ _ _ hf hP hS (lv_sub hl [0, 1, 2] rfl)
set_option maxRecDepth 100000 in
set_option maxHeartbeats 4000000 in
theorem w_X3_beginHour_22 {p : Program} {l : Launch} {e : Env} {s : State} {m : MethodId} {args : Array Value} {below : List Frame} {meth : Method} {c : Code} {D : va_G} {ids : Nat → ClassId} {ad tt : Nat → Nat} {rv : Hp} (hA : adOk ad 59) (C : CX p s m args meth c cX3_beginHour 3 none RX3 D ids) (hX : (ExC tt ad) s s.heap) {k : Nat} (hk : isX3 k) : ∀ (h : Hp) (x1 : Int32) (x2 : Int32) (H : Heap) (locs : List Loc) (ls : Array Slot), f_X3_beginHour_22 k h x1 x2 = some rv → wp D (cEC ids ad) ad 59 h H → va_S (inW ad 59) s.heap H locs → lv_has ls 3 [(0, .ref (ad k)), (1, .int x1), (2, .int x2)] → W p l e rm_X3_beginHour s m args below meth c H locs 0 0 (MQ below (QW D (cEC ids ad) ad 59 none rv) args s 0 0 (inW ad 59)) (F0 m 22 ls [.ref (ad k)]) := by
  intro h x1 x2 H locs ls hf hP hS hl
  unfold f_X3_beginHour_22 at hf
  refine lv_iconst (v := (0 : Int32)) C.1 C.2.1 dX3_beginHour_22 (by decide) ?_
  exact w_X3_beginHour_23 hA C hX hk _ _ _ _ _ _ _ hf hP hS (lv_sub hl [0, 1, 2] rfl)
set_option maxRecDepth 100000 in
set_option maxHeartbeats 4000000 in
theorem w_X3_beginHour {p : Program} {l : Launch} {e : Env} {s : State} {m : MethodId} {args : Array Value} {below : List Frame} {meth : Method} {c : Code} {D : va_G} {ids : Nat → ClassId} {ad tt : Nat → Nat} {rv : Hp} (hA : adOk ad 59) (C : CX p s m args meth c cX3_beginHour 3 none RX3 D ids) (hX : (ExC tt ad) s s.heap) {k : Nat} (hk : isX3 k) : ∀ (h : Hp) (a1 : Int32) (a2 : Int32) (H : Heap) (locs : List Loc) (ls : Array Slot), f_X3_beginHour h k a1 a2 = some rv → wp D (cEC ids ad) ad 59 h H → va_S (inW ad 59) s.heap H locs → lv_has ls 3 [(0, .ref (ad k)), (1, .int a1), (2, .int a2)] → W p l e rm_X3_beginHour s m args below meth c H locs 0 0 (MQ below (QW D (cEC ids ad) ad 59 none rv) args s 0 0 (inW ad 59)) (F0 m 0 ls []) := by
  intro h a1 a2 H locs ls hf hP hS hl
  unfold f_X3_beginHour at hf
  refine lv_aload_n C.1 C.2.1 dX3_beginHour_0 rfl (lv_at hl 0 rfl) ?_
  refine lv_aload_n C.1 C.2.1 dX3_beginHour_1 rfl (lv_at hl 0 rfl) ?_
  refine gf_X3_25 C hk hP dX3_beginHour_2 ?_
  refine lv_if_eq (tgt := 22) C.1 C.2.1 dX3_beginHour_5 (by decide) (fun hc => ?_) (fun hc => ?_)
  · have hf := g_t hc hf
    exact w_X3_beginHour_22 hA C hX hk _ _ _ _ _ _ hf hP hS (lv_sub hl [0, 1, 2] rfl)
  · have hf := g_f hc hf
    refine lv_iload_n C.1 C.2.1 dX3_beginHour_8 rfl (lv_at hl 1 rfl) ?_
    refine lv_aload_n C.1 C.2.1 dX3_beginHour_9 rfl (lv_at hl 0 rfl) ?_
    refine gf_X3_29 C hk hP dX3_beginHour_10 ?_
    refine lv_iconst (v := (2 : Int32)) C.1 C.2.1 dX3_beginHour_13 (by decide) ?_
    refine lv_iadd C.1 C.2.1 dX3_beginHour_14 ?_
    refine lv_icmp_ne (tgt := 22) C.1 C.2.1 dX3_beginHour_15 (by decide) (fun hc => ?_) (fun hc => ?_)
    · have hf := g_f hc hf
      exact w_X3_beginHour_22 hA C hX hk _ _ _ _ _ _ hf hP hS (lv_sub hl [0, 1, 2] rfl)
    · have hf := g_t hc hf
      refine lv_iconst (v := (1 : Int32)) C.1 C.2.1 dX3_beginHour_18 (by decide) ?_
      refine lv_goto (tgt := 23) C.1 C.2.1 dX3_beginHour_19 (by decide) ?_
      exact w_X3_beginHour_23 hA C hX hk _ _ _ _ _ _ _ hf hP hS (lv_sub hl [0, 1, 2] rfl)
theorem c_X3_beginHour (l : Launch) (D : va_G) (ids : Nat → ClassId) (ad tt : Nat → Nat) (hA : adOk ad 59) {k : Nat} (hk : isX3 k) {a1 : Int32} {a2 : Int32} {h : Hp} {rv : Hp} (hf : f_X3_beginHour h k a1 a2 = some rv) : Met l yX3_beginHour (ws_ yX3_beginHour cX3_beginHour 3 none) rm_X3_beginHour (va_Pc [.ref (ad k), .int a1, .int a2] (WB D ids (cEC ids ad) ad 59 (ExC tt ad) h)) (QW D (cEC ids ad) ad 59 none rv) 0 0 (inW ad 59) :=
  u_met (own := RX3) (by decide) rfl (Nat.le_of_ble_eq_true rfl) rfl (fun p e s m args below meth c H ls C hX hP hS hl => w_X3_beginHour (tt := tt) hA C hX hk _ _ _ _ _ _ hf hP hS hl)
abbrev rm_X3_wantsFrom : Room := { frames := 0, cells := 0, slots := 0, locals := 0 }
set_option maxRecDepth 100000 in
set_option maxHeartbeats 4000000 in
theorem w_X3_wantsFrom {p : Program} {l : Launch} {e : Env} {s : State} {m : MethodId} {args : Array Value} {below : List Frame} {meth : Method} {c : Code} {D : va_G} {ids : Nat → ClassId} {ad tt : Nat → Nat} {rv : Int32 × Hp} (hA : adOk ad 59) (C : CX p s m args meth c cX3_wantsFrom 2 (some .boolean) RX3 D ids) (hX : (ExC tt ad) s s.heap) {k : Nat} (hk : isX3 k) : ∀ (h : Hp) (a1 : Int32) (H : Heap) (locs : List Loc) (ls : Array Slot), f_X3_wantsFrom h k a1 = some rv → wp D (cEC ids ad) ad 59 h H → va_S (inW ad 59) s.heap H locs → lv_has ls 2 [(0, .ref (ad k)), (1, .int a1)] → W p l e rm_X3_wantsFrom s m args below meth c H locs 0 0 (MQ below (QW D (cEC ids ad) ad 59 (some (.int rv.1)) rv.2) args s 0 0 (inW ad 59)) (F0 m 0 ls []) := by
  intro h a1 H locs ls hf hP hS hl
  unfold f_X3_wantsFrom at hf
  refine lv_aload_n C.1 C.2.1 dX3_wantsFrom_0 rfl (lv_at hl 0 rfl) ?_
  refine gf_X3_35 C hk hP dX3_wantsFrom_1 ?_
  refine lv_if_eq (tgt := 19) C.1 C.2.1 dX3_wantsFrom_4 (by decide) (fun hc => ?_) (fun hc => ?_)
  · have hf := g_t hc hf
    refine lv_iconst (v := (0 : Int32)) C.1 C.2.1 dX3_wantsFrom_19 (by decide) ?_
    obtain rfl := Option.some.inj hf
    exact u_zret C hP hS isb_0 dX3_wantsFrom_20
  · have hf := g_f hc hf
    refine lv_aload_n C.1 C.2.1 dX3_wantsFrom_7 rfl (lv_at hl 0 rfl) ?_
    refine gf_X3_22 C hk hP dX3_wantsFrom_8 ?_
    refine lv_iload_n C.1 C.2.1 dX3_wantsFrom_11 rfl (lv_at hl 1 rfl) ?_
    refine lv_icmp_ne (tgt := 19) C.1 C.2.1 dX3_wantsFrom_12 (by decide) (fun hc => ?_) (fun hc => ?_)
    · have hf := g_f hc hf
      refine lv_iconst (v := (0 : Int32)) C.1 C.2.1 dX3_wantsFrom_19 (by decide) ?_
      obtain rfl := Option.some.inj hf
      exact u_zret C hP hS isb_0 dX3_wantsFrom_20
    · have hf := g_t hc hf
      refine lv_iconst (v := (1 : Int32)) C.1 C.2.1 dX3_wantsFrom_15 (by decide) ?_
      refine lv_goto (tgt := 20) C.1 C.2.1 dX3_wantsFrom_16 (by decide) ?_
      obtain rfl := Option.some.inj hf
      exact u_zret C hP hS isb_1 dX3_wantsFrom_20
theorem c_X3_wantsFrom (l : Launch) (D : va_G) (ids : Nat → ClassId) (ad tt : Nat → Nat) (hA : adOk ad 59) {k : Nat} (hk : isX3 k) {a1 : Int32} {h : Hp} {rv : Int32 × Hp} (hf : f_X3_wantsFrom h k a1 = some rv) : Met l yX3_wantsFrom (ws_ yX3_wantsFrom cX3_wantsFrom 2 (some .boolean)) rm_X3_wantsFrom (va_Pc [.ref (ad k), .int a1] (WB D ids (cEC ids ad) ad 59 (ExC tt ad) h)) (QW D (cEC ids ad) ad 59 (some (.int rv.1)) rv.2) 0 0 (inW ad 59) :=
  u_met (own := RX3) (by decide) rfl (Nat.le_of_ble_eq_true rfl) rfl (fun p e s m args below meth c H ls C hX hP hS hl => w_X3_wantsFrom (tt := tt) hA C hX hk _ _ _ _ _ hf hP hS hl)
abbrev rm_X3_arrivedAt : Room := { frames := 0, cells := 0, slots := 0, locals := 0 }
set_option maxRecDepth 100000 in
set_option maxHeartbeats 4000000 in
theorem w_X3_arrivedAt {p : Program} {l : Launch} {e : Env} {s : State} {m : MethodId} {args : Array Value} {below : List Frame} {meth : Method} {c : Code} {D : va_G} {ids : Nat → ClassId} {ad tt : Nat → Nat} {rv : Int32 × Hp} (hA : adOk ad 59) (C : CX p s m args meth c cX3_arrivedAt 2 (some .boolean) RX3 D ids) (hX : (ExC tt ad) s s.heap) {k : Nat} (hk : isX3 k) : ∀ (h : Hp) (a1 : Int32) (H : Heap) (locs : List Loc) (ls : Array Slot), f_X3_arrivedAt h k a1 = some rv → wp D (cEC ids ad) ad 59 h H → va_S (inW ad 59) s.heap H locs → lv_has ls 2 [(0, .ref (ad k)), (1, .int a1)] → W p l e rm_X3_arrivedAt s m args below meth c H locs 0 0 (MQ below (QW D (cEC ids ad) ad 59 (some (.int rv.1)) rv.2) args s 0 0 (inW ad 59)) (F0 m 0 ls []) := by
  intro h a1 H locs ls hf hP hS hl
  unfold f_X3_arrivedAt at hf
  refine lv_aload_n C.1 C.2.1 dX3_arrivedAt_0 rfl (lv_at hl 0 rfl) ?_
  refine gf_X3_32 C hk hP dX3_arrivedAt_1 ?_
  refine lv_if_eq (tgt := 19) C.1 C.2.1 dX3_arrivedAt_4 (by decide) (fun hc => ?_) (fun hc => ?_)
  · have hf := g_t hc hf
    refine lv_iconst (v := (0 : Int32)) C.1 C.2.1 dX3_arrivedAt_19 (by decide) ?_
    obtain rfl := Option.some.inj hf
    exact u_zret C hP hS isb_0 dX3_arrivedAt_20
  · have hf := g_f hc hf
    refine lv_aload_n C.1 C.2.1 dX3_arrivedAt_7 rfl (lv_at hl 0 rfl) ?_
    refine gf_X3_22 C hk hP dX3_arrivedAt_8 ?_
    refine lv_iload_n C.1 C.2.1 dX3_arrivedAt_11 rfl (lv_at hl 1 rfl) ?_
    refine lv_icmp_ne (tgt := 19) C.1 C.2.1 dX3_arrivedAt_12 (by decide) (fun hc => ?_) (fun hc => ?_)
    · have hf := g_f hc hf
      refine lv_iconst (v := (0 : Int32)) C.1 C.2.1 dX3_arrivedAt_19 (by decide) ?_
      obtain rfl := Option.some.inj hf
      exact u_zret C hP hS isb_0 dX3_arrivedAt_20
    · have hf := g_t hc hf
      refine lv_iconst (v := (1 : Int32)) C.1 C.2.1 dX3_arrivedAt_15 (by decide) ?_
      refine lv_goto (tgt := 20) C.1 C.2.1 dX3_arrivedAt_16 (by decide) ?_
      obtain rfl := Option.some.inj hf
      exact u_zret C hP hS isb_1 dX3_arrivedAt_20
theorem c_X3_arrivedAt (l : Launch) (D : va_G) (ids : Nat → ClassId) (ad tt : Nat → Nat) (hA : adOk ad 59) {k : Nat} (hk : isX3 k) {a1 : Int32} {h : Hp} {rv : Int32 × Hp} (hf : f_X3_arrivedAt h k a1 = some rv) : Met l yX3_arrivedAt (ws_ yX3_arrivedAt cX3_arrivedAt 2 (some .boolean)) rm_X3_arrivedAt (va_Pc [.ref (ad k), .int a1] (WB D ids (cEC ids ad) ad 59 (ExC tt ad) h)) (QW D (cEC ids ad) ad 59 (some (.int rv.1)) rv.2) 0 0 (inW ad 59) :=
  u_met (own := RX3) (by decide) rfl (Nat.le_of_ble_eq_true rfl) rfl (fun p e s m args below meth c H ls C hX hP hS hl => w_X3_arrivedAt (tt := tt) hA C hX hk _ _ _ _ _ hf hP hS hl)
theorem gf_X4_18 {p : Program} {l : Launch} {e : Env} {R : Room} {s : State} {m : MethodId} {args : Array Value} {below : List Frame} {meth : Method} {c : Code} {H : Heap} {locs : List Loc} {cells slots : Nat} {Q : State → Prop} {cc : ByteArray} {nL : Nat} {ret : Option FieldType} {pc : Nat} {ls : Array Slot} {rest : List Value} {D : va_G} {ids : Nat → ClassId} {ad : Nat → Nat} {h : Hp} (C : CX p s m args meth c cc nL ret RX4 D ids) (hP : wp D (cEC ids ad) ad 59 h H) (hdg : decode cc pc = .ok (.getfield 18, 3)) (kk : W p l e R s m args below meth c H locs cells slots Q (F0 m (pc + 3) ls (.int (h 48 1) :: rest))) : W p l e R s m args below meth c H locs cells slots Q (F0 m pc ls (.ref (ad 48) :: rest)) :=
  u_get C hP (by decide) cE_X4 rfl inX4 1 (by decide) rfl q_90 hdg kk
theorem pf_X4_18 {p : Program} {l : Launch} {e : Env} {R : Room} {s : State} {m : MethodId} {args : Array Value} {below : List Frame} {meth : Method} {c : Code} {H : Heap} {locs : List Loc} {cells slots : Nat} {Q : State → Prop} {cc : ByteArray} {nL : Nat} {ret : Option FieldType} {pc : Nat} {ls : Array Slot} {rest : List Value} {D : va_G} {ids : Nat → ClassId} {ad : Nat → Nat} {h : Hp} {x : Int32} (hA : adOk ad 59) (C : CX p s m args meth c cc nL ret RX4 D ids) (hP : wp D (cEC ids ad) ad 59 h H) (hS : va_S (inW ad 59) s.heap H locs) (hdg : decode cc pc = .ok (.putfield 18, 3)) (kk : ∀ (H1 : Heap) (locs1 : List Loc), wp D (cEC ids ad) ad 59 (hs h 48 1 x) H1 → va_S (inW ad 59) s.heap H1 locs1 → W p l e R s m args below meth c H1 locs1 cells slots Q (F0 m (pc + 3) ls rest)) : W p l e R s m args below meth c H locs cells slots Q (F0 m pc ls (.int x :: .ref (ad 48) :: rest)) :=
  u_put hA C hP hS (by decide) cE_X4 rfl inX4 tyX4 tyX4_ok nmX4 1 (by decide) rfl q_90 rfl (ty := .int) rfl rfl rfl hdg kk
theorem gf_X4_22 {p : Program} {l : Launch} {e : Env} {R : Room} {s : State} {m : MethodId} {args : Array Value} {below : List Frame} {meth : Method} {c : Code} {H : Heap} {locs : List Loc} {cells slots : Nat} {Q : State → Prop} {cc : ByteArray} {nL : Nat} {ret : Option FieldType} {pc : Nat} {ls : Array Slot} {rest : List Value} {D : va_G} {ids : Nat → ClassId} {ad : Nat → Nat} {h : Hp} (C : CX p s m args meth c cc nL ret RX4 D ids) (hP : wp D (cEC ids ad) ad 59 h H) (hdg : decode cc pc = .ok (.getfield 22, 3)) (kk : W p l e R s m args below meth c H locs cells slots Q (F0 m (pc + 3) ls (.int (h 48 2) :: rest))) : W p l e R s m args below meth c H locs cells slots Q (F0 m pc ls (.ref (ad 48) :: rest)) :=
  u_get C hP (by decide) cE_X4 rfl inX4 2 (by decide) rfl q_91 hdg kk
theorem pf_X4_22 {p : Program} {l : Launch} {e : Env} {R : Room} {s : State} {m : MethodId} {args : Array Value} {below : List Frame} {meth : Method} {c : Code} {H : Heap} {locs : List Loc} {cells slots : Nat} {Q : State → Prop} {cc : ByteArray} {nL : Nat} {ret : Option FieldType} {pc : Nat} {ls : Array Slot} {rest : List Value} {D : va_G} {ids : Nat → ClassId} {ad : Nat → Nat} {h : Hp} {x : Int32} (hA : adOk ad 59) (C : CX p s m args meth c cc nL ret RX4 D ids) (hP : wp D (cEC ids ad) ad 59 h H) (hS : va_S (inW ad 59) s.heap H locs) (hdg : decode cc pc = .ok (.putfield 22, 3)) (kk : ∀ (H1 : Heap) (locs1 : List Loc), wp D (cEC ids ad) ad 59 (hs h 48 2 x) H1 → va_S (inW ad 59) s.heap H1 locs1 → W p l e R s m args below meth c H1 locs1 cells slots Q (F0 m (pc + 3) ls rest)) : W p l e R s m args below meth c H locs cells slots Q (F0 m pc ls (.int x :: .ref (ad 48) :: rest)) :=
  u_put hA C hP hS (by decide) cE_X4 rfl inX4 tyX4 tyX4_ok nmX4 2 (by decide) rfl q_91 rfl (ty := .int) rfl rfl rfl hdg kk
abbrev rm_X4_drawLot : Room := { frames := 0, cells := 0, slots := 0, locals := 0 }
set_option maxRecDepth 100000 in
set_option maxHeartbeats 4000000 in
theorem w_X4_drawLot_27 {p : Program} {l : Launch} {e : Env} {s : State} {m : MethodId} {args : Array Value} {below : List Frame} {meth : Method} {c : Code} {D : va_G} {ids : Nat → ClassId} {ad tt : Nat → Nat} {rv : Int32 × Hp} (hA : adOk ad 59) (C : CX p s m args meth c cX4_drawLot 2 (some .int) RX4 D ids) (hX : (ExC tt ad) s s.heap) : ∀ (h : Hp) (x1 : Int32) (H : Heap) (locs : List Loc) (ls : Array Slot), f_X4_drawLot_27 h x1 = some rv → wp D (cEC ids ad) ad 59 h H → va_S (inW ad 59) s.heap H locs → lv_has ls 2 [(0, .ref (ad 48)), (1, .int x1)] → W p l e rm_X4_drawLot s m args below meth c H locs 0 0 (MQ below (QW D (cEC ids ad) ad 59 (some (.int rv.1)) rv.2) args s 0 0 (inW ad 59)) (F0 m 27 ls []) := by
  intro h x1 H locs ls hf hP hS hl
  unfold f_X4_drawLot_27 at hf
  refine lv_iload_n C.1 C.2.1 dX4_drawLot_27 rfl (lv_at hl 1 rfl) ?_
  refine lv_if_le (tgt := 40) C.1 C.2.1 dX4_drawLot_28 (by decide) (fun hc => ?_) (fun hc => ?_)
  · have hf := g_t hc hf
    refine lv_iconst (v := (0 : Int32)) C.1 C.2.1 dX4_drawLot_40 (by decide) ?_
    obtain rfl := Option.some.inj hf
    exact u_iret C hP hS dX4_drawLot_41
  · have hf := g_f hc hf
    refine lv_aload_n C.1 C.2.1 dX4_drawLot_31 rfl (lv_at hl 0 rfl) ?_
    refine gf_X4_18 C hP dX4_drawLot_32 ?_
    refine lv_iload_n C.1 C.2.1 dX4_drawLot_35 rfl (lv_at hl 1 rfl) ?_
    obtain ⟨hg, hf⟩ := g_if hf
    refine lv_irem C.1 C.2.1 dX4_drawLot_36 hg ?_
    refine lv_goto (tgt := 41) C.1 C.2.1 dX4_drawLot_37 (by decide) ?_
    obtain rfl := Option.some.inj hf
    exact u_iret C hP hS dX4_drawLot_41
set_option maxRecDepth 100000 in
set_option maxHeartbeats 4000000 in
theorem w_X4_drawLot {p : Program} {l : Launch} {e : Env} {s : State} {m : MethodId} {args : Array Value} {below : List Frame} {meth : Method} {c : Code} {D : va_G} {ids : Nat → ClassId} {ad tt : Nat → Nat} {rv : Int32 × Hp} (hA : adOk ad 59) (C : CX p s m args meth c cX4_drawLot 2 (some .int) RX4 D ids) (hX : (ExC tt ad) s s.heap) : ∀ (h : Hp) (a1 : Int32) (H : Heap) (locs : List Loc) (ls : Array Slot), f_X4_drawLot h a1 = some rv → wp D (cEC ids ad) ad 59 h H → va_S (inW ad 59) s.heap H locs → lv_has ls 2 [(0, .ref (ad 48)), (1, .int a1)] → W p l e rm_X4_drawLot s m args below meth c H locs 0 0 (MQ below (QW D (cEC ids ad) ad 59 (some (.int rv.1)) rv.2) args s 0 0 (inW ad 59)) (F0 m 0 ls []) := by
  intro h a1 H locs ls hf hP hS hl
  unfold f_X4_drawLot at hf
  refine lv_aload_n C.1 C.2.1 dX4_drawLot_0 rfl (lv_at hl 0 rfl) ?_
  refine lv_bipush (v := (75 : Int32)) C.1 C.2.1 dX4_drawLot_1 (by decide) ?_
  refine lv_aload_n C.1 C.2.1 dX4_drawLot_3 rfl (lv_at hl 0 rfl) ?_
  refine gf_X4_18 C hP dX4_drawLot_4 ?_
  refine lv_imul C.1 C.2.1 dX4_drawLot_7 ?_
  refine lv_bipush (v := (74 : Int32)) C.1 C.2.1 dX4_drawLot_8 (by decide) ?_
  refine lv_iadd C.1 C.2.1 dX4_drawLot_10 ?_
  refine lv_ldc (v := (65537 : Int32)) C.1 C.2.1 C.2.2.2.2.2.1 (C.2.2.2.2.2.2.1 _ q_315) dX4_drawLot_11 ?_
  refine lv_irem C.1 C.2.1 dX4_drawLot_13 (by decide) ?_
  refine pf_X4_18 hA C hP hS dX4_drawLot_14 (fun H locs hP hS => ?_)
  refine lv_aload_n C.1 C.2.1 dX4_drawLot_17 rfl (lv_at hl 0 rfl) ?_
  refine lv_dup C.1 C.2.1 dX4_drawLot_18 rfl ?_
  refine gf_X4_22 C hP dX4_drawLot_19 ?_
  refine lv_iconst (v := (1 : Int32)) C.1 C.2.1 dX4_drawLot_22 (by decide) ?_
  refine lv_iadd C.1 C.2.1 dX4_drawLot_23 ?_
  refine pf_X4_22 hA C hP hS dX4_drawLot_24 (fun H locs hP hS => ?_)
  exact w_X4_drawLot_27 hA C hX _ _ _ _ _ hf hP hS (lv_sub hl [0, 1] rfl)
theorem c_X4_drawLot (l : Launch) (D : va_G) (ids : Nat → ClassId) (ad tt : Nat → Nat) (hA : adOk ad 59) {a1 : Int32} {h : Hp} {rv : Int32 × Hp} (hf : f_X4_drawLot h a1 = some rv) : Met l yX4_drawLot (ws_ yX4_drawLot cX4_drawLot 2 (some .int)) rm_X4_drawLot (va_Pc [.ref (ad 48), .int a1] (WB D ids (cEC ids ad) ad 59 (ExC tt ad) h)) (QW D (cEC ids ad) ad 59 (some (.int rv.1)) rv.2) 0 0 (inW ad 59) :=
  u_met (own := RX4) (by decide) rfl (Nat.le_of_ble_eq_true rfl) rfl (fun p e s m args below meth c H ls C hX hP hS hl => w_X4_drawLot (tt := tt) hA C hX _ _ _ _ _ hf hP hS hl)
theorem pf_X3_29 {p : Program} {l : Launch} {e : Env} {R : Room} {s : State} {m : MethodId} {args : Array Value} {below : List Frame} {meth : Method} {c : Code} {H : Heap} {locs : List Loc} {cells slots : Nat} {Q : State → Prop} {cc : ByteArray} {nL : Nat} {ret : Option FieldType} {pc : Nat} {ls : Array Slot} {rest : List Value} {D : va_G} {ids : Nat → ClassId} {ad : Nat → Nat} {h : Hp} {x : Int32} (hA : adOk ad 59) (C : CX p s m args meth c cc nL ret RX3 D ids) {k : Nat} (hk : isX3 k) (hP : wp D (cEC ids ad) ad 59 h H) (hS : va_S (inW ad 59) s.heap H locs) (hdg : decode cc pc = .ok (.putfield 29, 3)) (kk : ∀ (H1 : Heap) (locs1 : List Loc), wp D (cEC ids ad) ad 59 (hs h k 4 x) H1 → va_S (inW ad 59) s.heap H1 locs1 → W p l e R s m args below meth c H1 locs1 cells slots Q (F0 m (pc + 3) ls rest)) : W p l e R s m args below meth c H locs cells slots Q (F0 m pc ls (.int x :: .ref (ad k) :: rest)) :=
  u_put hA C hP hS (lt_X3 hk) (cE_X3 hk) rfl inX3 tyX3 tyX3_ok nmX3 4 (by decide) rfl q_100 rfl (ty := .int) rfl rfl rfl hdg kk
abbrev rm_X3_depart : Room := { frames := 0, cells := 0, slots := 0, locals := 0 }
set_option maxRecDepth 100000 in
set_option maxHeartbeats 4000000 in
theorem w_X3_depart_10 {p : Program} {l : Launch} {e : Env} {s : State} {m : MethodId} {args : Array Value} {below : List Frame} {meth : Method} {c : Code} {D : va_G} {ids : Nat → ClassId} {ad tt : Nat → Nat} {rv : Hp} (hA : adOk ad 59) (C : CX p s m args meth c cX3_depart 2 none RX3 D ids) (hX : (ExC tt ad) s s.heap) {k : Nat} (hk : isX3 k) : ∀ (h : Hp) (x1 : Int32) (H : Heap) (locs : List Loc) (ls : Array Slot), f_X3_depart_10 k h x1 = some rv → wp D (cEC ids ad) ad 59 h H → va_S (inW ad 59) s.heap H locs → lv_has ls 2 [(0, .ref (ad k)), (1, .int x1)] → W p l e rm_X3_depart s m args below meth c H locs 0 0 (MQ below (QW D (cEC ids ad) ad 59 none rv) args s 0 0 (inW ad 59)) (F0 m 10 ls []) := by
  intro h x1 H locs ls hf hP hS hl
  unfold f_X3_depart_10 at hf
  refine lv_aload_n C.1 C.2.1 dX3_depart_10 rfl (lv_at hl 0 rfl) ?_
  refine lv_iload_n C.1 C.2.1 dX3_depart_11 rfl (lv_at hl 1 rfl) ?_
  refine pf_X3_29 hA C hk hP hS dX3_depart_12 (fun H locs hP hS => ?_)
  refine lv_aload_n C.1 C.2.1 dX3_depart_15 rfl (lv_at hl 0 rfl) ?_
  refine lv_dup C.1 C.2.1 dX3_depart_16 rfl ?_
  refine gf_X3_38 C hk hP dX3_depart_17 ?_
  refine lv_iconst (v := (1 : Int32)) C.1 C.2.1 dX3_depart_20 (by decide) ?_
  refine lv_iadd C.1 C.2.1 dX3_depart_21 ?_
  refine pf_X3_38 hA C hk hP hS dX3_depart_22 (fun H locs hP hS => ?_)
  obtain rfl := Option.some.inj hf
  exact u_vret C hP hS dX3_depart_25
set_option maxRecDepth 100000 in
set_option maxHeartbeats 4000000 in
theorem w_X3_depart {p : Program} {l : Launch} {e : Env} {s : State} {m : MethodId} {args : Array Value} {below : List Frame} {meth : Method} {c : Code} {D : va_G} {ids : Nat → ClassId} {ad tt : Nat → Nat} {rv : Hp} (hA : adOk ad 59) (C : CX p s m args meth c cX3_depart 2 none RX3 D ids) (hX : (ExC tt ad) s s.heap) {k : Nat} (hk : isX3 k) : ∀ (h : Hp) (a1 : Int32) (H : Heap) (locs : List Loc) (ls : Array Slot), f_X3_depart h k a1 = some rv → wp D (cEC ids ad) ad 59 h H → va_S (inW ad 59) s.heap H locs → lv_has ls 2 [(0, .ref (ad k)), (1, .int a1)] → W p l e rm_X3_depart s m args below meth c H locs 0 0 (MQ below (QW D (cEC ids ad) ad 59 none rv) args s 0 0 (inW ad 59)) (F0 m 0 ls []) := by
  intro h a1 H locs ls hf hP hS hl
  unfold f_X3_depart at hf
  refine lv_aload_n C.1 C.2.1 dX3_depart_0 rfl (lv_at hl 0 rfl) ?_
  refine lv_iconst (v := (1 : Int32)) C.1 C.2.1 dX3_depart_1 (by decide) ?_
  refine pf_X3_25 hA C hk isb_1 hP hS dX3_depart_2 (fun H locs hP hS => ?_)
  refine lv_aload_n C.1 C.2.1 dX3_depart_5 rfl (lv_at hl 0 rfl) ?_
  refine lv_iconst (v := (0 : Int32)) C.1 C.2.1 dX3_depart_6 (by decide) ?_
  refine pf_X3_35 hA C hk isb_0 hP hS dX3_depart_7 (fun H locs hP hS => ?_)
  exact w_X3_depart_10 hA C hX hk _ _ _ _ _ hf hP hS (lv_sub hl [0, 1] rfl)
theorem c_X3_depart (l : Launch) (D : va_G) (ids : Nat → ClassId) (ad tt : Nat → Nat) (hA : adOk ad 59) {k : Nat} (hk : isX3 k) {a1 : Int32} {h : Hp} {rv : Hp} (hf : f_X3_depart h k a1 = some rv) : Met l yX3_depart (ws_ yX3_depart cX3_depart 2 none) rm_X3_depart (va_Pc [.ref (ad k), .int a1] (WB D ids (cEC ids ad) ad 59 (ExC tt ad) h)) (QW D (cEC ids ad) ad 59 none rv) 0 0 (inW ad 59) :=
  u_met (own := RX3) (by decide) rfl (Nat.le_of_ble_eq_true rfl) rfl (fun p e s m args below meth c H ls C hX hP hS hl => w_X3_depart (tt := tt) hA C hX hk _ _ _ _ _ hf hP hS hl)
theorem gf_X3_44 {p : Program} {l : Launch} {e : Env} {R : Room} {s : State} {m : MethodId} {args : Array Value} {below : List Frame} {meth : Method} {c : Code} {H : Heap} {locs : List Loc} {cells slots : Nat} {Q : State → Prop} {cc : ByteArray} {nL : Nat} {ret : Option FieldType} {pc : Nat} {ls : Array Slot} {rest : List Value} {D : va_G} {ids : Nat → ClassId} {ad : Nat → Nat} {h : Hp} (C : CX p s m args meth c cc nL ret RX3 D ids) {k : Nat} (hk : isX3 k) (hP : wp D (cEC ids ad) ad 59 h H) (hdg : decode cc pc = .ok (.getfield 44, 3)) (kk : W p l e R s m args below meth c H locs cells slots Q (F0 m (pc + 3) ls (.int (h k 9) :: rest))) : W p l e R s m args below meth c H locs cells slots Q (F0 m pc ls (.ref (ad k) :: rest)) :=
  u_get C hP (lt_X3 hk) (cE_X3 hk) rfl inX3 9 (by decide) rfl q_105 hdg kk
theorem gf_X3_47 {p : Program} {l : Launch} {e : Env} {R : Room} {s : State} {m : MethodId} {args : Array Value} {below : List Frame} {meth : Method} {c : Code} {H : Heap} {locs : List Loc} {cells slots : Nat} {Q : State → Prop} {cc : ByteArray} {nL : Nat} {ret : Option FieldType} {pc : Nat} {ls : Array Slot} {rest : List Value} {D : va_G} {ids : Nat → ClassId} {ad : Nat → Nat} {h : Hp} (C : CX p s m args meth c cc nL ret RX3 D ids) {k : Nat} (hk : isX3 k) (hP : wp D (cEC ids ad) ad 59 h H) (hdg : decode cc pc = .ok (.getfield 47, 3)) (kk : W p l e R s m args below meth c H locs cells slots Q (F0 m (pc + 3) ls (.int (h k 10) :: rest))) : W p l e R s m args below meth c H locs cells slots Q (F0 m pc ls (.ref (ad k) :: rest)) :=
  u_get C hP (lt_X3 hk) (cE_X3 hk) rfl inX3 10 (by decide) rfl q_106 hdg kk
abbrev rm_X3_stay : Room := { frames := 0, cells := 0, slots := 0, locals := 0 }
set_option maxRecDepth 100000 in
set_option maxHeartbeats 4000000 in
theorem w_X3_stay {p : Program} {l : Launch} {e : Env} {s : State} {m : MethodId} {args : Array Value} {below : List Frame} {meth : Method} {c : Code} {D : va_G} {ids : Nat → ClassId} {ad tt : Nat → Nat} {rv : Hp} (hA : adOk ad 59) (C : CX p s m args meth c cX3_stay 2 none RX3 D ids) (hX : (ExC tt ad) s s.heap) {k : Nat} (hk : isX3 k) : ∀ (h : Hp) (a1 : Int32) (H : Heap) (locs : List Loc) (ls : Array Slot), f_X3_stay h k a1 = some rv → wp D (cEC ids ad) ad 59 h H → va_S (inW ad 59) s.heap H locs → lv_has ls 2 [(0, .ref (ad k)), (1, .int a1)] → W p l e rm_X3_stay s m args below meth c H locs 0 0 (MQ below (QW D (cEC ids ad) ad 59 none rv) args s 0 0 (inW ad 59)) (F0 m 0 ls []) := by
  intro h a1 H locs ls hf hP hS hl
  unfold f_X3_stay at hf
  refine lv_aload_n C.1 C.2.1 dX3_stay_0 rfl (lv_at hl 0 rfl) ?_
  refine lv_dup C.1 C.2.1 dX3_stay_1 rfl ?_
  refine gf_X3_44 C hk hP dX3_stay_2 ?_
  refine lv_iconst (v := (1 : Int32)) C.1 C.2.1 dX3_stay_5 (by decide) ?_
  refine lv_iadd C.1 C.2.1 dX3_stay_6 ?_
  refine pf_X3_44 hA C hk hP hS dX3_stay_7 (fun H locs hP hS => ?_)
  refine lv_iload_n C.1 C.2.1 dX3_stay_10 rfl (lv_at hl 1 rfl) ?_
  refine lv_if_eq (tgt := 24) C.1 C.2.1 dX3_stay_11 (by decide) (fun hc => ?_) (fun hc => ?_)
  · have hf := g_t hc hf
    obtain rfl := Option.some.inj hf
    exact u_vret C hP hS dX3_stay_24
  · have hf := g_f hc hf
    refine lv_aload_n C.1 C.2.1 dX3_stay_14 rfl (lv_at hl 0 rfl) ?_
    refine lv_dup C.1 C.2.1 dX3_stay_15 rfl ?_
    refine gf_X3_47 C hk hP dX3_stay_16 ?_
    refine lv_iconst (v := (1 : Int32)) C.1 C.2.1 dX3_stay_19 (by decide) ?_
    refine lv_iadd C.1 C.2.1 dX3_stay_20 ?_
    refine pf_X3_47 hA C hk hP hS dX3_stay_21 (fun H locs hP hS => ?_)
    obtain rfl := Option.some.inj hf
    exact u_vret C hP hS dX3_stay_24
theorem c_X3_stay (l : Launch) (D : va_G) (ids : Nat → ClassId) (ad tt : Nat → Nat) (hA : adOk ad 59) {k : Nat} (hk : isX3 k) {a1 : Int32} {h : Hp} {rv : Hp} (hf : f_X3_stay h k a1 = some rv) : Met l yX3_stay (ws_ yX3_stay cX3_stay 2 none) rm_X3_stay (va_Pc [.ref (ad k), .int a1] (WB D ids (cEC ids ad) ad 59 (ExC tt ad) h)) (QW D (cEC ids ad) ad 59 none rv) 0 0 (inW ad 59) :=
  u_met (own := RX3) (by decide) rfl (Nat.le_of_ble_eq_true rfl) rfl (fun p e s m args below meth c H ls C hX hP hS hl => w_X3_stay (tt := tt) hA C hX hk _ _ _ _ _ hf hP hS hl)
theorem gf_X4_12 {p : Program} {l : Launch} {e : Env} {R : Room} {s : State} {m : MethodId} {args : Array Value} {below : List Frame} {meth : Method} {c : Code} {H : Heap} {locs : List Loc} {cells slots : Nat} {Q : State → Prop} {cc : ByteArray} {nL : Nat} {ret : Option FieldType} {pc : Nat} {ls : Array Slot} {rest : List Value} {D : va_G} {ids : Nat → ClassId} {ad : Nat → Nat} {h : Hp} (C : CX p s m args meth c cc nL ret RX4 D ids) (hP : wp D (cEC ids ad) ad 59 h H) (hdg : decode cc pc = .ok (.getfield 12, 3)) (kk : W p l e R s m args below meth c H locs cells slots Q (F0 m (pc + 3) ls (.ref (ad 49) :: rest))) : W p l e R s m args below meth c H locs cells slots Q (F0 m pc ls (.ref (ad 48) :: rest)) :=
  u_get C hP (by decide) cE_X4 rfl inX4 0 (by decide) rfl q_89 hdg kk
theorem ln_aFe {p : Program} {l : Launch} {e : Env} {R : Room} {s : State} {m : MethodId} {args : Array Value} {below : List Frame} {meth : Method} {c : Code} {H : Heap} {locs : List Loc} {cells slots : Nat} {Q : State → Prop} {cc : ByteArray} {nL : Nat} {ret : Option FieldType} {own : String} {pc : Nat} {ls : Array Slot} {rest : List Value} {D : va_G} {ids : Nat → ClassId} {ad : Nat → Nat} {h : Hp} (C : CX p s m args meth c cc nL ret own D ids) (hP : wp D (cEC ids ad) ad 59 h H) (hdg : decode cc pc = .ok (.arraylength, 1)) (kk : W p l e R s m args below meth c H locs cells slots Q (F0 m (pc + 1) ls (.int (3 : Int32) :: rest))) : W p l e R s m args below meth c H locs cells slots Q (F0 m pc ls (.ref (ad 49) :: rest)) :=
  u_alen C hP 3 rfl (by decide) (cE_aFe _) rfl hdg kk
theorem rl_aFe {p : Program} {l : Launch} {e : Env} {R : Room} {s : State} {m : MethodId} {args : Array Value} {below : List Frame} {meth : Method} {c : Code} {H : Heap} {locs : List Loc} {cells slots : Nat} {Q : State → Prop} {cc : ByteArray} {nL : Nat} {ret : Option FieldType} {own : String} {pc : Nat} {ls : Array Slot} {rest : List Value} {D : va_G} {ids : Nat → ClassId} {ad : Nat → Nat} {h : Hp} (C : CX p s m args meth c cc nL ret own D ids) (hP : wp D (cEC ids ad) ad 59 h H) {i : Int32} (hg : inb i 3 = true) (hdg : decode cc pc = .ok (.aaload, 1)) (kk : W p l e R s m args below meth c H locs cells slots Q (F0 m (pc + 1) ls (.ref (ad (50 + 3 * i.toNatClampNeg)) :: rest))) : W p l e R s m args below meth c H locs cells slots Q (F0 m pc ls (.int i :: .ref (ad 49) :: rest)) :=
  u_aald C hP 3 rfl (by decide) cE_aFe hg rfl hdg kk
theorem cv_X4_50 {p : Program} {l : Launch} {e : Env} {R : Room} {s : State} {m : MethodId} {args : Array Value} {below : List Frame} {meth : Method} {c : Code} {H : Heap} {locs : List Loc} {Q : State → Prop} {cc : ByteArray} {nL : Nat} {ret : Option FieldType} {pc : Nat} {ls : Array Slot} {rest : List Value} {D : va_G} {ids : Nat → ClassId} {ad tt : Nat → Nat} {h : Hp} (hA : adOk ad 59) (C : CX p s m args meth c cc nL ret RX4 D ids) (hX : (ExC tt ad) s s.heap) (hP : wp D (cEC ids ad) ad 59 h H) (hS : va_S (inW ad 59) s.heap H locs) {k : Nat} (hk : isX3 k) {a1 : Int32} {rv : Int32 × Hp} (hf : f_X3_wantsFrom h k a1 = some rv) (hR : 0 + 1 ≤ R.frames ∧ 8 + (2 + 11) + 0 ≤ R.locals) (hsz : ls.size = nL) (hcat : (rest.map fun v => v.category).sum ≤ 8) (hdg : decode cc pc = .ok (.invokevirtual 50, 3)) (kk : ∀ (H1 : Heap) (locs1 : List Loc), wp D (cEC ids ad) ad 59 rv.2 H1 → va_S (inW ad 59) s.heap H1 locs1 → W p l e R s m args below meth c H1 locs1 0 0 Q (F0 m (pc + 3) ls (.int rv.1 :: rest))) : W p l e R s m args below meth c H locs 0 0 Q (F0 m pc ls (.int a1 :: .ref (ad k) :: rest)) :=
  u_callV (As := [.int a1]) (rv := (some (.int rv.1))) C (exC_ok hA) hX (c_X3_wantsFrom l D ids ad tt hA hk hf) q_303 q_304 q_305 q_88 q_306 ⟨rfl, rfl⟩ (by refine ⟨by decide +kernel, by decide +kernel, ?_⟩; show _ = some 1; decide +kernel) hR (lt_X3 hk) (cE_X3 hk _) rfl hP hS hsz hcat rfl hdg kk
theorem cv_X4_57 {p : Program} {l : Launch} {e : Env} {R : Room} {s : State} {m : MethodId} {args : Array Value} {below : List Frame} {meth : Method} {c : Code} {H : Heap} {locs : List Loc} {Q : State → Prop} {cc : ByteArray} {nL : Nat} {ret : Option FieldType} {pc : Nat} {ls : Array Slot} {rest : List Value} {D : va_G} {ids : Nat → ClassId} {ad tt : Nat → Nat} {h : Hp} (hA : adOk ad 59) (C : CX p s m args meth c cc nL ret RX4 D ids) (hX : (ExC tt ad) s s.heap) (hP : wp D (cEC ids ad) ad 59 h H) (hS : va_S (inW ad 59) s.heap H locs) {a1 : Int32} {rv : Int32 × Hp} (hf : f_X4_drawLot h a1 = some rv) (hR : 0 + 1 ≤ R.frames ∧ 8 + (2 + 11) + 0 ≤ R.locals) (hsz : ls.size = nL) (hcat : (rest.map fun v => v.category).sum ≤ 8) (hdg : decode cc pc = .ok (.invokevirtual 57, 3)) (kk : ∀ (H1 : Heap) (locs1 : List Loc), wp D (cEC ids ad) ad 59 rv.2 H1 → va_S (inW ad 59) s.heap H1 locs1 → W p l e R s m args below meth c H1 locs1 0 0 Q (F0 m (pc + 3) ls (.int rv.1 :: rest))) : W p l e R s m args below meth c H locs 0 0 Q (F0 m pc ls (.int a1 :: .ref (ad 48) :: rest)) :=
  u_callV (As := [.int a1]) (rv := (some (.int rv.1))) C (exC_ok hA) hX (c_X4_drawLot l D ids ad tt hA hf) q_311 q_312 q_313 q_28 q_314 ⟨rfl, rfl⟩ (by refine ⟨by decide +kernel, by decide +kernel, ?_⟩; show _ = some 1; decide +kernel) hR (by decide) (cE_X4 _) rfl hP hS hsz hcat rfl hdg kk
theorem cv_X4_54 {p : Program} {l : Launch} {e : Env} {R : Room} {s : State} {m : MethodId} {args : Array Value} {below : List Frame} {meth : Method} {c : Code} {H : Heap} {locs : List Loc} {Q : State → Prop} {cc : ByteArray} {nL : Nat} {ret : Option FieldType} {pc : Nat} {ls : Array Slot} {rest : List Value} {D : va_G} {ids : Nat → ClassId} {ad tt : Nat → Nat} {h : Hp} (hA : adOk ad 59) (C : CX p s m args meth c cc nL ret RX4 D ids) (hX : (ExC tt ad) s s.heap) (hP : wp D (cEC ids ad) ad 59 h H) (hS : va_S (inW ad 59) s.heap H locs) {k : Nat} (hk : isX3 k) {a1 : Int32} {rv : Int32 × Hp} (hf : f_X3_arrivedAt h k a1 = some rv) (hR : 0 + 1 ≤ R.frames ∧ 8 + (2 + 11) + 0 ≤ R.locals) (hsz : ls.size = nL) (hcat : (rest.map fun v => v.category).sum ≤ 8) (hdg : decode cc pc = .ok (.invokevirtual 54, 3)) (kk : ∀ (H1 : Heap) (locs1 : List Loc), wp D (cEC ids ad) ad 59 rv.2 H1 → va_S (inW ad 59) s.heap H1 locs1 → W p l e R s m args below meth c H1 locs1 0 0 Q (F0 m (pc + 3) ls (.int rv.1 :: rest))) : W p l e R s m args below meth c H locs 0 0 Q (F0 m pc ls (.int a1 :: .ref (ad k) :: rest)) :=
  u_callV (As := [.int a1]) (rv := (some (.int rv.1))) C (exC_ok hA) hX (c_X3_arrivedAt l D ids ad tt hA hk hf) q_307 q_308 q_309 q_88 q_310 ⟨rfl, rfl⟩ (by refine ⟨by decide +kernel, by decide +kernel, ?_⟩; show _ = some 1; decide +kernel) hR (lt_X3 hk) (cE_X3 hk _) rfl hP hS hsz hcat rfl hdg kk
theorem cv_X4_61 {p : Program} {l : Launch} {e : Env} {R : Room} {s : State} {m : MethodId} {args : Array Value} {below : List Frame} {meth : Method} {c : Code} {H : Heap} {locs : List Loc} {Q : State → Prop} {cc : ByteArray} {nL : Nat} {ret : Option FieldType} {pc : Nat} {ls : Array Slot} {rest : List Value} {D : va_G} {ids : Nat → ClassId} {ad tt : Nat → Nat} {h : Hp} (hA : adOk ad 59) (C : CX p s m args meth c cc nL ret RX4 D ids) (hX : (ExC tt ad) s s.heap) (hP : wp D (cEC ids ad) ad 59 h H) (hS : va_S (inW ad 59) s.heap H locs) {k : Nat} (hk : isX3 k) {a1 : Int32} {rv : Hp} (hf : f_X3_depart h k a1 = some rv) (hR : 0 + 1 ≤ R.frames ∧ 8 + (2 + 11) + 0 ≤ R.locals) (hsz : ls.size = nL) (hcat : (rest.map fun v => v.category).sum ≤ 8) (hdg : decode cc pc = .ok (.invokevirtual 61, 3)) (kk : ∀ (H1 : Heap) (locs1 : List Loc), wp D (cEC ids ad) ad 59 rv H1 → va_S (inW ad 59) s.heap H1 locs1 → W p l e R s m args below meth c H1 locs1 0 0 Q (F0 m (pc + 3) ls (rest))) : W p l e R s m args below meth c H locs 0 0 Q (F0 m pc ls (.int a1 :: .ref (ad k) :: rest)) :=
  u_callV (As := [.int a1]) (rv := none) C (exC_ok hA) hX (c_X3_depart l D ids ad tt hA hk hf) q_316 q_317 q_318 q_88 q_319 ⟨rfl, rfl⟩ (by refine ⟨by decide +kernel, by decide +kernel, ?_⟩; show _ = some 1; decide +kernel) hR (lt_X3 hk) (cE_X3 hk _) rfl hP hS hsz hcat rfl hdg kk
theorem cv_X4_65 {p : Program} {l : Launch} {e : Env} {R : Room} {s : State} {m : MethodId} {args : Array Value} {below : List Frame} {meth : Method} {c : Code} {H : Heap} {locs : List Loc} {Q : State → Prop} {cc : ByteArray} {nL : Nat} {ret : Option FieldType} {pc : Nat} {ls : Array Slot} {rest : List Value} {D : va_G} {ids : Nat → ClassId} {ad tt : Nat → Nat} {h : Hp} (hA : adOk ad 59) (C : CX p s m args meth c cc nL ret RX4 D ids) (hX : (ExC tt ad) s s.heap) (hP : wp D (cEC ids ad) ad 59 h H) (hS : va_S (inW ad 59) s.heap H locs) {k : Nat} (hk : isX3 k) {a1 : Int32} {rv : Hp} (hf : f_X3_stay h k a1 = some rv) (hR : 0 + 1 ≤ R.frames ∧ 8 + (2 + 11) + 0 ≤ R.locals) (hsz : ls.size = nL) (hcat : (rest.map fun v => v.category).sum ≤ 8) (hdg : decode cc pc = .ok (.invokevirtual 65, 3)) (kk : ∀ (H1 : Heap) (locs1 : List Loc), wp D (cEC ids ad) ad 59 rv H1 → va_S (inW ad 59) s.heap H1 locs1 → W p l e R s m args below meth c H1 locs1 0 0 Q (F0 m (pc + 3) ls (rest))) : W p l e R s m args below meth c H locs 0 0 Q (F0 m pc ls (.int a1 :: .ref (ad k) :: rest)) :=
  u_callV (As := [.int a1]) (rv := none) C (exC_ok hA) hX (c_X3_stay l D ids ad tt hA hk hf) q_320 q_321 q_322 q_88 q_323 ⟨rfl, rfl⟩ (by refine ⟨by decide +kernel, by decide +kernel, ?_⟩; show _ = some 1; decide +kernel) hR (lt_X3 hk) (cE_X3 hk _) rfl hP hS hsz hcat rfl hdg kk
abbrev rm_X4_givePier : Room := { frames := 1, cells := 0, slots := 0, locals := 21 }
set_option maxRecDepth 100000 in
set_option maxHeartbeats 4000000 in
theorem w_X4_givePier_62 {p : Program} {l : Launch} {e : Env} {s : State} {m : MethodId} {args : Array Value} {below : List Frame} {meth : Method} {c : Code} {D : va_G} {ids : Nat → ClassId} {ad tt : Nat → Nat} {rv : Hp} (hA : adOk ad 59) (C : CX p s m args meth c cX4_givePier 12 none RX4 D ids) (hX : (ExC tt ad) s s.heap) {K19 : Hp → Int32 → Int32 → Int32 → Int32 → Int32 → Int32 → Option (Hp)} (hK19 : ∀ (h : Hp) (x1 : Int32) (x2 : Int32) (x3 : Int32) (x4 : Int32) (x6 : Int32) (x7 : Int32) (H : Heap) (locs : List Loc) (ls : Array Slot), K19 h x1 x2 x3 x4 x6 x7 = some rv → wp D (cEC ids ad) ad 59 h H → va_S (inW ad 59) s.heap H locs → lv_has ls 12 [(0, .ref (ad 48)), (1, .int x1), (2, .int x2), (3, .int x3), (4, .int x4), (5, .ref (ad 49)), (6, .int x6), (7, .int x7)] → W p l e rm_X4_givePier s m args below meth c H locs 0 0 (MQ below (QW D (cEC ids ad) ad 59 none rv) args s 0 0 (inW ad 59)) (F0 m 19 ls [])) : ∀ (h : Hp) (x1 : Int32) (x2 : Int32) (x3 : Int32) (x4 : Int32) (x6 : Int32) (x7 : Int32) (H : Heap) (locs : List Loc) (ls : Array Slot), f_X4_givePier_62 K19 h x1 x2 x3 x4 x6 x7 = some rv → wp D (cEC ids ad) ad 59 h H → va_S (inW ad 59) s.heap H locs → lv_has ls 12 [(0, .ref (ad 48)), (1, .int x1), (2, .int x2), (3, .int x3), (4, .int x4), (5, .ref (ad 49)), (6, .int x6), (7, .int x7)] → W p l e rm_X4_givePier s m args below meth c H locs 0 0 (MQ below (QW D (cEC ids ad) ad 59 none rv) args s 0 0 (inW ad 59)) (F0 m 62 ls []) := by
  intro h x1 x2 x3 x4 x6 x7 H locs ls hf hP hS hl
  unfold f_X4_givePier_62 at hf
  refine lv_iinc (v := (x7 + 1)) (lv' := [(7, .int (x7 + 1)), (0, .ref (ad 48)), (1, .int x1), (2, .int x2), (3, .int x3), (4, .int x4), (5, .ref (ad 49)), (6, .int x6)]) C.1 C.2.1 dX4_givePier_62 hl (k := 7) rfl (by rfl) (by decide) rfl (fun ls hl => ?_)
  refine lv_goto (tgt := 19) C.1 C.2.1 dX4_givePier_65 (by decide) ?_
  exact hK19 _ _ _ _ _ _ _ _ _ _ hf hP hS (lv_sub hl [1, 2, 3, 4, 5, 6, 7, 0] rfl)
set_option maxRecDepth 100000 in
set_option maxHeartbeats 4000000 in
theorem w_X4_givePier_48 {p : Program} {l : Launch} {e : Env} {s : State} {m : MethodId} {args : Array Value} {below : List Frame} {meth : Method} {c : Code} {D : va_G} {ids : Nat → ClassId} {ad tt : Nat → Nat} {rv : Hp} (hA : adOk ad 59) (C : CX p s m args meth c cX4_givePier 12 none RX4 D ids) (hX : (ExC tt ad) s s.heap) {K19 : Hp → Int32 → Int32 → Int32 → Int32 → Int32 → Int32 → Option (Hp)} (hK19 : ∀ (h : Hp) (x1 : Int32) (x2 : Int32) (x3 : Int32) (x4 : Int32) (x6 : Int32) (x7 : Int32) (H : Heap) (locs : List Loc) (ls : Array Slot), K19 h x1 x2 x3 x4 x6 x7 = some rv → wp D (cEC ids ad) ad 59 h H → va_S (inW ad 59) s.heap H locs → lv_has ls 12 [(0, .ref (ad 48)), (1, .int x1), (2, .int x2), (3, .int x3), (4, .int x4), (5, .ref (ad 49)), (6, .int x6), (7, .int x7)] → W p l e rm_X4_givePier s m args below meth c H locs 0 0 (MQ below (QW D (cEC ids ad) ad 59 none rv) args s 0 0 (inW ad 59)) (F0 m 19 ls [])) : ∀ (h : Hp) (x1 : Int32) (x2 : Int32) (x4 : Int32) (x6 : Int32) (x7 : Int32) (r8 : Nat) (t0 : Int32) (t1 : Int32) (H : Heap) (locs : List Loc) (ls : Array Slot), f_X4_givePier_48 K19 h x1 x2 x4 x6 x7 r8 t0 t1 = some rv → wp D (cEC ids ad) ad 59 h H → va_S (inW ad 59) s.heap H locs → isX3 r8 → lv_has ls 12 [(0, .ref (ad 48)), (1, .int x1), (2, .int x2), (4, .int x4), (5, .ref (ad 49)), (6, .int x6), (7, .int x7), (8, .ref (ad r8))] → W p l e rm_X4_givePier s m args below meth c H locs 0 0 (MQ below (QW D (cEC ids ad) ad 59 none rv) args s 0 0 (inW ad 59)) (F0 m 48 ls [.int t1, .int t0]) := by
  intro h x1 x2 x4 x6 x7 r8 t0 t1 H locs ls hf hP hS hr8 hl
  unfold f_X4_givePier_48 at hf
  refine lv_iadd C.1 C.2.1 dX4_givePier_48 ?_
  refine lv_istore_n (lv' := [(3, .int (t0 + t1)), (0, .ref (ad 48)), (1, .int x1), (2, .int x2), (4, .int x4), (5, .ref (ad 49)), (6, .int x6), (7, .int x7), (8, .ref (ad r8))]) C.1 C.2.1 dX4_givePier_49 rfl hl (by decide) rfl (fun ls hl => ?_)
  refine lv_aload C.1 C.2.1 dX4_givePier_50 (lv_at hl 8 rfl) ?_
  refine lv_iload_n C.1 C.2.1 dX4_givePier_52 rfl (lv_at hl 2 rfl) ?_
  obtain ⟨q1, eq1, hf⟩ := g_b hf
  refine cv_X4_54 hA C hX hP hS hr8 eq1 ⟨Nat.le_of_ble_eq_true rfl, Nat.le_of_ble_eq_true rfl⟩ hl.1 (Nat.le_of_ble_eq_true rfl) dX4_givePier_53 (fun H locs hP hS => ?_)
  refine lv_if_eq (tgt := 62) C.1 C.2.1 dX4_givePier_56 (by decide) (fun hc => ?_) (fun hc => ?_)
  · have hf := g_t hc hf
    exact w_X4_givePier_62 hA C hX hK19 _ _ _ _ _ _ _ _ _ _ hf hP hS (lv_sub hl [1, 2, 3, 0, 4, 5, 6, 7] rfl)
  · have hf := g_f hc hf
    refine lv_iconst (v := (1 : Int32)) C.1 C.2.1 dX4_givePier_59 (by decide) ?_
    refine lv_istore (lv' := [(4, .int (1 : Int32)), (3, .int (t0 + t1)), (0, .ref (ad 48)), (1, .int x1), (2, .int x2), (5, .ref (ad 49)), (6, .int x6), (7, .int x7), (8, .ref (ad r8))]) C.1 C.2.1 dX4_givePier_60 hl (by decide) rfl (fun ls hl => ?_)
    exact w_X4_givePier_62 hA C hX hK19 _ _ _ _ _ _ _ _ _ _ hf hP hS (lv_sub hl [2, 3, 4, 1, 0, 5, 6, 7] rfl)
set_option maxRecDepth 100000 in
set_option maxHeartbeats 4000000 in
theorem w_X4_givePier_172 {p : Program} {l : Launch} {e : Env} {s : State} {m : MethodId} {args : Array Value} {below : List Frame} {meth : Method} {c : Code} {D : va_G} {ids : Nat → ClassId} {ad tt : Nat → Nat} {rv : Hp} (hA : adOk ad 59) (C : CX p s m args meth c cX4_givePier 12 none RX4 D ids) (hX : (ExC tt ad) s s.heap) {K118 : Hp → Int32 → Int32 → Int32 → Int32 → Int32 → Int32 → Int32 → Int32 → Option (Hp)} (hK118 : ∀ (h : Hp) (x1 : Int32) (x2 : Int32) (x4 : Int32) (x5 : Int32) (x6 : Int32) (x7 : Int32) (x9 : Int32) (x10 : Int32) (H : Heap) (locs : List Loc) (ls : Array Slot), K118 h x1 x2 x4 x5 x6 x7 x9 x10 = some rv → wp D (cEC ids ad) ad 59 h H → va_S (inW ad 59) s.heap H locs → lv_has ls 12 [(1, .int x1), (2, .int x2), (4, .int x4), (5, .int x5), (6, .int x6), (7, .int x7), (8, .ref (ad 49)), (9, .int x9), (10, .int x10)] → W p l e rm_X4_givePier s m args below meth c H locs 0 0 (MQ below (QW D (cEC ids ad) ad 59 none rv) args s 0 0 (inW ad 59)) (F0 m 118 ls [])) : ∀ (h : Hp) (x1 : Int32) (x2 : Int32) (x4 : Int32) (x5 : Int32) (x6 : Int32) (x7 : Int32) (x9 : Int32) (x10 : Int32) (H : Heap) (locs : List Loc) (ls : Array Slot), f_X4_givePier_172 K118 h x1 x2 x4 x5 x6 x7 x9 x10 = some rv → wp D (cEC ids ad) ad 59 h H → va_S (inW ad 59) s.heap H locs → lv_has ls 12 [(1, .int x1), (2, .int x2), (4, .int x4), (5, .int x5), (6, .int x6), (7, .int x7), (8, .ref (ad 49)), (9, .int x9), (10, .int x10)] → W p l e rm_X4_givePier s m args below meth c H locs 0 0 (MQ below (QW D (cEC ids ad) ad 59 none rv) args s 0 0 (inW ad 59)) (F0 m 172 ls []) := by
  intro h x1 x2 x4 x5 x6 x7 x9 x10 H locs ls hf hP hS hl
  unfold f_X4_givePier_172 at hf
  refine lv_iinc (v := (x10 + 1)) (lv' := [(10, .int (x10 + 1)), (1, .int x1), (2, .int x2), (4, .int x4), (5, .int x5), (6, .int x6), (7, .int x7), (8, .ref (ad 49)), (9, .int x9)]) C.1 C.2.1 dX4_givePier_172 hl (k := 8) rfl (by rfl) (by decide) rfl (fun ls hl => ?_)
  refine lv_goto (tgt := 118) C.1 C.2.1 dX4_givePier_175 (by decide) ?_
  exact hK118 _ _ _ _ _ _ _ _ _ _ _ _ hf hP hS (lv_sub hl [1, 2, 3, 4, 5, 6, 7, 8, 0] rfl)
set_option maxRecDepth 100000 in
set_option maxHeartbeats 4000000 in
theorem w_X4_givePier_169 {p : Program} {l : Launch} {e : Env} {s : State} {m : MethodId} {args : Array Value} {below : List Frame} {meth : Method} {c : Code} {D : va_G} {ids : Nat → ClassId} {ad tt : Nat → Nat} {rv : Hp} (hA : adOk ad 59) (C : CX p s m args meth c cX4_givePier 12 none RX4 D ids) (hX : (ExC tt ad) s s.heap) {K118 : Hp → Int32 → Int32 → Int32 → Int32 → Int32 → Int32 → Int32 → Int32 → Option (Hp)} (hK118 : ∀ (h : Hp) (x1 : Int32) (x2 : Int32) (x4 : Int32) (x5 : Int32) (x6 : Int32) (x7 : Int32) (x9 : Int32) (x10 : Int32) (H : Heap) (locs : List Loc) (ls : Array Slot), K118 h x1 x2 x4 x5 x6 x7 x9 x10 = some rv → wp D (cEC ids ad) ad 59 h H → va_S (inW ad 59) s.heap H locs → lv_has ls 12 [(1, .int x1), (2, .int x2), (4, .int x4), (5, .int x5), (6, .int x6), (7, .int x7), (8, .ref (ad 49)), (9, .int x9), (10, .int x10)] → W p l e rm_X4_givePier s m args below meth c H locs 0 0 (MQ below (QW D (cEC ids ad) ad 59 none rv) args s 0 0 (inW ad 59)) (F0 m 118 ls [])) : ∀ (h : Hp) (x1 : Int32) (x2 : Int32) (x4 : Int32) (x5 : Int32) (x6 : Int32) (x7 : Int32) (x9 : Int32) (x10 : Int32) (H : Heap) (locs : List Loc) (ls : Array Slot), f_X4_givePier_169 K118 h x1 x2 x4 x5 x6 x7 x9 x10 = some rv → wp D (cEC ids ad) ad 59 h H → va_S (inW ad 59) s.heap H locs → lv_has ls 12 [(1, .int x1), (2, .int x2), (4, .int x4), (5, .int x5), (6, .int x6), (7, .int x7), (8, .ref (ad 49)), (9, .int x9), (10, .int x10)] → W p l e rm_X4_givePier s m args below meth c H locs 0 0 (MQ below (QW D (cEC ids ad) ad 59 none rv) args s 0 0 (inW ad 59)) (F0 m 169 ls []) := by
  intro h x1 x2 x4 x5 x6 x7 x9 x10 H locs ls hf hP hS hl
  unfold f_X4_givePier_169 at hf
  refine lv_iinc (v := (x7 + 1)) (lv' := [(7, .int (x7 + 1)), (1, .int x1), (2, .int x2), (4, .int x4), (5, .int x5), (6, .int x6), (8, .ref (ad 49)), (9, .int x9), (10, .int x10)]) C.1 C.2.1 dX4_givePier_169 hl (k := 5) rfl (by rfl) (by decide) rfl (fun ls hl => ?_)
  exact w_X4_givePier_172 hA C hX hK118 _ _ _ _ _ _ _ _ _ _ _ _ hf hP hS (lv_sub hl [1, 2, 3, 4, 5, 0, 6, 7, 8] rfl)
set_option maxRecDepth 100000 in
set_option maxHeartbeats 4000000 in
theorem w_X4_givePier_162 {p : Program} {l : Launch} {e : Env} {s : State} {m : MethodId} {args : Array Value} {below : List Frame} {meth : Method} {c : Code} {D : va_G} {ids : Nat → ClassId} {ad tt : Nat → Nat} {rv : Hp} (hA : adOk ad 59) (C : CX p s m args meth c cX4_givePier 12 none RX4 D ids) (hX : (ExC tt ad) s s.heap) {K118 : Hp → Int32 → Int32 → Int32 → Int32 → Int32 → Int32 → Int32 → Int32 → Option (Hp)} (hK118 : ∀ (h : Hp) (x1 : Int32) (x2 : Int32) (x4 : Int32) (x5 : Int32) (x6 : Int32) (x7 : Int32) (x9 : Int32) (x10 : Int32) (H : Heap) (locs : List Loc) (ls : Array Slot), K118 h x1 x2 x4 x5 x6 x7 x9 x10 = some rv → wp D (cEC ids ad) ad 59 h H → va_S (inW ad 59) s.heap H locs → lv_has ls 12 [(1, .int x1), (2, .int x2), (4, .int x4), (5, .int x5), (6, .int x6), (7, .int x7), (8, .ref (ad 49)), (9, .int x9), (10, .int x10)] → W p l e rm_X4_givePier s m args below meth c H locs 0 0 (MQ below (QW D (cEC ids ad) ad 59 none rv) args s 0 0 (inW ad 59)) (F0 m 118 ls [])) : ∀ (h : Hp) (x1 : Int32) (x2 : Int32) (x4 : Int32) (x5 : Int32) (x6 : Int32) (x7 : Int32) (x9 : Int32) (x10 : Int32) (r11 : Nat) (H : Heap) (locs : List Loc) (ls : Array Slot), f_X4_givePier_162 K118 h x1 x2 x4 x5 x6 x7 x9 x10 r11 = some rv → wp D (cEC ids ad) ad 59 h H → va_S (inW ad 59) s.heap H locs → isX3 r11 → lv_has ls 12 [(1, .int x1), (2, .int x2), (4, .int x4), (5, .int x5), (6, .int x6), (7, .int x7), (8, .ref (ad 49)), (9, .int x9), (10, .int x10), (11, .ref (ad r11))] → W p l e rm_X4_givePier s m args below meth c H locs 0 0 (MQ below (QW D (cEC ids ad) ad 59 none rv) args s 0 0 (inW ad 59)) (F0 m 162 ls []) := by
  intro h x1 x2 x4 x5 x6 x7 x9 x10 r11 H locs ls hf hP hS hr11 hl
  unfold f_X4_givePier_162 at hf
  refine lv_aload C.1 C.2.1 dX4_givePier_162 (lv_at hl 9 rfl) ?_
  refine lv_iload C.1 C.2.1 dX4_givePier_164 (lv_at hl 3 rfl) ?_
  obtain ⟨q1, eq1, hf⟩ := g_b hf
  refine cv_X4_65 hA C hX hP hS hr11 eq1 ⟨Nat.le_of_ble_eq_true rfl, Nat.le_of_ble_eq_true rfl⟩ hl.1 (Nat.le_of_ble_eq_true rfl) dX4_givePier_166 (fun H locs hP hS => ?_)
  exact w_X4_givePier_169 hA C hX hK118 _ _ _ _ _ _ _ _ _ _ _ _ hf hP hS (lv_sub hl [0, 1, 2, 3, 4, 5, 6, 7, 8] rfl)
set_option maxRecDepth 100000 in
set_option maxHeartbeats 4000000 in
theorem w_X4_givePier_118 {p : Program} {l : Launch} {e : Env} {s : State} {m : MethodId} {args : Array Value} {below : List Frame} {meth : Method} {c : Code} {D : va_G} {ids : Nat → ClassId} {ad tt : Nat → Nat} {rv : Hp} (hA : adOk ad 59) (C : CX p s m args meth c cX4_givePier 12 none RX4 D ids) (hX : (ExC tt ad) s s.heap) : ∀ (fu : Nat), ∀ (h : Hp) (x1 : Int32) (x2 : Int32) (x4 : Int32) (x5 : Int32) (x6 : Int32) (x7 : Int32) (x9 : Int32) (x10 : Int32) (H : Heap) (locs : List Loc) (ls : Array Slot), f_X4_givePier_118 fu h x1 x2 x4 x5 x6 x7 x9 x10 = some rv → wp D (cEC ids ad) ad 59 h H → va_S (inW ad 59) s.heap H locs → lv_has ls 12 [(1, .int x1), (2, .int x2), (4, .int x4), (5, .int x5), (6, .int x6), (7, .int x7), (8, .ref (ad 49)), (9, .int x9), (10, .int x10)] → W p l e rm_X4_givePier s m args below meth c H locs 0 0 (MQ below (QW D (cEC ids ad) ad 59 none rv) args s 0 0 (inW ad 59)) (F0 m 118 ls []) := by
  intro fu
  induction fu with
  | zero =>
    intro h x1 x2 x4 x5 x6 x7 x9 x10 H locs ls hf hP hS hl
    cases hf
  | succ fu ih =>
    intro h x1 x2 x4 x5 x6 x7 x9 x10 H locs ls hf hP hS hl
    rw [f_X4_givePier_118_s] at hf
    refine lv_iload C.1 C.2.1 dX4_givePier_118 (lv_at hl 8 rfl) ?_
    refine lv_iload C.1 C.2.1 dX4_givePier_120 (lv_at hl 7 rfl) ?_
    refine lv_icmp_ge (tgt := 178) C.1 C.2.1 dX4_givePier_122 (by decide) (fun hc => ?_) (fun hc => ?_)
    · have hf := g_t hc hf
      obtain rfl := Option.some.inj hf
      exact u_vret C hP hS dX4_givePier_178
    · have hf := g_f hc hf
      refine lv_aload C.1 C.2.1 dX4_givePier_125 (lv_at hl 6 rfl) ?_
      refine lv_iload C.1 C.2.1 dX4_givePier_127 (lv_at hl 8 rfl) ?_
      obtain ⟨hg1, hf⟩ := g_if hf
      refine rl_aFe C hP hg1 dX4_givePier_129 ?_
      refine lv_astore (lv' := [(11, .ref (ad (50 + 3 * x10.toNatClampNeg))), (1, .int x1), (2, .int x2), (4, .int x4), (5, .int x5), (6, .int x6), (7, .int x7), (8, .ref (ad 49)), (9, .int x9), (10, .int x10)]) C.1 C.2.1 dX4_givePier_130 hl (by decide) rfl (fun ls hl => ?_)
      refine lv_aload C.1 C.2.1 dX4_givePier_132 (lv_at hl 0 rfl) ?_
      refine lv_iload_n C.1 C.2.1 dX4_givePier_134 rfl (lv_at hl 1 rfl) ?_
      obtain ⟨q2, eq2, hf⟩ := g_b hf
      refine cv_X4_50 hA C hX hP hS (fe_el hg1) eq2 ⟨Nat.le_of_ble_eq_true rfl, Nat.le_of_ble_eq_true rfl⟩ hl.1 (Nat.le_of_ble_eq_true rfl) dX4_givePier_135 (fun H locs hP hS => ?_)
      refine lv_if_eq (tgt := 172) C.1 C.2.1 dX4_givePier_138 (by decide) (fun hc => ?_) (fun hc => ?_)
      · have hf := g_t hc hf
        exact w_X4_givePier_172 hA C hX ih _ _ _ _ _ _ _ _ _ _ _ _ hf hP hS (lv_sub hl [1, 2, 3, 4, 5, 6, 7, 8, 9] rfl)
      · have hf := g_f hc hf
        refine lv_iload C.1 C.2.1 dX4_givePier_141 (lv_at hl 3 rfl) ?_
        refine lv_if_ne (tgt := 162) C.1 C.2.1 dX4_givePier_143 (by decide) (fun hc => ?_) (fun hc => ?_)
        · have hf := g_f hc hf
          exact w_X4_givePier_162 hA C hX ih _ _ _ _ _ _ _ _ _ _ _ _ _ hf hP hS (fe_el hg1) (lv_sub hl [1, 2, 3, 4, 5, 6, 7, 8, 9, 0] rfl)
        · have hf := g_t hc hf
          refine lv_iload C.1 C.2.1 dX4_givePier_146 (lv_at hl 6 rfl) ?_
          refine lv_iload C.1 C.2.1 dX4_givePier_148 (lv_at hl 5 rfl) ?_
          refine lv_icmp_ne (tgt := 162) C.1 C.2.1 dX4_givePier_150 (by decide) (fun hc => ?_) (fun hc => ?_)
          · have hf := g_f hc hf
            exact w_X4_givePier_162 hA C hX ih _ _ _ _ _ _ _ _ _ _ _ _ _ hf hP hS (fe_el hg1) (lv_sub hl [1, 2, 3, 4, 5, 6, 7, 8, 9, 0] rfl)
          · have hf := g_t hc hf
            refine lv_aload C.1 C.2.1 dX4_givePier_153 (lv_at hl 0 rfl) ?_
            refine lv_iload_n C.1 C.2.1 dX4_givePier_155 rfl (lv_at hl 2 rfl) ?_
            obtain ⟨q3, eq3, hf⟩ := g_b hf
            refine cv_X4_61 hA C hX hP hS (fe_el hg1) eq3 ⟨Nat.le_of_ble_eq_true rfl, Nat.le_of_ble_eq_true rfl⟩ hl.1 (Nat.le_of_ble_eq_true rfl) dX4_givePier_156 (fun H locs hP hS => ?_)
            refine lv_goto (tgt := 169) C.1 C.2.1 dX4_givePier_159 (by decide) ?_
            exact w_X4_givePier_169 hA C hX ih _ _ _ _ _ _ _ _ _ _ _ _ hf hP hS (lv_sub hl [1, 2, 3, 4, 5, 6, 7, 8, 9] rfl)
set_option maxRecDepth 100000 in
set_option maxHeartbeats 4000000 in
theorem w_X4_givePier_99 {p : Program} {l : Launch} {e : Env} {s : State} {m : MethodId} {args : Array Value} {below : List Frame} {meth : Method} {c : Code} {D : va_G} {ids : Nat → ClassId} {ad tt : Nat → Nat} {rv : Hp} (hA : adOk ad 59) (C : CX p s m args meth c cX4_givePier 12 none RX4 D ids) (hX : (ExC tt ad) s s.heap) : ∀ (h : Hp) (x1 : Int32) (x2 : Int32) (x4 : Int32) (x5 : Int32) (t0 : Int32) (H : Heap) (locs : List Loc) (ls : Array Slot), f_X4_givePier_99 h x1 x2 x4 x5 t0 = some rv → wp D (cEC ids ad) ad 59 h H → va_S (inW ad 59) s.heap H locs → lv_has ls 12 [(0, .ref (ad 48)), (1, .int x1), (2, .int x2), (4, .int x4), (5, .int x5)] → W p l e rm_X4_givePier s m args below meth c H locs 0 0 (MQ below (QW D (cEC ids ad) ad 59 none rv) args s 0 0 (inW ad 59)) (F0 m 99 ls [.int t0]) := by
  intro h x1 x2 x4 x5 t0 H locs ls hf hP hS hl
  unfold f_X4_givePier_99 at hf
  refine lv_istore (lv' := [(6, .int t0), (0, .ref (ad 48)), (1, .int x1), (2, .int x2), (4, .int x4), (5, .int x5)]) C.1 C.2.1 dX4_givePier_99 hl (by decide) rfl (fun ls hl => ?_)
  refine lv_iconst (v := (0 : Int32)) C.1 C.2.1 dX4_givePier_101 (by decide) ?_
  refine lv_istore (lv' := [(7, .int (0 : Int32)), (6, .int t0), (0, .ref (ad 48)), (1, .int x1), (2, .int x2), (4, .int x4), (5, .int x5)]) C.1 C.2.1 dX4_givePier_102 hl (by decide) rfl (fun ls hl => ?_)
  refine lv_aload_n C.1 C.2.1 dX4_givePier_104 rfl (lv_at hl 2 rfl) ?_
  refine gf_X4_12 C hP dX4_givePier_105 ?_
  refine lv_astore (lv' := [(8, .ref (ad 49)), (7, .int (0 : Int32)), (6, .int t0), (0, .ref (ad 48)), (1, .int x1), (2, .int x2), (4, .int x4), (5, .int x5)]) C.1 C.2.1 dX4_givePier_108 hl (by decide) rfl (fun ls hl => ?_)
  refine lv_aload C.1 C.2.1 dX4_givePier_110 (lv_at hl 0 rfl) ?_
  refine ln_aFe C hP dX4_givePier_112 ?_
  refine lv_istore (lv' := [(9, .int (3 : Int32)), (8, .ref (ad 49)), (7, .int (0 : Int32)), (6, .int t0), (0, .ref (ad 48)), (1, .int x1), (2, .int x2), (4, .int x4), (5, .int x5)]) C.1 C.2.1 dX4_givePier_113 hl (by decide) rfl (fun ls hl => ?_)
  refine lv_iconst (v := (0 : Int32)) C.1 C.2.1 dX4_givePier_115 (by decide) ?_
  refine lv_istore (lv' := [(10, .int (0 : Int32)), (9, .int (3 : Int32)), (8, .ref (ad 49)), (7, .int (0 : Int32)), (6, .int t0), (0, .ref (ad 48)), (1, .int x1), (2, .int x2), (4, .int x4), (5, .int x5)]) C.1 C.2.1 dX4_givePier_116 hl (by decide) rfl (fun ls hl => ?_)
  exact w_X4_givePier_118 hA C hX _ _ _ _ _ _ _ _ _ _ _ _ _ hf hP hS (lv_sub hl [6, 7, 8, 9, 4, 3, 2, 1, 0] rfl)
set_option maxRecDepth 100000 in
set_option maxHeartbeats 4000000 in
theorem w_X4_givePier_83 {p : Program} {l : Launch} {e : Env} {s : State} {m : MethodId} {args : Array Value} {below : List Frame} {meth : Method} {c : Code} {D : va_G} {ids : Nat → ClassId} {ad tt : Nat → Nat} {rv : Hp} (hA : adOk ad 59) (C : CX p s m args meth c cX4_givePier 12 none RX4 D ids) (hX : (ExC tt ad) s s.heap) : ∀ (h : Hp) (x1 : Int32) (x2 : Int32) (x3 : Int32) (x4 : Int32) (t0 : Int32) (H : Heap) (locs : List Loc) (ls : Array Slot), f_X4_givePier_83 h x1 x2 x3 x4 t0 = some rv → wp D (cEC ids ad) ad 59 h H → va_S (inW ad 59) s.heap H locs → lv_has ls 12 [(0, .ref (ad 48)), (1, .int x1), (2, .int x2), (3, .int x3), (4, .int x4)] → W p l e rm_X4_givePier s m args below meth c H locs 0 0 (MQ below (QW D (cEC ids ad) ad 59 none rv) args s 0 0 (inW ad 59)) (F0 m 83 ls [.int t0]) := by
  intro h x1 x2 x3 x4 t0 H locs ls hf hP hS hl
  unfold f_X4_givePier_83 at hf
  refine lv_istore (lv' := [(5, .int t0), (0, .ref (ad 48)), (1, .int x1), (2, .int x2), (3, .int x3), (4, .int x4)]) C.1 C.2.1 dX4_givePier_83 hl (by decide) rfl (fun ls hl => ?_)
  refine lv_iload C.1 C.2.1 dX4_givePier_85 (lv_at hl 0 rfl) ?_
  refine lv_if_eq (tgt := 98) C.1 C.2.1 dX4_givePier_87 (by decide) (fun hc => ?_) (fun hc => ?_)
  · have hf := g_t hc hf
    refine lv_iconst (v := (0 : Int32)) C.1 C.2.1 dX4_givePier_98 (by decide) ?_
    exact w_X4_givePier_99 hA C hX _ _ _ _ _ _ _ _ _ hf hP hS (lv_sub hl [1, 2, 3, 5, 0] rfl)
  · have hf := g_f hc hf
    refine lv_aload_n C.1 C.2.1 dX4_givePier_90 rfl (lv_at hl 1 rfl) ?_
    refine lv_iload_n C.1 C.2.1 dX4_givePier_91 rfl (lv_at hl 4 rfl) ?_
    obtain ⟨q1, eq1, hf⟩ := g_b hf
    refine cv_X4_57 hA C hX hP hS eq1 ⟨Nat.le_of_ble_eq_true rfl, Nat.le_of_ble_eq_true rfl⟩ hl.1 (Nat.le_of_ble_eq_true rfl) dX4_givePier_92 (fun H locs hP hS => ?_)
    refine lv_goto (tgt := 99) C.1 C.2.1 dX4_givePier_95 (by decide) ?_
    exact w_X4_givePier_99 hA C hX _ _ _ _ _ _ _ _ _ hf hP hS (lv_sub hl [1, 2, 3, 5, 0] rfl)
set_option maxRecDepth 100000 in
set_option maxHeartbeats 4000000 in
theorem w_X4_givePier_82 {p : Program} {l : Launch} {e : Env} {s : State} {m : MethodId} {args : Array Value} {below : List Frame} {meth : Method} {c : Code} {D : va_G} {ids : Nat → ClassId} {ad tt : Nat → Nat} {rv : Hp} (hA : adOk ad 59) (C : CX p s m args meth c cX4_givePier 12 none RX4 D ids) (hX : (ExC tt ad) s s.heap) : ∀ (h : Hp) (x1 : Int32) (x2 : Int32) (x3 : Int32) (x4 : Int32) (H : Heap) (locs : List Loc) (ls : Array Slot), f_X4_givePier_82 h x1 x2 x3 x4 = some rv → wp D (cEC ids ad) ad 59 h H → va_S (inW ad 59) s.heap H locs → lv_has ls 12 [(0, .ref (ad 48)), (1, .int x1), (2, .int x2), (3, .int x3), (4, .int x4)] → W p l e rm_X4_givePier s m args below meth c H locs 0 0 (MQ below (QW D (cEC ids ad) ad 59 none rv) args s 0 0 (inW ad 59)) (F0 m 82 ls []) := by
  intro h x1 x2 x3 x4 H locs ls hf hP hS hl
  unfold f_X4_givePier_82 at hf
  refine lv_iconst (v := (0 : Int32)) C.1 C.2.1 dX4_givePier_82 (by decide) ?_
  exact w_X4_givePier_83 hA C hX _ _ _ _ _ _ _ _ _ hf hP hS (lv_sub hl [0, 1, 2, 3, 4] rfl)
set_option maxRecDepth 100000 in
set_option maxHeartbeats 4000000 in
theorem w_X4_givePier_19 {p : Program} {l : Launch} {e : Env} {s : State} {m : MethodId} {args : Array Value} {below : List Frame} {meth : Method} {c : Code} {D : va_G} {ids : Nat → ClassId} {ad tt : Nat → Nat} {rv : Hp} (hA : adOk ad 59) (C : CX p s m args meth c cX4_givePier 12 none RX4 D ids) (hX : (ExC tt ad) s s.heap) : ∀ (fu : Nat), ∀ (h : Hp) (x1 : Int32) (x2 : Int32) (x3 : Int32) (x4 : Int32) (x6 : Int32) (x7 : Int32) (H : Heap) (locs : List Loc) (ls : Array Slot), f_X4_givePier_19 fu h x1 x2 x3 x4 x6 x7 = some rv → wp D (cEC ids ad) ad 59 h H → va_S (inW ad 59) s.heap H locs → lv_has ls 12 [(0, .ref (ad 48)), (1, .int x1), (2, .int x2), (3, .int x3), (4, .int x4), (5, .ref (ad 49)), (6, .int x6), (7, .int x7)] → W p l e rm_X4_givePier s m args below meth c H locs 0 0 (MQ below (QW D (cEC ids ad) ad 59 none rv) args s 0 0 (inW ad 59)) (F0 m 19 ls []) := by
  intro fu
  induction fu with
  | zero =>
    intro h x1 x2 x3 x4 x6 x7 H locs ls hf hP hS hl
    cases hf
  | succ fu ih =>
    intro h x1 x2 x3 x4 x6 x7 H locs ls hf hP hS hl
    rw [f_X4_givePier_19_s] at hf
    refine lv_iload C.1 C.2.1 dX4_givePier_19 (lv_at hl 7 rfl) ?_
    refine lv_iload C.1 C.2.1 dX4_givePier_21 (lv_at hl 6 rfl) ?_
    refine lv_icmp_ge (tgt := 68) C.1 C.2.1 dX4_givePier_23 (by decide) (fun hc => ?_) (fun hc => ?_)
    · have hf := g_t hc hf
      refine lv_iload C.1 C.2.1 dX4_givePier_68 (lv_at hl 4 rfl) ?_
      refine lv_if_ne (tgt := 82) C.1 C.2.1 dX4_givePier_70 (by decide) (fun hc => ?_) (fun hc => ?_)
      · have hf := g_f hc hf
        exact w_X4_givePier_82 hA C hX _ _ _ _ _ _ _ _ hf hP hS (lv_sub hl [0, 1, 2, 3, 4] rfl)
      · have hf := g_t hc hf
        refine lv_iload_n C.1 C.2.1 dX4_givePier_73 rfl (lv_at hl 3 rfl) ?_
        refine lv_iconst (v := (1 : Int32)) C.1 C.2.1 dX4_givePier_74 (by decide) ?_
        refine lv_icmp_le (tgt := 82) C.1 C.2.1 dX4_givePier_75 (by decide) (fun hc => ?_) (fun hc => ?_)
        · have hf := g_t hc hf
          exact w_X4_givePier_82 hA C hX _ _ _ _ _ _ _ _ hf hP hS (lv_sub hl [0, 1, 2, 3, 4] rfl)
        · have hf := g_f hc hf
          refine lv_iconst (v := (1 : Int32)) C.1 C.2.1 dX4_givePier_78 (by decide) ?_
          refine lv_goto (tgt := 83) C.1 C.2.1 dX4_givePier_79 (by decide) ?_
          exact w_X4_givePier_83 hA C hX _ _ _ _ _ _ _ _ _ hf hP hS (lv_sub hl [0, 1, 2, 3, 4] rfl)
    · have hf := g_f hc hf
      refine lv_aload C.1 C.2.1 dX4_givePier_26 (lv_at hl 5 rfl) ?_
      refine lv_iload C.1 C.2.1 dX4_givePier_28 (lv_at hl 7 rfl) ?_
      obtain ⟨hg1, hf⟩ := g_if hf
      refine rl_aFe C hP hg1 dX4_givePier_30 ?_
      refine lv_astore (lv' := [(8, .ref (ad (50 + 3 * x7.toNatClampNeg))), (0, .ref (ad 48)), (1, .int x1), (2, .int x2), (3, .int x3), (4, .int x4), (5, .ref (ad 49)), (6, .int x6), (7, .int x7)]) C.1 C.2.1 dX4_givePier_31 hl (by decide) rfl (fun ls hl => ?_)
      refine lv_iload_n C.1 C.2.1 dX4_givePier_33 rfl (lv_at hl 4 rfl) ?_
      refine lv_aload C.1 C.2.1 dX4_givePier_34 (lv_at hl 0 rfl) ?_
      refine lv_iload_n C.1 C.2.1 dX4_givePier_36 rfl (lv_at hl 2 rfl) ?_
      obtain ⟨q2, eq2, hf⟩ := g_b hf
      refine cv_X4_50 hA C hX hP hS (fe_el hg1) eq2 ⟨Nat.le_of_ble_eq_true rfl, Nat.le_of_ble_eq_true rfl⟩ hl.1 (Nat.le_of_ble_eq_true rfl) dX4_givePier_37 (fun H locs hP hS => ?_)
      refine lv_if_eq (tgt := 47) C.1 C.2.1 dX4_givePier_40 (by decide) (fun hc => ?_) (fun hc => ?_)
      · have hf := g_t hc hf
        refine lv_iconst (v := (0 : Int32)) C.1 C.2.1 dX4_givePier_47 (by decide) ?_
        exact w_X4_givePier_48 hA C hX ih _ _ _ _ _ _ _ _ _ _ _ _ hf hP hS (fe_el hg1) (lv_sub hl [1, 2, 3, 5, 6, 7, 8, 0] rfl)
      · have hf := g_f hc hf
        refine lv_iconst (v := (1 : Int32)) C.1 C.2.1 dX4_givePier_43 (by decide) ?_
        refine lv_goto (tgt := 48) C.1 C.2.1 dX4_givePier_44 (by decide) ?_
        exact w_X4_givePier_48 hA C hX ih _ _ _ _ _ _ _ _ _ _ _ _ hf hP hS (fe_el hg1) (lv_sub hl [1, 2, 3, 5, 6, 7, 8, 0] rfl)
set_option maxRecDepth 100000 in
set_option maxHeartbeats 4000000 in
theorem w_X4_givePier {p : Program} {l : Launch} {e : Env} {s : State} {m : MethodId} {args : Array Value} {below : List Frame} {meth : Method} {c : Code} {D : va_G} {ids : Nat → ClassId} {ad tt : Nat → Nat} {rv : Hp} (hA : adOk ad 59) (C : CX p s m args meth c cX4_givePier 12 none RX4 D ids) (hX : (ExC tt ad) s s.heap) : ∀ (h : Hp) (a1 : Int32) (a2 : Int32) (H : Heap) (locs : List Loc) (ls : Array Slot), f_X4_givePier h a1 a2 = some rv → wp D (cEC ids ad) ad 59 h H → va_S (inW ad 59) s.heap H locs → lv_has ls 12 [(0, .ref (ad 48)), (1, .int a1), (2, .int a2)] → W p l e rm_X4_givePier s m args below meth c H locs 0 0 (MQ below (QW D (cEC ids ad) ad 59 none rv) args s 0 0 (inW ad 59)) (F0 m 0 ls []) := by
  intro h a1 a2 H locs ls hf hP hS hl
  unfold f_X4_givePier at hf
  refine lv_iconst (v := (0 : Int32)) C.1 C.2.1 dX4_givePier_0 (by decide) ?_
  refine lv_istore_n (lv' := [(3, .int (0 : Int32)), (0, .ref (ad 48)), (1, .int a1), (2, .int a2)]) C.1 C.2.1 dX4_givePier_1 rfl hl (by decide) rfl (fun ls hl => ?_)
  refine lv_iconst (v := (0 : Int32)) C.1 C.2.1 dX4_givePier_2 (by decide) ?_
  refine lv_istore (lv' := [(4, .int (0 : Int32)), (3, .int (0 : Int32)), (0, .ref (ad 48)), (1, .int a1), (2, .int a2)]) C.1 C.2.1 dX4_givePier_3 hl (by decide) rfl (fun ls hl => ?_)
  refine lv_aload_n C.1 C.2.1 dX4_givePier_5 rfl (lv_at hl 2 rfl) ?_
  refine gf_X4_12 C hP dX4_givePier_6 ?_
  refine lv_astore (lv' := [(5, .ref (ad 49)), (4, .int (0 : Int32)), (3, .int (0 : Int32)), (0, .ref (ad 48)), (1, .int a1), (2, .int a2)]) C.1 C.2.1 dX4_givePier_9 hl (by decide) rfl (fun ls hl => ?_)
  refine lv_aload C.1 C.2.1 dX4_givePier_11 (lv_at hl 0 rfl) ?_
  refine ln_aFe C hP dX4_givePier_13 ?_
  refine lv_istore (lv' := [(6, .int (3 : Int32)), (5, .ref (ad 49)), (4, .int (0 : Int32)), (3, .int (0 : Int32)), (0, .ref (ad 48)), (1, .int a1), (2, .int a2)]) C.1 C.2.1 dX4_givePier_14 hl (by decide) rfl (fun ls hl => ?_)
  refine lv_iconst (v := (0 : Int32)) C.1 C.2.1 dX4_givePier_16 (by decide) ?_
  refine lv_istore (lv' := [(7, .int (0 : Int32)), (6, .int (3 : Int32)), (5, .ref (ad 49)), (4, .int (0 : Int32)), (3, .int (0 : Int32)), (0, .ref (ad 48)), (1, .int a1), (2, .int a2)]) C.1 C.2.1 dX4_givePier_17 hl (by decide) rfl (fun ls hl => ?_)
  exact w_X4_givePier_19 hA C hX _ _ _ _ _ _ _ _ _ _ _ hf hP hS (lv_sub hl [5, 6, 7, 4, 3, 2, 1, 0] rfl)
theorem c_X4_givePier (l : Launch) (D : va_G) (ids : Nat → ClassId) (ad tt : Nat → Nat) (hA : adOk ad 59) {a1 : Int32} {a2 : Int32} {h : Hp} {rv : Hp} (hf : f_X4_givePier h a1 a2 = some rv) : Met l yX4_givePier (ws_ yX4_givePier cX4_givePier 12 none) rm_X4_givePier (va_Pc [.ref (ad 48), .int a1, .int a2] (WB D ids (cEC ids ad) ad 59 (ExC tt ad) h)) (QW D (cEC ids ad) ad 59 none rv) 0 0 (inW ad 59) :=
  u_met (own := RX4) (by decide) rfl (Nat.le_of_ble_eq_true rfl) rfl (fun p e s m args below meth c H ls C hX hP hS hl => w_X4_givePier (tt := tt) hA C hX _ _ _ _ _ _ hf hP hS hl)
theorem gf_X4_25 {p : Program} {l : Launch} {e : Env} {R : Room} {s : State} {m : MethodId} {args : Array Value} {below : List Frame} {meth : Method} {c : Code} {H : Heap} {locs : List Loc} {cells slots : Nat} {Q : State → Prop} {cc : ByteArray} {nL : Nat} {ret : Option FieldType} {pc : Nat} {ls : Array Slot} {rest : List Value} {D : va_G} {ids : Nat → ClassId} {ad : Nat → Nat} {h : Hp} (C : CX p s m args meth c cc nL ret RX4 D ids) {k : Nat} (hk : isX5 k) (hP : wp D (cEC ids ad) ad 59 h H) (hdg : decode cc pc = .ok (.getfield 25, 3)) (kk : W p l e R s m args below meth c H locs cells slots Q (F0 m (pc + 3) ls (.int (h k 4) :: rest))) : W p l e R s m args below meth c H locs cells slots Q (F0 m pc ls (.ref (ad k) :: rest)) :=
  u_get C hP (lt_X5 hk) (cE_X5 hk) rfl inX5 4 (by decide) rfl q_283 hdg kk
theorem gf_X4_28 {p : Program} {l : Launch} {e : Env} {R : Room} {s : State} {m : MethodId} {args : Array Value} {below : List Frame} {meth : Method} {c : Code} {H : Heap} {locs : List Loc} {cells slots : Nat} {Q : State → Prop} {cc : ByteArray} {nL : Nat} {ret : Option FieldType} {pc : Nat} {ls : Array Slot} {rest : List Value} {D : va_G} {ids : Nat → ClassId} {ad : Nat → Nat} {h : Hp} (C : CX p s m args meth c cc nL ret RX4 D ids) {k : Nat} (hk : isX5 k) (hP : wp D (cEC ids ad) ad 59 h H) (hdg : decode cc pc = .ok (.getfield 28, 3)) (kk : W p l e R s m args below meth c H locs cells slots Q (F0 m (pc + 3) ls (.ref (ad (k + 1)) :: rest))) : W p l e R s m args below meth c H locs cells slots Q (F0 m pc ls (.ref (ad k) :: rest)) :=
  u_get C hP (lt_X5 hk) (cE_X5 hk) rfl inX5 0 (by decide) rfl q_284 hdg kk
theorem cv_X4_32 {p : Program} {l : Launch} {e : Env} {R : Room} {s : State} {m : MethodId} {args : Array Value} {below : List Frame} {meth : Method} {c : Code} {H : Heap} {locs : List Loc} {Q : State → Prop} {cc : ByteArray} {nL : Nat} {ret : Option FieldType} {pc : Nat} {ls : Array Slot} {rest : List Value} {D : va_G} {ids : Nat → ClassId} {ad tt : Nat → Nat} {h : Hp} (hA : adOk ad 59) (C : CX p s m args meth c cc nL ret RX4 D ids) (hX : (ExC tt ad) s s.heap) (hP : wp D (cEC ids ad) ad 59 h H) (hS : va_S (inW ad 59) s.heap H locs) {k : Nat} (hk : isX3 k) {k1 : Nat} (hk1 : isX2 k1) {rv : Hp} (hf : f_X3_beginDay h k k1 = some rv) (hR : 3 + 1 ≤ R.frames ∧ 8 + (2 + 11) + 66 ≤ R.locals) (hsz : ls.size = nL) (hcat : (rest.map fun v => v.category).sum ≤ 8) (hdg : decode cc pc = .ok (.invokevirtual 32, 3)) (kk : ∀ (H1 : Heap) (locs1 : List Loc), wp D (cEC ids ad) ad 59 rv H1 → va_S (inW ad 59) s.heap H1 locs1 → W p l e R s m args below meth c H1 locs1 0 0 Q (F0 m (pc + 3) ls (rest))) : W p l e R s m args below meth c H locs 0 0 Q (F0 m pc ls (.ref (ad k1) :: .ref (ad k) :: rest)) :=
  u_callV (As := [.ref (ad k1)]) (rv := none) C (exC_ok hA) hX (c_X3_beginDay l D ids ad tt hA hk hk1 hf) q_286 q_287 q_288 q_88 q_289 ⟨rfl, rfl⟩ (by refine ⟨by decide +kernel, by decide +kernel, ?_⟩; show _ = some 1; decide +kernel) hR (lt_X3 hk) (cE_X3 hk _) rfl hP hS hsz hcat rfl hdg kk
theorem gf_X4_36 {p : Program} {l : Launch} {e : Env} {R : Room} {s : State} {m : MethodId} {args : Array Value} {below : List Frame} {meth : Method} {c : Code} {H : Heap} {locs : List Loc} {cells slots : Nat} {Q : State → Prop} {cc : ByteArray} {nL : Nat} {ret : Option FieldType} {pc : Nat} {ls : Array Slot} {rest : List Value} {D : va_G} {ids : Nat → ClassId} {ad : Nat → Nat} {h : Hp} (C : CX p s m args meth c cc nL ret RX4 D ids) {k : Nat} (hk : isX5 k) (hP : wp D (cEC ids ad) ad 59 h H) (hdg : decode cc pc = .ok (.getfield 36, 3)) (kk : W p l e R s m args below meth c H locs cells slots Q (F0 m (pc + 3) ls (.int (h k 3) :: rest))) : W p l e R s m args below meth c H locs cells slots Q (F0 m pc ls (.ref (ad k) :: rest)) :=
  u_get C hP (lt_X5 hk) (cE_X5 hk) rfl inX5 3 (by decide) rfl q_285 hdg kk
theorem cv_X4_39 {p : Program} {l : Launch} {e : Env} {R : Room} {s : State} {m : MethodId} {args : Array Value} {below : List Frame} {meth : Method} {c : Code} {H : Heap} {locs : List Loc} {Q : State → Prop} {cc : ByteArray} {nL : Nat} {ret : Option FieldType} {pc : Nat} {ls : Array Slot} {rest : List Value} {D : va_G} {ids : Nat → ClassId} {ad tt : Nat → Nat} {h : Hp} (hA : adOk ad 59) (C : CX p s m args meth c cc nL ret RX4 D ids) (hX : (ExC tt ad) s s.heap) (hP : wp D (cEC ids ad) ad 59 h H) (hS : va_S (inW ad 59) s.heap H locs) {a1 : Int32} {a2 : Int32} {rv : Int32 × Hp} (hf : f_X7_levelAt h a1 a2 = some rv) (hR : 1 + 1 ≤ R.frames ∧ 8 + (2 + 11) + 21 ≤ R.locals) (hsz : ls.size = nL) (hcat : (rest.map fun v => v.category).sum ≤ 8) (hdg : decode cc pc = .ok (.invokestatic 39, 3)) (kk : ∀ (H1 : Heap) (locs1 : List Loc), wp D (cEC ids ad) ad 59 rv.2 H1 → va_S (inW ad 59) s.heap H1 locs1 → W p l e R s m args below meth c H1 locs1 0 0 Q (F0 m (pc + 3) ls (.int rv.1 :: rest))) : W p l e R s m args below meth c H locs 0 0 Q (F0 m pc ls (.int a2 :: .int a1 :: rest)) :=
  u_callN (As := [.int a1, .int a2]) (rv := (some (.int rv.1))) C (exC_ok hA) hX (exC_n0 hX) (c_X7_levelAt l D ids ad tt hA hf) q_137 q_2 q_138 ⟨rfl, rfl⟩ (by refine ⟨by decide +kernel, by decide +kernel, ?_⟩; show _ = some 2; decide +kernel) hR hP hS hsz hcat rfl hdg kk
theorem cv_X4_43 {p : Program} {l : Launch} {e : Env} {R : Room} {s : State} {m : MethodId} {args : Array Value} {below : List Frame} {meth : Method} {c : Code} {H : Heap} {locs : List Loc} {Q : State → Prop} {cc : ByteArray} {nL : Nat} {ret : Option FieldType} {pc : Nat} {ls : Array Slot} {rest : List Value} {D : va_G} {ids : Nat → ClassId} {ad tt : Nat → Nat} {h : Hp} (hA : adOk ad 59) (C : CX p s m args meth c cc nL ret RX4 D ids) (hX : (ExC tt ad) s s.heap) (hP : wp D (cEC ids ad) ad 59 h H) (hS : va_S (inW ad 59) s.heap H locs) {k : Nat} (hk : isX3 k) {a1 : Int32} {a2 : Int32} {rv : Hp} (hf : f_X3_beginHour h k a1 a2 = some rv) (hR : 2 + 1 ≤ R.frames ∧ 8 + (3 + 11) + 42 ≤ R.locals) (hsz : ls.size = nL) (hcat : (rest.map fun v => v.category).sum ≤ 8) (hdg : decode cc pc = .ok (.invokevirtual 43, 3)) (kk : ∀ (H1 : Heap) (locs1 : List Loc), wp D (cEC ids ad) ad 59 rv H1 → va_S (inW ad 59) s.heap H1 locs1 → W p l e R s m args below meth c H1 locs1 0 0 Q (F0 m (pc + 3) ls (rest))) : W p l e R s m args below meth c H locs 0 0 Q (F0 m pc ls (.int a2 :: .int a1 :: .ref (ad k) :: rest)) :=
  u_callV (As := [.int a1, .int a2]) (rv := none) C (exC_ok hA) hX (c_X3_beginHour l D ids ad tt hA hk hf) q_293 q_294 q_295 q_88 q_296 ⟨rfl, rfl⟩ (by refine ⟨by decide +kernel, by decide +kernel, ?_⟩; show _ = some 2; decide +kernel) hR (lt_X3 hk) (cE_X3 hk _) rfl hP hS hsz hcat rfl hdg kk
theorem cv_X4_47 {p : Program} {l : Launch} {e : Env} {R : Room} {s : State} {m : MethodId} {args : Array Value} {below : List Frame} {meth : Method} {c : Code} {H : Heap} {locs : List Loc} {Q : State → Prop} {cc : ByteArray} {nL : Nat} {ret : Option FieldType} {pc : Nat} {ls : Array Slot} {rest : List Value} {D : va_G} {ids : Nat → ClassId} {ad tt : Nat → Nat} {h : Hp} (hA : adOk ad 59) (C : CX p s m args meth c cc nL ret RX4 D ids) (hX : (ExC tt ad) s s.heap) (hP : wp D (cEC ids ad) ad 59 h H) (hS : va_S (inW ad 59) s.heap H locs) {a1 : Int32} {a2 : Int32} {rv : Hp} (hf : f_X4_givePier h a1 a2 = some rv) (hR : 1 + 1 ≤ R.frames ∧ 8 + (12 + 11) + 21 ≤ R.locals) (hsz : ls.size = nL) (hcat : (rest.map fun v => v.category).sum ≤ 8) (hdg : decode cc pc = .ok (.invokevirtual 47, 3)) (kk : ∀ (H1 : Heap) (locs1 : List Loc), wp D (cEC ids ad) ad 59 rv H1 → va_S (inW ad 59) s.heap H1 locs1 → W p l e R s m args below meth c H1 locs1 0 0 Q (F0 m (pc + 3) ls (rest))) : W p l e R s m args below meth c H locs 0 0 Q (F0 m pc ls (.int a2 :: .int a1 :: .ref (ad 48) :: rest)) :=
  u_callV (As := [.int a1, .int a2]) (rv := none) C (exC_ok hA) hX (c_X4_givePier l D ids ad tt hA hf) q_299 q_300 q_301 q_28 q_302 ⟨rfl, rfl⟩ (by refine ⟨by decide +kernel, by decide +kernel, ?_⟩; show _ = some 2; decide +kernel) hR (by decide) (cE_X4 _) rfl hP hS hsz hcat rfl hdg kk
abbrev rm_X4_run : Room := { frames := 4, cells := 0, slots := 0, locals := 87 }
set_option maxRecDepth 100000 in
set_option maxHeartbeats 4000000 in
theorem w_X4_run_102 {p : Program} {l : Launch} {e : Env} {s : State} {m : MethodId} {args : Array Value} {below : List Frame} {meth : Method} {c : Code} {D : va_G} {ids : Nat → ClassId} {ad tt : Nat → Nat} {rv : Hp} (hA : adOk ad 59) (C : CX p s m args meth c cX4_run 8 none RX4 D ids) (hX : (ExC tt ad) s s.heap) {k1 : Nat} (hk1 : isX5 k1) {K43 : Hp → Int32 → Option (Hp)} (hK43 : ∀ (h : Hp) (x2 : Int32) (H : Heap) (locs : List Loc) (ls : Array Slot), K43 h x2 = some rv → wp D (cEC ids ad) ad 59 h H → va_S (inW ad 59) s.heap H locs → lv_has ls 8 [(0, .ref (ad 48)), (1, .ref (ad k1)), (2, .int x2)] → W p l e rm_X4_run s m args below meth c H locs 0 0 (MQ below (QW D (cEC ids ad) ad 59 none rv) args s 0 0 (inW ad 59)) (F0 m 43 ls [])) : ∀ (fu : Nat), ∀ (h : Hp) (x2 : Int32) (x4 : Int32) (H : Heap) (locs : List Loc) (ls : Array Slot), f_X4_run_102 k1 K43 fu h x2 x4 = some rv → wp D (cEC ids ad) ad 59 h H → va_S (inW ad 59) s.heap H locs → lv_has ls 8 [(0, .ref (ad 48)), (1, .ref (ad k1)), (2, .int x2), (4, .int x4)] → W p l e rm_X4_run s m args below meth c H locs 0 0 (MQ below (QW D (cEC ids ad) ad 59 none rv) args s 0 0 (inW ad 59)) (F0 m 102 ls []) := by
  intro fu
  induction fu with
  | zero =>
    intro h x2 x4 H locs ls hf hP hS hl
    cases hf
  | succ fu ih =>
    intro h x2 x4 H locs ls hf hP hS hl
    rw [f_X4_run_102_s] at hf
    refine lv_iload C.1 C.2.1 dX4_run_102 (lv_at hl 3 rfl) ?_
    refine lv_iconst (v := (2 : Int32)) C.1 C.2.1 dX4_run_104 (by decide) ?_
    refine lv_icmp_ge (tgt := 121) C.1 C.2.1 dX4_run_105 (by decide) (fun hc => ?_) (fun hc => ?_)
    · have hf := g_t hc hf
      refine lv_iinc (v := (x2 + 1)) (lv' := [(2, .int (x2 + 1)), (0, .ref (ad 48)), (1, .ref (ad k1)), (4, .int x4)]) C.1 C.2.1 dX4_run_121 hl (k := 2) rfl (by rfl) (by decide) rfl (fun ls hl => ?_)
      refine lv_goto (tgt := 43) C.1 C.2.1 dX4_run_124 (by decide) ?_
      exact hK43 _ _ _ _ _ hf hP hS (lv_sub hl [1, 2, 0] rfl)
    · have hf := g_f hc hf
      refine lv_aload_n C.1 C.2.1 dX4_run_108 rfl (lv_at hl 0 rfl) ?_
      refine lv_iload C.1 C.2.1 dX4_run_109 (lv_at hl 3 rfl) ?_
      refine lv_iload_n C.1 C.2.1 dX4_run_111 rfl (lv_at hl 2 rfl) ?_
      obtain ⟨q1, eq1, hf⟩ := g_b hf
      refine cv_X4_47 hA C hX hP hS eq1 ⟨Nat.le_of_ble_eq_true rfl, Nat.le_of_ble_eq_true rfl⟩ hl.1 (Nat.le_of_ble_eq_true rfl) dX4_run_112 (fun H locs hP hS => ?_)
      refine lv_iinc (v := (x4 + 1)) (lv' := [(4, .int (x4 + 1)), (0, .ref (ad 48)), (1, .ref (ad k1)), (2, .int x2)]) C.1 C.2.1 dX4_run_115 hl (k := 3) rfl (by rfl) (by decide) rfl (fun ls hl => ?_)
      refine lv_goto (tgt := 102) C.1 C.2.1 dX4_run_118 (by decide) ?_
      exact ih _ _ _ _ _ _ hf hP hS (lv_sub hl [1, 2, 3, 0] rfl)
set_option maxRecDepth 100000 in
set_option maxHeartbeats 4000000 in
theorem w_X4_run_72 {p : Program} {l : Launch} {e : Env} {s : State} {m : MethodId} {args : Array Value} {below : List Frame} {meth : Method} {c : Code} {D : va_G} {ids : Nat → ClassId} {ad tt : Nat → Nat} {rv : Hp} (hA : adOk ad 59) (C : CX p s m args meth c cX4_run 8 none RX4 D ids) (hX : (ExC tt ad) s s.heap) {k1 : Nat} (hk1 : isX5 k1) {K43 : Hp → Int32 → Option (Hp)} (hK43 : ∀ (h : Hp) (x2 : Int32) (H : Heap) (locs : List Loc) (ls : Array Slot), K43 h x2 = some rv → wp D (cEC ids ad) ad 59 h H → va_S (inW ad 59) s.heap H locs → lv_has ls 8 [(0, .ref (ad 48)), (1, .ref (ad k1)), (2, .int x2)] → W p l e rm_X4_run s m args below meth c H locs 0 0 (MQ below (QW D (cEC ids ad) ad 59 none rv) args s 0 0 (inW ad 59)) (F0 m 43 ls [])) : ∀ (fu : Nat), ∀ (h : Hp) (x2 : Int32) (x3 : Int32) (x5 : Int32) (x6 : Int32) (H : Heap) (locs : List Loc) (ls : Array Slot), f_X4_run_72 k1 K43 fu h x2 x3 x5 x6 = some rv → wp D (cEC ids ad) ad 59 h H → va_S (inW ad 59) s.heap H locs → lv_has ls 8 [(0, .ref (ad 48)), (1, .ref (ad k1)), (2, .int x2), (3, .int x3), (4, .ref (ad 49)), (5, .int x5), (6, .int x6)] → W p l e rm_X4_run s m args below meth c H locs 0 0 (MQ below (QW D (cEC ids ad) ad 59 none rv) args s 0 0 (inW ad 59)) (F0 m 72 ls []) := by
  intro fu
  induction fu with
  | zero =>
    intro h x2 x3 x5 x6 H locs ls hf hP hS hl
    cases hf
  | succ fu ih =>
    intro h x2 x3 x5 x6 H locs ls hf hP hS hl
    rw [f_X4_run_72_s] at hf
    refine lv_iload C.1 C.2.1 dX4_run_72 (lv_at hl 6 rfl) ?_
    refine lv_iload C.1 C.2.1 dX4_run_74 (lv_at hl 5 rfl) ?_
    refine lv_icmp_ge (tgt := 99) C.1 C.2.1 dX4_run_76 (by decide) (fun hc => ?_) (fun hc => ?_)
    · have hf := g_t hc hf
      refine lv_iconst (v := (0 : Int32)) C.1 C.2.1 dX4_run_99 (by decide) ?_
      refine lv_istore (lv' := [(4, .int (0 : Int32)), (0, .ref (ad 48)), (1, .ref (ad k1)), (2, .int x2), (3, .int x3), (5, .int x5), (6, .int x6)]) C.1 C.2.1 dX4_run_100 hl (by decide) rfl (fun ls hl => ?_)
      exact w_X4_run_102 hA C hX hk1 hK43 _ _ _ _ _ _ _ hf hP hS (lv_sub hl [1, 2, 3, 0] rfl)
    · have hf := g_f hc hf
      refine lv_aload C.1 C.2.1 dX4_run_79 (lv_at hl 4 rfl) ?_
      refine lv_iload C.1 C.2.1 dX4_run_81 (lv_at hl 6 rfl) ?_
      obtain ⟨hg1, hf⟩ := g_if hf
      refine rl_aFe C hP hg1 dX4_run_83 ?_
      refine lv_astore (lv' := [(7, .ref (ad (50 + 3 * x6.toNatClampNeg))), (0, .ref (ad 48)), (1, .ref (ad k1)), (2, .int x2), (3, .int x3), (4, .ref (ad 49)), (5, .int x5), (6, .int x6)]) C.1 C.2.1 dX4_run_84 hl (by decide) rfl (fun ls hl => ?_)
      refine lv_aload C.1 C.2.1 dX4_run_86 (lv_at hl 0 rfl) ?_
      refine lv_iload_n C.1 C.2.1 dX4_run_88 rfl (lv_at hl 3 rfl) ?_
      refine lv_iload_n C.1 C.2.1 dX4_run_89 rfl (lv_at hl 4 rfl) ?_
      obtain ⟨q2, eq2, hf⟩ := g_b hf
      refine cv_X4_43 hA C hX hP hS (fe_el hg1) eq2 ⟨Nat.le_of_ble_eq_true rfl, Nat.le_of_ble_eq_true rfl⟩ hl.1 (Nat.le_of_ble_eq_true rfl) dX4_run_90 (fun H locs hP hS => ?_)
      refine lv_iinc (v := (x6 + 1)) (lv' := [(6, .int (x6 + 1)), (7, .ref (ad (50 + 3 * x6.toNatClampNeg))), (0, .ref (ad 48)), (1, .ref (ad k1)), (2, .int x2), (3, .int x3), (4, .ref (ad 49)), (5, .int x5)]) C.1 C.2.1 dX4_run_93 hl (k := 7) rfl (by rfl) (by decide) rfl (fun ls hl => ?_)
      refine lv_goto (tgt := 72) C.1 C.2.1 dX4_run_96 (by decide) ?_
      exact ih _ _ _ _ _ _ _ _ hf hP hS (lv_sub hl [2, 3, 4, 5, 6, 7, 0] rfl)
set_option maxRecDepth 100000 in
set_option maxHeartbeats 4000000 in
theorem w_X4_run_43 {p : Program} {l : Launch} {e : Env} {s : State} {m : MethodId} {args : Array Value} {below : List Frame} {meth : Method} {c : Code} {D : va_G} {ids : Nat → ClassId} {ad tt : Nat → Nat} {rv : Hp} (hA : adOk ad 59) (C : CX p s m args meth c cX4_run 8 none RX4 D ids) (hX : (ExC tt ad) s s.heap) {k1 : Nat} (hk1 : isX5 k1) : ∀ (fu : Nat), ∀ (h : Hp) (x2 : Int32) (H : Heap) (locs : List Loc) (ls : Array Slot), f_X4_run_43 k1 fu h x2 = some rv → wp D (cEC ids ad) ad 59 h H → va_S (inW ad 59) s.heap H locs → lv_has ls 8 [(0, .ref (ad 48)), (1, .ref (ad k1)), (2, .int x2)] → W p l e rm_X4_run s m args below meth c H locs 0 0 (MQ below (QW D (cEC ids ad) ad 59 none rv) args s 0 0 (inW ad 59)) (F0 m 43 ls []) := by
  intro fu
  induction fu with
  | zero =>
    intro h x2 H locs ls hf hP hS hl
    cases hf
  | succ fu ih =>
    intro h x2 H locs ls hf hP hS hl
    rw [f_X4_run_43_s] at hf
    refine lv_iload_n C.1 C.2.1 dX4_run_43 rfl (lv_at hl 2 rfl) ?_
    refine lv_bipush (v := (24 : Int32)) C.1 C.2.1 dX4_run_44 (by decide) ?_
    refine lv_icmp_ge (tgt := 127) C.1 C.2.1 dX4_run_46 (by decide) (fun hc => ?_) (fun hc => ?_)
    · have hf := g_t hc hf
      obtain rfl := Option.some.inj hf
      exact u_vret C hP hS dX4_run_127
    · have hf := g_f hc hf
      refine lv_aload_n C.1 C.2.1 dX4_run_49 rfl (lv_at hl 1 rfl) ?_
      refine gf_X4_36 C hk1 hP dX4_run_50 ?_
      refine lv_iload_n C.1 C.2.1 dX4_run_53 rfl (lv_at hl 2 rfl) ?_
      obtain ⟨q1, eq1, hf⟩ := g_b hf
      refine cv_X4_39 hA C hX hP hS eq1 ⟨Nat.le_of_ble_eq_true rfl, Nat.le_of_ble_eq_true rfl⟩ hl.1 (Nat.le_of_ble_eq_true rfl) dX4_run_54 (fun H locs hP hS => ?_)
      refine lv_istore_n (lv' := [(3, .int q1.1), (0, .ref (ad 48)), (1, .ref (ad k1)), (2, .int x2)]) C.1 C.2.1 dX4_run_57 rfl hl (by decide) rfl (fun ls hl => ?_)
      refine lv_aload_n C.1 C.2.1 dX4_run_58 rfl (lv_at hl 1 rfl) ?_
      refine gf_X4_12 C hP dX4_run_59 ?_
      refine lv_astore (lv' := [(4, .ref (ad 49)), (3, .int q1.1), (0, .ref (ad 48)), (1, .ref (ad k1)), (2, .int x2)]) C.1 C.2.1 dX4_run_62 hl (by decide) rfl (fun ls hl => ?_)
      refine lv_aload C.1 C.2.1 dX4_run_64 (lv_at hl 0 rfl) ?_
      refine ln_aFe C hP dX4_run_66 ?_
      refine lv_istore (lv' := [(5, .int (3 : Int32)), (4, .ref (ad 49)), (3, .int q1.1), (0, .ref (ad 48)), (1, .ref (ad k1)), (2, .int x2)]) C.1 C.2.1 dX4_run_67 hl (by decide) rfl (fun ls hl => ?_)
      refine lv_iconst (v := (0 : Int32)) C.1 C.2.1 dX4_run_69 (by decide) ?_
      refine lv_istore (lv' := [(6, .int (0 : Int32)), (5, .int (3 : Int32)), (4, .ref (ad 49)), (3, .int q1.1), (0, .ref (ad 48)), (1, .ref (ad k1)), (2, .int x2)]) C.1 C.2.1 dX4_run_70 hl (by decide) rfl (fun ls hl => ?_)
      exact w_X4_run_72 hA C hX hk1 ih _ _ _ _ _ _ _ _ _ hf hP hS (lv_sub hl [4, 5, 6, 3, 2, 1, 0] rfl)
set_option maxRecDepth 100000 in
set_option maxHeartbeats 4000000 in
theorem w_X4_run_15 {p : Program} {l : Launch} {e : Env} {s : State} {m : MethodId} {args : Array Value} {below : List Frame} {meth : Method} {c : Code} {D : va_G} {ids : Nat → ClassId} {ad tt : Nat → Nat} {rv : Hp} (hA : adOk ad 59) (C : CX p s m args meth c cX4_run 8 none RX4 D ids) (hX : (ExC tt ad) s s.heap) {k1 : Nat} (hk1 : isX5 k1) : ∀ (fu : Nat), ∀ (h : Hp) (x2 : Int32) (H : Heap) (locs : List Loc) (ls : Array Slot), f_X4_run_15 k1 fu h x2 = some rv → wp D (cEC ids ad) ad 59 h H → va_S (inW ad 59) s.heap H locs → lv_has ls 8 [(0, .ref (ad 48)), (1, .ref (ad k1)), (2, .int x2)] → W p l e rm_X4_run s m args below meth c H locs 0 0 (MQ below (QW D (cEC ids ad) ad 59 none rv) args s 0 0 (inW ad 59)) (F0 m 15 ls []) := by
  intro fu
  induction fu with
  | zero =>
    intro h x2 H locs ls hf hP hS hl
    cases hf
  | succ fu ih =>
    intro h x2 H locs ls hf hP hS hl
    rw [f_X4_run_15_s] at hf
    refine lv_iload_n C.1 C.2.1 dX4_run_15 rfl (lv_at hl 2 rfl) ?_
    refine lv_iconst (v := (3 : Int32)) C.1 C.2.1 dX4_run_16 (by decide) ?_
    refine lv_icmp_ge (tgt := 41) C.1 C.2.1 dX4_run_17 (by decide) (fun hc => ?_) (fun hc => ?_)
    · have hf := g_t hc hf
      refine lv_iconst (v := (0 : Int32)) C.1 C.2.1 dX4_run_41 (by decide) ?_
      refine lv_istore_n (lv' := [(2, .int (0 : Int32)), (0, .ref (ad 48)), (1, .ref (ad k1))]) C.1 C.2.1 dX4_run_42 rfl hl (by decide) rfl (fun ls hl => ?_)
      exact w_X4_run_43 hA C hX hk1 _ _ _ _ _ _ hf hP hS (lv_sub hl [1, 2, 0] rfl)
    · have hf := g_f hc hf
      refine lv_aload_n C.1 C.2.1 dX4_run_20 rfl (lv_at hl 0 rfl) ?_
      refine gf_X4_12 C hP dX4_run_21 ?_
      refine lv_iload_n C.1 C.2.1 dX4_run_24 rfl (lv_at hl 2 rfl) ?_
      obtain ⟨hg1, hf⟩ := g_if hf
      refine rl_aFe C hP hg1 dX4_run_25 ?_
      refine lv_aload_n C.1 C.2.1 dX4_run_26 rfl (lv_at hl 1 rfl) ?_
      refine gf_X4_28 C hk1 hP dX4_run_27 ?_
      refine lv_iload_n C.1 C.2.1 dX4_run_30 rfl (lv_at hl 2 rfl) ?_
      obtain ⟨hg2, hf⟩ := g_if hf
      refine rl_aCap C (cap_of hk1) hP hg2 dX4_run_31 ?_
      obtain ⟨q3, eq3, hf⟩ := g_b hf
      refine cv_X4_32 hA C hX hP hS (fe_el hg1) (cp_el (cap_of hk1) hg2) eq3 ⟨Nat.le_of_ble_eq_true rfl, Nat.le_of_ble_eq_true rfl⟩ hl.1 (Nat.le_of_ble_eq_true rfl) dX4_run_32 (fun H locs hP hS => ?_)
      refine lv_iinc (v := (x2 + 1)) (lv' := [(2, .int (x2 + 1)), (0, .ref (ad 48)), (1, .ref (ad k1))]) C.1 C.2.1 dX4_run_35 hl (k := 2) rfl (by rfl) (by decide) rfl (fun ls hl => ?_)
      refine lv_goto (tgt := 15) C.1 C.2.1 dX4_run_38 (by decide) ?_
      exact ih _ _ _ _ _ hf hP hS (lv_sub hl [1, 2, 0] rfl)
set_option maxRecDepth 100000 in
set_option maxHeartbeats 4000000 in
theorem w_X4_run_13 {p : Program} {l : Launch} {e : Env} {s : State} {m : MethodId} {args : Array Value} {below : List Frame} {meth : Method} {c : Code} {D : va_G} {ids : Nat → ClassId} {ad tt : Nat → Nat} {rv : Hp} (hA : adOk ad 59) (C : CX p s m args meth c cX4_run 8 none RX4 D ids) (hX : (ExC tt ad) s s.heap) {k1 : Nat} (hk1 : isX5 k1) : ∀ (h : Hp) (H : Heap) (locs : List Loc) (ls : Array Slot), f_X4_run_13 k1 h = some rv → wp D (cEC ids ad) ad 59 h H → va_S (inW ad 59) s.heap H locs → lv_has ls 8 [(0, .ref (ad 48)), (1, .ref (ad k1))] → W p l e rm_X4_run s m args below meth c H locs 0 0 (MQ below (QW D (cEC ids ad) ad 59 none rv) args s 0 0 (inW ad 59)) (F0 m 13 ls []) := by
  intro h H locs ls hf hP hS hl
  unfold f_X4_run_13 at hf
  refine lv_iconst (v := (0 : Int32)) C.1 C.2.1 dX4_run_13 (by decide) ?_
  refine lv_istore_n (lv' := [(2, .int (0 : Int32)), (0, .ref (ad 48)), (1, .ref (ad k1))]) C.1 C.2.1 dX4_run_14 rfl hl (by decide) rfl (fun ls hl => ?_)
  exact w_X4_run_15 hA C hX hk1 _ _ _ _ _ _ hf hP hS (lv_sub hl [1, 2, 0] rfl)
set_option maxRecDepth 100000 in
set_option maxHeartbeats 4000000 in
theorem w_X4_run {p : Program} {l : Launch} {e : Env} {s : State} {m : MethodId} {args : Array Value} {below : List Frame} {meth : Method} {c : Code} {D : va_G} {ids : Nat → ClassId} {ad tt : Nat → Nat} {rv : Hp} (hA : adOk ad 59) (C : CX p s m args meth c cX4_run 8 none RX4 D ids) (hX : (ExC tt ad) s s.heap) {k1 : Nat} (hk1 : isX5 k1) : ∀ (h : Hp) (H : Heap) (locs : List Loc) (ls : Array Slot), f_X4_run h k1 = some rv → wp D (cEC ids ad) ad 59 h H → va_S (inW ad 59) s.heap H locs → lv_has ls 8 [(0, .ref (ad 48)), (1, .ref (ad k1))] → W p l e rm_X4_run s m args below meth c H locs 0 0 (MQ below (QW D (cEC ids ad) ad 59 none rv) args s 0 0 (inW ad 59)) (F0 m 0 ls []) := by
  intro h H locs ls hf hP hS hl
  unfold f_X4_run at hf
  refine lv_aload_n C.1 C.2.1 dX4_run_0 rfl (lv_at hl 0 rfl) ?_
  refine lv_aload_n C.1 C.2.1 dX4_run_1 rfl (lv_at hl 1 rfl) ?_
  refine gf_X4_25 C hk1 hP dX4_run_2 ?_
  refine pf_X4_18 hA C hP hS dX4_run_5 (fun H locs hP hS => ?_)
  refine lv_aload_n C.1 C.2.1 dX4_run_8 rfl (lv_at hl 0 rfl) ?_
  refine lv_iconst (v := (0 : Int32)) C.1 C.2.1 dX4_run_9 (by decide) ?_
  refine pf_X4_22 hA C hP hS dX4_run_10 (fun H locs hP hS => ?_)
  exact w_X4_run_13 hA C hX hk1 _ _ _ _ hf hP hS (lv_sub hl [0, 1] rfl)
theorem c_X4_run (l : Launch) (D : va_G) (ids : Nat → ClassId) (ad tt : Nat → Nat) (hA : adOk ad 59) {k1 : Nat} (hk1 : isX5 k1) {h : Hp} {rv : Hp} (hf : f_X4_run h k1 = some rv) : Met l yX4_run (ws_ yX4_run cX4_run 8 none) rm_X4_run (va_Pc [.ref (ad 48), .ref (ad k1)] (WB D ids (cEC ids ad) ad 59 (ExC tt ad) h)) (QW D (cEC ids ad) ad 59 none rv) 0 0 (inW ad 59) :=
  u_met (own := RX4) (by decide) rfl (Nat.le_of_ble_eq_true rfl) rfl (fun p e s m args below meth c H ls C hX hP hS hl => w_X4_run (tt := tt) hA C hX hk1 _ _ _ _ hf hP hS hl)
