theorem cv_X7_148 {p : Program} {l : Launch} {e : Env} {R : Room} {s : State} {m : MethodId} {args : Array Value} {below : List Frame} {meth : Method} {c : Code} {H : Heap} {locs : List Loc} {Q : State → Prop} {cc : ByteArray} {nL : Nat} {ret : Option FieldType} {pc : Nat} {ls : Array Slot} {rest : List Value} {D : va_G} {ids : Nat → ClassId} {ad tt : Nat → Nat} {h : Hp} (hA : adOk ad 59) (C : CX p s m args meth c cc nL ret RX7 D ids) (hX : (ExC tt ad) s s.heap) (hP : wp D (cEC ids ad) ad 59 h H) (hS : va_S (inW ad 59) s.heap H locs) {a1 : Int32} {a2 : Int32} {rv : Int32 × Hp} (hf : f_X7_levelAt h a1 a2 = some rv) (hR : 1 + 1 ≤ R.frames ∧ 8 + (2 + 11) + 21 ≤ R.locals) (hsz : ls.size = nL) (hcat : (rest.map fun v => v.category).sum ≤ 8) (hdg : decode cc pc = .ok (.invokestatic 148, 3)) (kk : ∀ (H1 : Heap) (locs1 : List Loc), wp D (cEC ids ad) ad 59 rv.2 H1 → va_S (inW ad 59) s.heap H1 locs1 → W p l e R s m args below meth c H1 locs1 0 0 Q (F0 m (pc + 3) ls (.int rv.1 :: rest))) : W p l e R s m args below meth c H locs 0 0 Q (F0 m pc ls (.int a2 :: .int a1 :: rest)) :=
  u_callS (As := [.int a1, .int a2]) (rv := (some (.int rv.1))) C (exC_ok hA) hX (c_X7_levelAt l D ids ad tt hA hf) q_592 q_332 q_2 q_333 ⟨rfl, rfl⟩ (by refine ⟨by decide +kernel, by decide +kernel, ?_⟩; show _ = some 2; decide +kernel) hR hP hS hsz hcat rfl hdg kk
abbrev rm_X7_levelReached : Room := { frames := 2, cells := 0, slots := 0, locals := 42 }
set_option maxRecDepth 100000 in
set_option maxHeartbeats 4000000 in
theorem w_X7_levelReached_56 {p : Program} {l : Launch} {e : Env} {s : State} {m : MethodId} {args : Array Value} {below : List Frame} {meth : Method} {c : Code} {D : va_G} {ids : Nat → ClassId} {ad tt : Nat → Nat} {rv : Int32 × Hp} (hA : adOk ad 59) (C : CX p s m args meth c cX7_levelReached 5 (some .int) RX7 D ids) (hX : (ExC tt ad) s s.heap) {K21 : Hp → Int32 → Int32 → Int32 → Int32 → Option (Int32 × Hp)} (hK21 : ∀ (h : Hp) (x1 : Int32) (x2 : Int32) (x3 : Int32) (x4 : Int32) (H : Heap) (locs : List Loc) (ls : Array Slot), K21 h x1 x2 x3 x4 = some rv → wp D (cEC ids ad) ad 59 h H → va_S (inW ad 59) s.heap H locs → lv_has ls 5 [(1, .int x1), (2, .int x2), (3, .int x3), (4, .int x4)] → W p l e rm_X7_levelReached s m args below meth c H locs 0 0 (MQ below (QW D (cEC ids ad) ad 59 (some (.int rv.1)) rv.2) args s 0 0 (inW ad 59)) (F0 m 21 ls [])) : ∀ (h : Hp) (x1 : Int32) (x2 : Int32) (x3 : Int32) (x4 : Int32) (H : Heap) (locs : List Loc) (ls : Array Slot), f_X7_levelReached_56 K21 h x1 x2 x3 x4 = some rv → wp D (cEC ids ad) ad 59 h H → va_S (inW ad 59) s.heap H locs → lv_has ls 5 [(1, .int x1), (2, .int x2), (3, .int x3), (4, .int x4)] → W p l e rm_X7_levelReached s m args below meth c H locs 0 0 (MQ below (QW D (cEC ids ad) ad 59 (some (.int rv.1)) rv.2) args s 0 0 (inW ad 59)) (F0 m 56 ls []) := by
  intro h x1 x2 x3 x4 H locs ls hf hP hS hl
  unfold f_X7_levelReached_56 at hf
  refine lv_iinc (v := (x4 + 1)) (lv' := [(4, .int (x4 + 1)), (1, .int x1), (2, .int x2), (3, .int x3)]) C.1 C.2.1 dX7_levelReached_56 hl (k := 3) rfl (by rfl) (by decide) rfl (fun ls hl => ?_)
  refine lv_goto (tgt := 21) C.1 C.2.1 dX7_levelReached_59 (by decide) ?_
  exact hK21 _ _ _ _ _ _ _ _ hf hP hS (lv_sub hl [1, 2, 3, 0] rfl)
set_option maxRecDepth 100000 in
set_option maxHeartbeats 4000000 in
theorem w_X7_levelReached_37 {p : Program} {l : Launch} {e : Env} {s : State} {m : MethodId} {args : Array Value} {below : List Frame} {meth : Method} {c : Code} {D : va_G} {ids : Nat → ClassId} {ad tt : Nat → Nat} {rv : Int32 × Hp} (hA : adOk ad 59) (C : CX p s m args meth c cX7_levelReached 5 (some .int) RX7 D ids) (hX : (ExC tt ad) s s.heap) {K21 : Hp → Int32 → Int32 → Int32 → Int32 → Option (Int32 × Hp)} (hK21 : ∀ (h : Hp) (x1 : Int32) (x2 : Int32) (x3 : Int32) (x4 : Int32) (H : Heap) (locs : List Loc) (ls : Array Slot), K21 h x1 x2 x3 x4 = some rv → wp D (cEC ids ad) ad 59 h H → va_S (inW ad 59) s.heap H locs → lv_has ls 5 [(1, .int x1), (2, .int x2), (3, .int x3), (4, .int x4)] → W p l e rm_X7_levelReached s m args below meth c H locs 0 0 (MQ below (QW D (cEC ids ad) ad 59 (some (.int rv.1)) rv.2) args s 0 0 (inW ad 59)) (F0 m 21 ls [])) : ∀ (h : Hp) (x1 : Int32) (x3 : Int32) (x4 : Int32) (t0 : Int32) (t1 : Int32) (H : Heap) (locs : List Loc) (ls : Array Slot), f_X7_levelReached_37 K21 h x1 x3 x4 t0 t1 = some rv → wp D (cEC ids ad) ad 59 h H → va_S (inW ad 59) s.heap H locs → lv_has ls 5 [(1, .int x1), (3, .int x3), (4, .int x4)] → W p l e rm_X7_levelReached s m args below meth c H locs 0 0 (MQ below (QW D (cEC ids ad) ad 59 (some (.int rv.1)) rv.2) args s 0 0 (inW ad 59)) (F0 m 37 ls [.int t1, .int t0]) := by
  intro h x1 x3 x4 t0 t1 H locs ls hf hP hS hl
  unfold f_X7_levelReached_37 at hf
  refine lv_iadd C.1 C.2.1 dX7_levelReached_37 ?_
  refine lv_istore_n (lv' := [(2, .int (t0 + t1)), (1, .int x1), (3, .int x3), (4, .int x4)]) C.1 C.2.1 dX7_levelReached_38 rfl hl (by decide) rfl (fun ls hl => ?_)
  refine lv_iload_n C.1 C.2.1 dX7_levelReached_39 rfl (lv_at hl 0 rfl) ?_
  refine lv_if_ne (tgt := 48) C.1 C.2.1 dX7_levelReached_40 (by decide) (fun hc => ?_) (fun hc => ?_)
  · have hf := g_f hc hf
    refine lv_iload_n C.1 C.2.1 dX7_levelReached_48 rfl (lv_at hl 0 rfl) ?_
    refine lv_bipush (v := (6 : Int32)) C.1 C.2.1 dX7_levelReached_49 (by decide) ?_
    refine lv_icmp_ne (tgt := 56) C.1 C.2.1 dX7_levelReached_51 (by decide) (fun hc => ?_) (fun hc => ?_)
    · have hf := g_f hc hf
      exact w_X7_levelReached_56 hA C hX hK21 _ _ _ _ _ _ _ _ hf hP hS (lv_sub hl [1, 0, 2, 3] rfl)
    · have hf := g_t hc hf
      refine lv_iconst (v := (1 : Int32)) C.1 C.2.1 dX7_levelReached_54 (by decide) ?_
      refine lv_istore_n (lv' := [(3, .int (1 : Int32)), (2, .int (t0 + t1)), (1, .int x1), (4, .int x4)]) C.1 C.2.1 dX7_levelReached_55 rfl hl (by decide) rfl (fun ls hl => ?_)
      exact w_X7_levelReached_56 hA C hX hK21 _ _ _ _ _ _ _ _ hf hP hS (lv_sub hl [2, 1, 0, 3] rfl)
  · have hf := g_t hc hf
    refine lv_iconst (v := (0 : Int32)) C.1 C.2.1 dX7_levelReached_43 (by decide) ?_
    refine lv_istore_n (lv' := [(3, .int (0 : Int32)), (2, .int (t0 + t1)), (1, .int x1), (4, .int x4)]) C.1 C.2.1 dX7_levelReached_44 rfl hl (by decide) rfl (fun ls hl => ?_)
    refine lv_goto (tgt := 56) C.1 C.2.1 dX7_levelReached_45 (by decide) ?_
    exact w_X7_levelReached_56 hA C hX hK21 _ _ _ _ _ _ _ _ hf hP hS (lv_sub hl [2, 1, 0, 3] rfl)
set_option maxRecDepth 100000 in
set_option maxHeartbeats 4000000 in
theorem w_X7_levelReached_21 {p : Program} {l : Launch} {e : Env} {s : State} {m : MethodId} {args : Array Value} {below : List Frame} {meth : Method} {c : Code} {D : va_G} {ids : Nat → ClassId} {ad tt : Nat → Nat} {rv : Int32 × Hp} (hA : adOk ad 59) (C : CX p s m args meth c cX7_levelReached 5 (some .int) RX7 D ids) (hX : (ExC tt ad) s s.heap) : ∀ (fu : Nat), ∀ (h : Hp) (x1 : Int32) (x2 : Int32) (x3 : Int32) (x4 : Int32) (H : Heap) (locs : List Loc) (ls : Array Slot), f_X7_levelReached_21 fu h x1 x2 x3 x4 = some rv → wp D (cEC ids ad) ad 59 h H → va_S (inW ad 59) s.heap H locs → lv_has ls 5 [(1, .int x1), (2, .int x2), (3, .int x3), (4, .int x4)] → W p l e rm_X7_levelReached s m args below meth c H locs 0 0 (MQ below (QW D (cEC ids ad) ad 59 (some (.int rv.1)) rv.2) args s 0 0 (inW ad 59)) (F0 m 21 ls []) := by
  intro fu
  induction fu with
  | zero =>
    intro h x1 x2 x3 x4 H locs ls hf hP hS hl
    cases hf
  | succ fu ih =>
    intro h x1 x2 x3 x4 H locs ls hf hP hS hl
    rw [f_X7_levelReached_21_s] at hf
    refine lv_iload C.1 C.2.1 dX7_levelReached_21 (lv_at hl 3 rfl) ?_
    refine lv_iload_n C.1 C.2.1 dX7_levelReached_23 rfl (lv_at hl 0 rfl) ?_
    refine lv_icmp_ge (tgt := 62) C.1 C.2.1 dX7_levelReached_24 (by decide) (fun hc => ?_) (fun hc => ?_)
    · have hf := g_t hc hf
      refine lv_iload_n C.1 C.2.1 dX7_levelReached_62 rfl (lv_at hl 1 rfl) ?_
      obtain rfl := Option.some.inj hf
      exact u_iret C hP hS dX7_levelReached_63
    · have hf := g_f hc hf
      refine lv_iload_n C.1 C.2.1 dX7_levelReached_27 rfl (lv_at hl 1 rfl) ?_
      refine lv_iload_n C.1 C.2.1 dX7_levelReached_28 rfl (lv_at hl 2 rfl) ?_
      refine lv_if_eq (tgt := 36) C.1 C.2.1 dX7_levelReached_29 (by decide) (fun hc => ?_) (fun hc => ?_)
      · have hf := g_t hc hf
        refine lv_iconst (v := (1 : Int32)) C.1 C.2.1 dX7_levelReached_36 (by decide) ?_
        exact w_X7_levelReached_37 hA C hX ih _ _ _ _ _ _ _ _ _ hf hP hS (lv_sub hl [0, 2, 3] rfl)
      · have hf := g_f hc hf
        refine lv_iconst (v := (-1 : Int32)) C.1 C.2.1 dX7_levelReached_32 (by decide) ?_
        refine lv_goto (tgt := 37) C.1 C.2.1 dX7_levelReached_33 (by decide) ?_
        exact w_X7_levelReached_37 hA C hX ih _ _ _ _ _ _ _ _ _ hf hP hS (lv_sub hl [0, 2, 3] rfl)
set_option maxRecDepth 100000 in
set_option maxHeartbeats 4000000 in
theorem w_X7_levelReached_17 {p : Program} {l : Launch} {e : Env} {s : State} {m : MethodId} {args : Array Value} {below : List Frame} {meth : Method} {c : Code} {D : va_G} {ids : Nat → ClassId} {ad tt : Nat → Nat} {rv : Int32 × Hp} (hA : adOk ad 59) (C : CX p s m args meth c cX7_levelReached 5 (some .int) RX7 D ids) (hX : (ExC tt ad) s s.heap) : ∀ (h : Hp) (x1 : Int32) (x2 : Int32) (t0 : Int32) (H : Heap) (locs : List Loc) (ls : Array Slot), f_X7_levelReached_17 h x1 x2 t0 = some rv → wp D (cEC ids ad) ad 59 h H → va_S (inW ad 59) s.heap H locs → lv_has ls 5 [(1, .int x1), (2, .int x2)] → W p l e rm_X7_levelReached s m args below meth c H locs 0 0 (MQ below (QW D (cEC ids ad) ad 59 (some (.int rv.1)) rv.2) args s 0 0 (inW ad 59)) (F0 m 17 ls [.int t0]) := by
  intro h x1 x2 t0 H locs ls hf hP hS hl
  unfold f_X7_levelReached_17 at hf
  refine lv_istore_n (lv' := [(3, .int t0), (1, .int x1), (2, .int x2)]) C.1 C.2.1 dX7_levelReached_17 rfl hl (by decide) rfl (fun ls hl => ?_)
  refine lv_iconst (v := (0 : Int32)) C.1 C.2.1 dX7_levelReached_18 (by decide) ?_
  refine lv_istore (lv' := [(4, .int (0 : Int32)), (3, .int t0), (1, .int x1), (2, .int x2)]) C.1 C.2.1 dX7_levelReached_19 hl (by decide) rfl (fun ls hl => ?_)
  exact w_X7_levelReached_21 hA C hX _ _ _ _ _ _ _ _ _ hf hP hS (lv_sub hl [2, 3, 1, 0] rfl)
set_option maxRecDepth 100000 in
set_option maxHeartbeats 4000000 in
theorem w_X7_levelReached {p : Program} {l : Launch} {e : Env} {s : State} {m : MethodId} {args : Array Value} {below : List Frame} {meth : Method} {c : Code} {D : va_G} {ids : Nat → ClassId} {ad tt : Nat → Nat} {rv : Int32 × Hp} (hA : adOk ad 59) (C : CX p s m args meth c cX7_levelReached 5 (some .int) RX7 D ids) (hX : (ExC tt ad) s s.heap) : ∀ (h : Hp) (a1 : Int32) (a2 : Int32) (H : Heap) (locs : List Loc) (ls : Array Slot), f_X7_levelReached h a1 a2 = some rv → wp D (cEC ids ad) ad 59 h H → va_S (inW ad 59) s.heap H locs → lv_has ls 5 [(0, .int a1), (1, .int a2)] → W p l e rm_X7_levelReached s m args below meth c H locs 0 0 (MQ below (QW D (cEC ids ad) ad 59 (some (.int rv.1)) rv.2) args s 0 0 (inW ad 59)) (F0 m 0 ls []) := by
  intro h a1 a2 H locs ls hf hP hS hl
  unfold f_X7_levelReached at hf
  refine lv_iload_n C.1 C.2.1 dX7_levelReached_0 rfl (lv_at hl 0 rfl) ?_
  refine lv_iconst (v := (0 : Int32)) C.1 C.2.1 dX7_levelReached_1 (by decide) ?_
  obtain ⟨q1, eq1, hf⟩ := g_b hf
  refine cv_X7_148 hA C hX hP hS eq1 ⟨Nat.le_of_ble_eq_true rfl, Nat.le_of_ble_eq_true rfl⟩ hl.1 (Nat.le_of_ble_eq_true rfl) dX7_levelReached_2 (fun H locs hP hS => ?_)
  refine lv_istore_n (lv' := [(2, .int q1.1), (0, .int a1), (1, .int a2)]) C.1 C.2.1 dX7_levelReached_5 rfl hl (by decide) rfl (fun ls hl => ?_)
  refine lv_iload_n C.1 C.2.1 dX7_levelReached_6 rfl (lv_at hl 1 rfl) ?_
  refine lv_bipush (v := (6 : Int32)) C.1 C.2.1 dX7_levelReached_7 (by decide) ?_
  refine lv_icmp_ge (tgt := 16) C.1 C.2.1 dX7_levelReached_9 (by decide) (fun hc => ?_) (fun hc => ?_)
  · have hf := g_t hc hf
    refine lv_iconst (v := (0 : Int32)) C.1 C.2.1 dX7_levelReached_16 (by decide) ?_
    exact w_X7_levelReached_17 hA C hX _ _ _ _ _ _ _ hf hP hS (lv_sub hl [2, 0] rfl)
  · have hf := g_f hc hf
    refine lv_iconst (v := (1 : Int32)) C.1 C.2.1 dX7_levelReached_12 (by decide) ?_
    refine lv_goto (tgt := 17) C.1 C.2.1 dX7_levelReached_13 (by decide) ?_
    exact w_X7_levelReached_17 hA C hX _ _ _ _ _ _ _ hf hP hS (lv_sub hl [2, 0] rfl)
theorem c_X7_levelReached (l : Launch) (D : va_G) (ids : Nat → ClassId) (ad tt : Nat → Nat) (hA : adOk ad 59) {a1 : Int32} {a2 : Int32} {h : Hp} {rv : Int32 × Hp} (hf : f_X7_levelReached h a1 a2 = some rv) : Met l yX7_levelReached (ws_ yX7_levelReached cX7_levelReached 5 (some .int)) rm_X7_levelReached (va_Pc [.int a1, .int a2] (WB D ids (cEC ids ad) ad 59 (ExC tt ad) h)) (QW D (cEC ids ad) ad 59 (some (.int rv.1)) rv.2) 0 0 (inW ad 59) :=
  u_met (own := RX7) (by decide) rfl (Nat.le_of_ble_eq_true rfl) rfl (fun p e s m args below meth c H ls C hX hP hS hl => w_X7_levelReached (tt := tt) hA C hX _ _ _ _ _ _ hf hP hS hl)
theorem gf_X7_145 {p : Program} {l : Launch} {e : Env} {R : Room} {s : State} {m : MethodId} {args : Array Value} {below : List Frame} {meth : Method} {c : Code} {H : Heap} {locs : List Loc} {cells slots : Nat} {Q : State → Prop} {cc : ByteArray} {nL : Nat} {ret : Option FieldType} {pc : Nat} {ls : Array Slot} {rest : List Value} {D : va_G} {ids : Nat → ClassId} {ad : Nat → Nat} {h : Hp} (C : CX p s m args meth c cc nL ret RX7 D ids) {k : Nat} (hk : isX2 k) (hP : wp D (cEC ids ad) ad 59 h H) (hdg : decode cc pc = .ok (.getfield 145, 3)) (kk : W p l e R s m args below meth c H locs cells slots Q (F0 m (pc + 3) ls (.int (h k 0) :: rest))) : W p l e R s m args below meth c H locs cells slots Q (F0 m pc ls (.ref (ad k) :: rest)) :=
  u_get C hP (lt_X2 hk) (cE_X2 hk) rfl inX2 0 (by decide) rfl q_591 hdg kk
theorem cv_X7_152 {p : Program} {l : Launch} {e : Env} {R : Room} {s : State} {m : MethodId} {args : Array Value} {below : List Frame} {meth : Method} {c : Code} {H : Heap} {locs : List Loc} {Q : State → Prop} {cc : ByteArray} {nL : Nat} {ret : Option FieldType} {pc : Nat} {ls : Array Slot} {rest : List Value} {D : va_G} {ids : Nat → ClassId} {ad tt : Nat → Nat} {h : Hp} (hA : adOk ad 59) (C : CX p s m args meth c cc nL ret RX7 D ids) (hX : (ExC tt ad) s s.heap) (hP : wp D (cEC ids ad) ad 59 h H) (hS : va_S (inW ad 59) s.heap H locs) {a1 : Int32} {a2 : Int32} {rv : Int32 × Hp} (hf : f_X7_levelReached h a1 a2 = some rv) (hR : 2 + 1 ≤ R.frames ∧ 8 + (5 + 11) + 42 ≤ R.locals) (hsz : ls.size = nL) (hcat : (rest.map fun v => v.category).sum ≤ 8) (hdg : decode cc pc = .ok (.invokestatic 152, 3)) (kk : ∀ (H1 : Heap) (locs1 : List Loc), wp D (cEC ids ad) ad 59 rv.2 H1 → va_S (inW ad 59) s.heap H1 locs1 → W p l e R s m args below meth c H1 locs1 0 0 Q (F0 m (pc + 3) ls (.int rv.1 :: rest))) : W p l e R s m args below meth c H locs 0 0 Q (F0 m pc ls (.int a2 :: .int a1 :: rest)) :=
  u_callS (As := [.int a1, .int a2]) (rv := (some (.int rv.1))) C (exC_ok hA) hX (c_X7_levelReached l D ids ad tt hA hf) q_593 q_594 q_2 q_595 ⟨rfl, rfl⟩ (by refine ⟨by decide +kernel, by decide +kernel, ?_⟩; show _ = some 2; decide +kernel) hR hP hS hsz hcat rfl hdg kk
abbrev rm_X7_level : Room := { frames := 3, cells := 0, slots := 0, locals := 66 }
set_option maxRecDepth 100000 in
set_option maxHeartbeats 4000000 in
theorem w_X7_level_65 {p : Program} {l : Launch} {e : Env} {s : State} {m : MethodId} {args : Array Value} {below : List Frame} {meth : Method} {c : Code} {D : va_G} {ids : Nat → ClassId} {ad tt : Nat → Nat} {rv : Int32 × Hp} (hA : adOk ad 59) (C : CX p s m args meth c cX7_level 6 (some .int) RX7 D ids) (hX : (ExC tt ad) s s.heap) : ∀ (h : Hp) (x2 : Int32) (x3 : Int32) (t0 : Int32) (H : Heap) (locs : List Loc) (ls : Array Slot), f_X7_level_65 h x2 x3 t0 = some rv → wp D (cEC ids ad) ad 59 h H → va_S (inW ad 59) s.heap H locs → lv_has ls 6 [(2, .int x2), (3, .int x3)] → W p l e rm_X7_level s m args below meth c H locs 0 0 (MQ below (QW D (cEC ids ad) ad 59 (some (.int rv.1)) rv.2) args s 0 0 (inW ad 59)) (F0 m 65 ls [.int t0]) := by
  intro h x2 x3 t0 H locs ls hf hP hS hl
  unfold f_X7_level_65 at hf
  refine lv_istore (lv' := [(5, .int t0), (2, .int x2), (3, .int x3)]) C.1 C.2.1 dX7_level_65 hl (by decide) rfl (fun ls hl => ?_)
  refine lv_iload_n C.1 C.2.1 dX7_level_67 rfl (lv_at hl 2 rfl) ?_
  by_cases hc0 : x3 = 0
  · have hf := g_t hc0 hf
    refine lv_lookup (off := 28) (tgt := 96) C.1 C.2.1 dX7_level_68 (by decide) (by rw [hc0]; decide) (by decide) ?_
    refine lv_iload C.1 C.2.1 dX7_level_96 (lv_at hl 0 rfl) ?_
    refine lv_iload_n C.1 C.2.1 dX7_level_98 rfl (lv_at hl 1 rfl) ?_
    obtain ⟨q1, eq1, hf⟩ := g_b hf
    refine cv_X7_148 hA C hX hP hS eq1 ⟨Nat.le_of_ble_eq_true rfl, Nat.le_of_ble_eq_true rfl⟩ hl.1 (Nat.le_of_ble_eq_true rfl) dX7_level_99 (fun H locs hP hS => ?_)
    obtain rfl := Option.some.inj hf
    exact u_iret C hP hS dX7_level_102
  · have hf := g_f hc0 hf
    by_cases hc1 : x3 = 1
    · have hf := g_t hc1 hf
      refine lv_lookup (off := 35) (tgt := 103) C.1 C.2.1 dX7_level_68 (by decide) (by rw [hc1]; decide) (by decide) ?_
      refine lv_iload C.1 C.2.1 dX7_level_103 (lv_at hl 0 rfl) ?_
      refine lv_iload_n C.1 C.2.1 dX7_level_105 rfl (lv_at hl 1 rfl) ?_
      obtain ⟨q2, eq2, hf⟩ := g_b hf
      refine cv_X7_152 hA C hX hP hS eq2 ⟨Nat.le_of_ble_eq_true rfl, Nat.le_of_ble_eq_true rfl⟩ hl.1 (Nat.le_of_ble_eq_true rfl) dX7_level_106 (fun H locs hP hS => ?_)
      obtain rfl := Option.some.inj hf
      exact u_iret C hP hS dX7_level_109
    · have hf := g_f hc1 hf
      refine lv_lookup (off := 42) (tgt := 110) C.1 C.2.1 dX7_level_68 (by decide) (by show Op.lookupswitch.offset [(0, 28), (1, 35)] 42 (x3).toInt = _; rw [lv_osw hc0 (by decide), lv_osw hc1 (by decide)]; rfl) (by decide) ?_
      refine lv_bipush (v := (-2 : Int32)) C.1 C.2.1 dX7_level_110 (by decide) ?_
      obtain rfl := Option.some.inj hf
      exact u_iret C hP hS dX7_level_112
set_option maxRecDepth 100000 in
set_option maxHeartbeats 4000000 in
theorem w_X7_level_17 {p : Program} {l : Launch} {e : Env} {s : State} {m : MethodId} {args : Array Value} {below : List Frame} {meth : Method} {c : Code} {D : va_G} {ids : Nat → ClassId} {ad tt : Nat → Nat} {rv : Int32 × Hp} (hA : adOk ad 59) (C : CX p s m args meth c cX7_level 6 (some .int) RX7 D ids) (hX : (ExC tt ad) s s.heap) : ∀ (h : Hp) (x1 : Int32) (x2 : Int32) (x3 : Int32) (t0 : Int32) (H : Heap) (locs : List Loc) (ls : Array Slot), f_X7_level_17 h x1 x2 x3 t0 = some rv → wp D (cEC ids ad) ad 59 h H → va_S (inW ad 59) s.heap H locs → lv_has ls 6 [(0, .ref (ad 0)), (1, .int x1), (2, .int x2), (3, .int x3)] → W p l e rm_X7_level s m args below meth c H locs 0 0 (MQ below (QW D (cEC ids ad) ad 59 (some (.int rv.1)) rv.2) args s 0 0 (inW ad 59)) (F0 m 17 ls [.int t0]) := by
  intro h x1 x2 x3 t0 H locs ls hf hP hS hl
  unfold f_X7_level_17 at hf
  refine lv_istore (lv' := [(4, .int t0), (0, .ref (ad 0)), (1, .int x1), (2, .int x2), (3, .int x3)]) C.1 C.2.1 dX7_level_17 hl (by decide) rfl (fun ls hl => ?_)
  refine lv_iload C.1 C.2.1 dX7_level_19 (lv_at hl 0 rfl) ?_
  refine lv_if_eq (tgt := 34) C.1 C.2.1 dX7_level_21 (by decide) (fun hc => ?_) (fun hc => ?_)
  · have hf := g_t hc hf
    refine lv_iconst (v := (-1 : Int32)) C.1 C.2.1 dX7_level_34 (by decide) ?_
    obtain rfl := Option.some.inj hf
    exact u_iret C hP hS dX7_level_35
  · have hf := g_f hc hf
    refine lv_iload_n C.1 C.2.1 dX7_level_24 rfl (lv_at hl 3 rfl) ?_
    refine lv_if_lt (tgt := 34) C.1 C.2.1 dX7_level_25 (by decide) (fun hc => ?_) (fun hc => ?_)
    · have hf := g_t hc hf
      refine lv_iconst (v := (-1 : Int32)) C.1 C.2.1 dX7_level_34 (by decide) ?_
      obtain rfl := Option.some.inj hf
      exact u_iret C hP hS dX7_level_35
    · have hf := g_f hc hf
      refine lv_iload_n C.1 C.2.1 dX7_level_28 rfl (lv_at hl 3 rfl) ?_
      refine lv_bipush (v := (24 : Int32)) C.1 C.2.1 dX7_level_29 (by decide) ?_
      refine lv_icmp_lt (tgt := 36) C.1 C.2.1 dX7_level_31 (by decide) (fun hc => ?_) (fun hc => ?_)
      · have hf := g_t hc hf
        refine lv_iload_n C.1 C.2.1 dX7_level_36 rfl (lv_at hl 2 rfl) ?_
        obtain ⟨q1, eq1, hf⟩ := g_b hf
        refine cv_X7_55 hA C hX hP hS eq1 ⟨Nat.le_of_ble_eq_true rfl, Nat.le_of_ble_eq_true rfl⟩ hl.1 (Nat.le_of_ble_eq_true rfl) dX7_level_37 (fun H locs hP hS => ?_)
        refine lv_if_eq (tgt := 58) C.1 C.2.1 dX7_level_40 (by decide) (fun hc => ?_) (fun hc => ?_)
        · have hf := g_t hc hf
          refine lv_aload_n C.1 C.2.1 dX7_level_58 rfl (lv_at hl 1 rfl) ?_
          refine gf_X7_12 C hP dX7_level_59 ?_
          refine gf_X7_91 C pX5_1 hP dX7_level_62 ?_
          exact w_X7_level_65 hA C hX _ _ _ _ _ _ _ hf hP hS (lv_sub hl [3, 4] rfl)
        · have hf := g_f hc hf
          refine lv_aload_n C.1 C.2.1 dX7_level_43 rfl (lv_at hl 1 rfl) ?_
          refine gf_X7_12 C hP dX7_level_44 ?_
          refine gf_X7_63 C pX5_1 hP dX7_level_47 ?_
          refine lv_iload_n C.1 C.2.1 dX7_level_50 rfl (lv_at hl 2 rfl) ?_
          obtain ⟨hg2, hf⟩ := g_if hf
          refine rl_aCap C (cap_of pX5_1) hP hg2 dX7_level_51 ?_
          refine gf_X7_145 C (cp_el (cap_of pX5_1) hg2) hP dX7_level_52 ?_
          refine lv_goto (tgt := 65) C.1 C.2.1 dX7_level_55 (by decide) ?_
          exact w_X7_level_65 hA C hX _ _ _ _ _ _ _ hf hP hS (lv_sub hl [3, 4] rfl)
      · have hf := g_f hc hf
        refine lv_iconst (v := (-1 : Int32)) C.1 C.2.1 dX7_level_34 (by decide) ?_
        obtain rfl := Option.some.inj hf
        exact u_iret C hP hS dX7_level_35
set_option maxRecDepth 100000 in
set_option maxHeartbeats 4000000 in
theorem w_X7_level_12 {p : Program} {l : Launch} {e : Env} {s : State} {m : MethodId} {args : Array Value} {below : List Frame} {meth : Method} {c : Code} {D : va_G} {ids : Nat → ClassId} {ad tt : Nat → Nat} {rv : Int32 × Hp} (hA : adOk ad 59) (C : CX p s m args meth c cX7_level 6 (some .int) RX7 D ids) (hX : (ExC tt ad) s s.heap) : ∀ (h : Hp) (x1 : Int32) (x2 : Int32) (x3 : Int32) (H : Heap) (locs : List Loc) (ls : Array Slot), f_X7_level_12 h x1 x2 x3 = some rv → wp D (cEC ids ad) ad 59 h H → va_S (inW ad 59) s.heap H locs → lv_has ls 6 [(0, .ref (ad 0)), (1, .int x1), (2, .int x2), (3, .int x3)] → W p l e rm_X7_level s m args below meth c H locs 0 0 (MQ below (QW D (cEC ids ad) ad 59 (some (.int rv.1)) rv.2) args s 0 0 (inW ad 59)) (F0 m 12 ls []) := by
  intro h x1 x2 x3 H locs ls hf hP hS hl
  unfold f_X7_level_12 at hf
  refine lv_iconst (v := (1 : Int32)) C.1 C.2.1 dX7_level_12 (by decide) ?_
  refine lv_goto (tgt := 17) C.1 C.2.1 dX7_level_13 (by decide) ?_
  exact w_X7_level_17 hA C hX _ _ _ _ _ _ _ _ hf hP hS (lv_sub hl [0, 1, 2, 3] rfl)
set_option maxRecDepth 100000 in
set_option maxHeartbeats 4000000 in
theorem w_X7_level {p : Program} {l : Launch} {e : Env} {s : State} {m : MethodId} {args : Array Value} {below : List Frame} {meth : Method} {c : Code} {D : va_G} {ids : Nat → ClassId} {ad tt : Nat → Nat} {rv : Int32 × Hp} (hA : adOk ad 59) (C : CX p s m args meth c cX7_level 6 (some .int) RX7 D ids) (hX : (ExC tt ad) s s.heap) : ∀ (h : Hp) (a1 : Int32) (a2 : Int32) (a3 : Int32) (H : Heap) (locs : List Loc) (ls : Array Slot), f_X7_level h a1 a2 a3 = some rv → wp D (cEC ids ad) ad 59 h H → va_S (inW ad 59) s.heap H locs → lv_has ls 6 [(0, .ref (ad 0)), (1, .int a1), (2, .int a2), (3, .int a3)] → W p l e rm_X7_level s m args below meth c H locs 0 0 (MQ below (QW D (cEC ids ad) ad 59 (some (.int rv.1)) rv.2) args s 0 0 (inW ad 59)) (F0 m 0 ls []) := by
  intro h a1 a2 a3 H locs ls hf hP hS hl
  unfold f_X7_level at hf
  refine lv_iload_n C.1 C.2.1 dX7_level_0 rfl (lv_at hl 1 rfl) ?_
  obtain ⟨q1, eq1, hf⟩ := g_b hf
  refine cv_X7_55 hA C hX hP hS eq1 ⟨Nat.le_of_ble_eq_true rfl, Nat.le_of_ble_eq_true rfl⟩ hl.1 (Nat.le_of_ble_eq_true rfl) dX7_level_1 (fun H locs hP hS => ?_)
  refine lv_if_ne (tgt := 12) C.1 C.2.1 dX7_level_4 (by decide) (fun hc => ?_) (fun hc => ?_)
  · have hf := g_f hc hf
    exact w_X7_level_12 hA C hX _ _ _ _ _ _ _ hf hP hS (lv_sub hl [0, 1, 2, 3] rfl)
  · have hf := g_t hc hf
    refine lv_iload_n C.1 C.2.1 dX7_level_7 rfl (lv_at hl 1 rfl) ?_
    refine lv_iconst (v := (3 : Int32)) C.1 C.2.1 dX7_level_8 (by decide) ?_
    refine lv_icmp_ne (tgt := 16) C.1 C.2.1 dX7_level_9 (by decide) (fun hc => ?_) (fun hc => ?_)
    · have hf := g_f hc hf
      refine lv_iconst (v := (0 : Int32)) C.1 C.2.1 dX7_level_16 (by decide) ?_
      exact w_X7_level_17 hA C hX _ _ _ _ _ _ _ _ hf hP hS (lv_sub hl [0, 1, 2, 3] rfl)
    · have hf := g_t hc hf
      exact w_X7_level_12 hA C hX _ _ _ _ _ _ _ hf hP hS (lv_sub hl [0, 1, 2, 3] rfl)
theorem c_X7_level (l : Launch) (D : va_G) (ids : Nat → ClassId) (ad tt : Nat → Nat) (hA : adOk ad 59) {a1 : Int32} {a2 : Int32} {a3 : Int32} {h : Hp} {rv : Int32 × Hp} (hf : f_X7_level h a1 a2 a3 = some rv) : Met l yX7_level (ws_ yX7_level cX7_level 6 (some .int)) rm_X7_level (va_Pc [.ref (ad 0), .int a1, .int a2, .int a3] (WB D ids (cEC ids ad) ad 59 (ExC tt ad) h)) (QW D (cEC ids ad) ad 59 (some (.int rv.1)) rv.2) 0 0 (inW ad 59) :=
  u_met (own := RX7) (by decide) rfl (Nat.le_of_ble_eq_true rfl) rfl (fun p e s m args below meth c H ls C hX hP hS hl => w_X7_level (tt := tt) hA C hX _ _ _ _ _ _ _ hf hP hS hl)
abbrev rm_X1_usersAt : Room := { frames := 0, cells := 0, slots := 0, locals := 0 }
set_option maxRecDepth 100000 in
set_option maxHeartbeats 4000000 in
theorem w_X1_usersAt {p : Program} {l : Launch} {e : Env} {s : State} {m : MethodId} {args : Array Value} {below : List Frame} {meth : Method} {c : Code} {D : va_G} {ids : Nat → ClassId} {ad tt : Nat → Nat} {rv : Int32 × Hp} (hA : adOk ad 59) (C : CX p s m args meth c cX1_usersAt 2 (some .int) RX1 D ids) (hX : (ExC tt ad) s s.heap) : ∀ (h : Hp) (a1 : Int32) (H : Heap) (locs : List Loc) (ls : Array Slot), f_X1_usersAt h a1 = some rv → wp D (cEC ids ad) ad 59 h H → va_S (inW ad 59) s.heap H locs → lv_has ls 2 [(0, .ref (ad 39)), (1, .int a1)] → W p l e rm_X1_usersAt s m args below meth c H locs 0 0 (MQ below (QW D (cEC ids ad) ad 59 (some (.int rv.1)) rv.2) args s 0 0 (inW ad 59)) (F0 m 0 ls []) := by
  intro h a1 H locs ls hf hP hS hl
  unfold f_X1_usersAt at hf
  refine lv_iload_n C.1 C.2.1 dX1_usersAt_0 rfl (lv_at hl 1 rfl) ?_
  refine lv_if_lt (tgt := 22) C.1 C.2.1 dX1_usersAt_1 (by decide) (fun hc => ?_) (fun hc => ?_)
  · have hf := g_t hc hf
    refine lv_iconst (v := (0 : Int32)) C.1 C.2.1 dX1_usersAt_22 (by decide) ?_
    obtain rfl := Option.some.inj hf
    exact u_iret C hP hS dX1_usersAt_23
  · have hf := g_f hc hf
    refine lv_iload_n C.1 C.2.1 dX1_usersAt_4 rfl (lv_at hl 1 rfl) ?_
    refine lv_aload_n C.1 C.2.1 dX1_usersAt_5 rfl (lv_at hl 0 rfl) ?_
    refine gf_X1_18 C hP dX1_usersAt_6 ?_
    refine ln_aU C hP dX1_usersAt_9 ?_
    refine lv_icmp_ge (tgt := 22) C.1 C.2.1 dX1_usersAt_10 (by decide) (fun hc => ?_) (fun hc => ?_)
    · have hf := g_t hc hf
      refine lv_iconst (v := (0 : Int32)) C.1 C.2.1 dX1_usersAt_22 (by decide) ?_
      obtain rfl := Option.some.inj hf
      exact u_iret C hP hS dX1_usersAt_23
    · have hf := g_f hc hf
      refine lv_aload_n C.1 C.2.1 dX1_usersAt_13 rfl (lv_at hl 0 rfl) ?_
      refine gf_X1_18 C hP dX1_usersAt_14 ?_
      refine lv_iload_n C.1 C.2.1 dX1_usersAt_17 rfl (lv_at hl 1 rfl) ?_
      obtain ⟨hg, hf⟩ := g_if hf
      refine al_aU C hP hg dX1_usersAt_18 ?_
      refine lv_goto (tgt := 23) C.1 C.2.1 dX1_usersAt_19 (by decide) ?_
      obtain rfl := Option.some.inj hf
      exact u_iret C hP hS dX1_usersAt_23
theorem c_X1_usersAt (l : Launch) (D : va_G) (ids : Nat → ClassId) (ad tt : Nat → Nat) (hA : adOk ad 59) {a1 : Int32} {h : Hp} {rv : Int32 × Hp} (hf : f_X1_usersAt h a1 = some rv) : Met l yX1_usersAt (ws_ yX1_usersAt cX1_usersAt 2 (some .int)) rm_X1_usersAt (va_Pc [.ref (ad 39), .int a1] (WB D ids (cEC ids ad) ad 59 (ExC tt ad) h)) (QW D (cEC ids ad) ad 59 (some (.int rv.1)) rv.2) 0 0 (inW ad 59) :=
  u_met (own := RX1) (by decide) rfl (Nat.le_of_ble_eq_true rfl) rfl (fun p e s m args below meth c H ls C hX hP hS hl => w_X1_usersAt (tt := tt) hA C hX _ _ _ _ _ hf hP hS hl)
theorem cv_X7_158 {p : Program} {l : Launch} {e : Env} {R : Room} {s : State} {m : MethodId} {args : Array Value} {below : List Frame} {meth : Method} {c : Code} {H : Heap} {locs : List Loc} {Q : State → Prop} {cc : ByteArray} {nL : Nat} {ret : Option FieldType} {pc : Nat} {ls : Array Slot} {rest : List Value} {D : va_G} {ids : Nat → ClassId} {ad tt : Nat → Nat} {h : Hp} (hA : adOk ad 59) (C : CX p s m args meth c cc nL ret RX7 D ids) (hX : (ExC tt ad) s s.heap) (hP : wp D (cEC ids ad) ad 59 h H) (hS : va_S (inW ad 59) s.heap H locs) {a1 : Int32} {a2 : Int32} {rv : Int32 × Hp} (hf : f_X1_placeOf h a1 a2 = some rv) (hR : 0 + 1 ≤ R.frames ∧ 8 + (2 + 11) + 0 ≤ R.locals) (hsz : ls.size = nL) (hcat : (rest.map fun v => v.category).sum ≤ 8) (hdg : decode cc pc = .ok (.invokestatic 158, 3)) (kk : ∀ (H1 : Heap) (locs1 : List Loc), wp D (cEC ids ad) ad 59 rv.2 H1 → va_S (inW ad 59) s.heap H1 locs1 → W p l e R s m args below meth c H1 locs1 0 0 Q (F0 m (pc + 3) ls (.int rv.1 :: rest))) : W p l e R s m args below meth c H locs 0 0 Q (F0 m pc ls (.int a2 :: .int a1 :: rest)) :=
  u_callS (As := [.int a1, .int a2]) (rv := (some (.int rv.1))) C (exC_ok hA) hX (c_X1_placeOf l D ids ad tt hA hf) q_604 q_562 q_27 q_563 ⟨rfl, rfl⟩ (by refine ⟨by decide +kernel, by decide +kernel, ?_⟩; show _ = some 2; decide +kernel) hR hP hS hsz hcat rfl hdg kk
theorem cv_X7_161 {p : Program} {l : Launch} {e : Env} {R : Room} {s : State} {m : MethodId} {args : Array Value} {below : List Frame} {meth : Method} {c : Code} {H : Heap} {locs : List Loc} {Q : State → Prop} {cc : ByteArray} {nL : Nat} {ret : Option FieldType} {pc : Nat} {ls : Array Slot} {rest : List Value} {D : va_G} {ids : Nat → ClassId} {ad tt : Nat → Nat} {h : Hp} (hA : adOk ad 59) (C : CX p s m args meth c cc nL ret RX7 D ids) (hX : (ExC tt ad) s s.heap) (hP : wp D (cEC ids ad) ad 59 h H) (hS : va_S (inW ad 59) s.heap H locs) {a1 : Int32} {rv : Int32 × Hp} (hf : f_X1_usersAt h a1 = some rv) (hR : 0 + 1 ≤ R.frames ∧ 8 + (2 + 11) + 0 ≤ R.locals) (hsz : ls.size = nL) (hcat : (rest.map fun v => v.category).sum ≤ 8) (hdg : decode cc pc = .ok (.invokevirtual 161, 3)) (kk : ∀ (H1 : Heap) (locs1 : List Loc), wp D (cEC ids ad) ad 59 rv.2 H1 → va_S (inW ad 59) s.heap H1 locs1 → W p l e R s m args below meth c H1 locs1 0 0 Q (F0 m (pc + 3) ls (.int rv.1 :: rest))) : W p l e R s m args below meth c H locs 0 0 Q (F0 m pc ls (.int a1 :: .ref (ad 39) :: rest)) :=
  u_callV (As := [.int a1]) (rv := (some (.int rv.1))) C (exC_ok hA) hX (c_X1_usersAt l D ids ad tt hA hf) q_605 q_606 q_607 q_27 q_608 ⟨rfl, rfl⟩ (by refine ⟨by decide +kernel, by decide +kernel, ?_⟩; show _ = some 1; decide +kernel) hR (by decide) (cE_X1 _) rfl hP hS hsz hcat rfl hdg kk
abbrev rm_X7_uses : Room := { frames := 4, cells := 0, slots := 0, locals := 88 }
set_option maxRecDepth 100000 in
set_option maxHeartbeats 4000000 in
theorem w_X7_uses {p : Program} {l : Launch} {e : Env} {s : State} {m : MethodId} {args : Array Value} {below : List Frame} {meth : Method} {c : Code} {D : va_G} {ids : Nat → ClassId} {ad tt : Nat → Nat} {rv : Int32 × Hp} (hA : adOk ad 59) (C : CX p s m args meth c cX7_uses 3 (some .int) RX7 D ids) (hX : (ExC tt ad) s s.heap) : ∀ (h : Hp) (a1 : Int32) (a2 : Int32) (H : Heap) (locs : List Loc) (ls : Array Slot), f_X7_uses h a1 a2 = some rv → wp D (cEC ids ad) ad 59 h H → va_S (inW ad 59) s.heap H locs → lv_has ls 3 [(0, .ref (ad 0)), (1, .int a1), (2, .int a2)] → W p l e rm_X7_uses s m args below meth c H locs 0 0 (MQ below (QW D (cEC ids ad) ad 59 (some (.int rv.1)) rv.2) args s 0 0 (inW ad 59)) (F0 m 0 ls []) := by
  intro h a1 a2 H locs ls hf hP hS hl
  unfold f_X7_uses at hf
  refine lv_iload_n C.1 C.2.1 dX7_uses_0 rfl (lv_at hl 1 rfl) ?_
  refine lv_if_lt (tgt := 19) C.1 C.2.1 dX7_uses_1 (by decide) (fun hc => ?_) (fun hc => ?_)
  · have hf := g_t hc hf
    refine lv_iconst (v := (-1 : Int32)) C.1 C.2.1 dX7_uses_19 (by decide) ?_
    obtain rfl := Option.some.inj hf
    exact u_iret C hP hS dX7_uses_20
  · have hf := g_f hc hf
    refine lv_iload_n C.1 C.2.1 dX7_uses_4 rfl (lv_at hl 1 rfl) ?_
    refine lv_iconst (v := (2 : Int32)) C.1 C.2.1 dX7_uses_5 (by decide) ?_
    refine lv_icmp_ge (tgt := 19) C.1 C.2.1 dX7_uses_6 (by decide) (fun hc => ?_) (fun hc => ?_)
    · have hf := g_t hc hf
      refine lv_iconst (v := (-1 : Int32)) C.1 C.2.1 dX7_uses_19 (by decide) ?_
      obtain rfl := Option.some.inj hf
      exact u_iret C hP hS dX7_uses_20
    · have hf := g_f hc hf
      refine lv_iload_n C.1 C.2.1 dX7_uses_9 rfl (lv_at hl 2 rfl) ?_
      refine lv_if_lt (tgt := 19) C.1 C.2.1 dX7_uses_10 (by decide) (fun hc => ?_) (fun hc => ?_)
      · have hf := g_t hc hf
        refine lv_iconst (v := (-1 : Int32)) C.1 C.2.1 dX7_uses_19 (by decide) ?_
        obtain rfl := Option.some.inj hf
        exact u_iret C hP hS dX7_uses_20
      · have hf := g_f hc hf
        refine lv_iload_n C.1 C.2.1 dX7_uses_13 rfl (lv_at hl 2 rfl) ?_
        refine lv_bipush (v := (24 : Int32)) C.1 C.2.1 dX7_uses_14 (by decide) ?_
        refine lv_icmp_lt (tgt := 21) C.1 C.2.1 dX7_uses_16 (by decide) (fun hc => ?_) (fun hc => ?_)
        · have hf := g_t hc hf
          refine lv_aload_n C.1 C.2.1 dX7_uses_21 rfl (lv_at hl 0 rfl) ?_
          refine gf_X7_44 C hP dX7_uses_22 ?_
          refine lv_aload_n C.1 C.2.1 dX7_uses_25 rfl (lv_at hl 0 rfl) ?_
          refine gf_X7_12 C hP dX7_uses_26 ?_
          obtain ⟨q1, eq1, hf⟩ := g_b hf
          refine cv_X7_155 hA C hX hP hS pX5_1 eq1 ⟨Nat.le_of_ble_eq_true rfl, Nat.le_of_ble_eq_true rfl⟩ hl.1 (Nat.le_of_ble_eq_true rfl) dX7_uses_29 (fun H locs hP hS => ?_)
          refine lv_aload_n C.1 C.2.1 dX7_uses_32 rfl (lv_at hl 0 rfl) ?_
          refine gf_X7_44 C hP dX7_uses_33 ?_
          refine lv_iload_n C.1 C.2.1 dX7_uses_36 rfl (lv_at hl 2 rfl) ?_
          refine lv_iload_n C.1 C.2.1 dX7_uses_37 rfl (lv_at hl 1 rfl) ?_
          obtain ⟨q2, eq2, hf⟩ := g_b hf
          refine cv_X7_158 hA C hX hP hS eq2 ⟨Nat.le_of_ble_eq_true rfl, Nat.le_of_ble_eq_true rfl⟩ hl.1 (Nat.le_of_ble_eq_true rfl) dX7_uses_38 (fun H locs hP hS => ?_)
          obtain ⟨q3, eq3, hf⟩ := g_b hf
          refine cv_X7_161 hA C hX hP hS eq3 ⟨Nat.le_of_ble_eq_true rfl, Nat.le_of_ble_eq_true rfl⟩ hl.1 (Nat.le_of_ble_eq_true rfl) dX7_uses_41 (fun H locs hP hS => ?_)
          obtain rfl := Option.some.inj hf
          exact u_iret C hP hS dX7_uses_44
        · have hf := g_f hc hf
          refine lv_iconst (v := (-1 : Int32)) C.1 C.2.1 dX7_uses_19 (by decide) ?_
          obtain rfl := Option.some.inj hf
          exact u_iret C hP hS dX7_uses_20
theorem c_X7_uses (l : Launch) (D : va_G) (ids : Nat → ClassId) (ad tt : Nat → Nat) (hA : adOk ad 59) {a1 : Int32} {a2 : Int32} {h : Hp} {rv : Int32 × Hp} (hf : f_X7_uses h a1 a2 = some rv) : Met l yX7_uses (ws_ yX7_uses cX7_uses 3 (some .int)) rm_X7_uses (va_Pc [.ref (ad 0), .int a1, .int a2] (WB D ids (cEC ids ad) ad 59 (ExC tt ad) h)) (QW D (cEC ids ad) ad 59 (some (.int rv.1)) rv.2) 0 0 (inW ad 59) :=
  u_met (own := RX7) (by decide) rfl (Nat.le_of_ble_eq_true rfl) rfl (fun p e s m args below meth c H ls C hX hP hS hl => w_X7_uses (tt := tt) hA C hX _ _ _ _ _ _ hf hP hS hl)
abbrev rm_J6_bitCount_0f7a4 : Room := { frames := 0, cells := 0, slots := 0, locals := 0 }
set_option maxRecDepth 100000 in
set_option maxHeartbeats 4000000 in
theorem w_J6_bitCount_0f7a4 {p : Program} {l : Launch} {e : Env} {s : State} {m : MethodId} {args : Array Value} {below : List Frame} {meth : Method} {c : Code} {D : va_G} {ids : Nat → ClassId} {ad tt : Nat → Nat} {rv : Int32 × Hp} (hA : adOk ad 59) (C : CX p s m args meth c cJ6_bitCount_0f7a4 1 (some .int) RJ6 D ids) (hX : (ExC tt ad) s s.heap) : ∀ (h : Hp) (a1 : Int32) (H : Heap) (locs : List Loc) (ls : Array Slot), f_J6_bitCount_0f7a4 h a1 = some rv → wp D (cEC ids ad) ad 59 h H → va_S (inW ad 59) s.heap H locs → lv_has ls 1 [(0, .int a1)] → W p l e rm_J6_bitCount_0f7a4 s m args below meth c H locs 0 0 (MQ below (QW D (cEC ids ad) ad 59 (some (.int rv.1)) rv.2) args s 0 0 (inW ad 59)) (F0 m 0 ls []) := by
  intro h a1 H locs ls hf hP hS hl
  unfold f_J6_bitCount_0f7a4 at hf
  refine lv_iload_n C.1 C.2.1 dJ6_bitCount_0f7a4_0 rfl (lv_at hl 0 rfl) ?_
  refine lv_iload_n C.1 C.2.1 dJ6_bitCount_0f7a4_1 rfl (lv_at hl 0 rfl) ?_
  refine lv_iconst (v := (1 : Int32)) C.1 C.2.1 dJ6_bitCount_0f7a4_2 (by decide) ?_
  refine lv_iushr C.1 C.2.1 dJ6_bitCount_0f7a4_3 rfl ?_
  refine lv_ldcw (v := (1431655765 : Int32)) C.1 C.2.1 C.2.2.2.2.2.1 (C.2.2.2.2.2.2.1 _ q_638) dJ6_bitCount_0f7a4_4 ?_
  refine lv_iand C.1 C.2.1 dJ6_bitCount_0f7a4_7 ?_
  refine lv_isub C.1 C.2.1 dJ6_bitCount_0f7a4_8 ?_
  refine lv_istore_n (lv' := [(0, .int (a1 - (((a1.toUInt32 >>> ((1 : Int32).toUInt32 &&& Int32.toUInt32 31)).toInt32) &&& (1431655765 : Int32))))]) C.1 C.2.1 dJ6_bitCount_0f7a4_9 rfl hl (by decide) rfl (fun ls hl => ?_)
  refine lv_iload_n C.1 C.2.1 dJ6_bitCount_0f7a4_10 rfl (lv_at hl 0 rfl) ?_
  refine lv_ldcw (v := (858993459 : Int32)) C.1 C.2.1 C.2.2.2.2.2.1 (C.2.2.2.2.2.2.1 _ q_639) dJ6_bitCount_0f7a4_11 ?_
  refine lv_iand C.1 C.2.1 dJ6_bitCount_0f7a4_14 ?_
  refine lv_iload_n C.1 C.2.1 dJ6_bitCount_0f7a4_15 rfl (lv_at hl 0 rfl) ?_
  refine lv_iconst (v := (2 : Int32)) C.1 C.2.1 dJ6_bitCount_0f7a4_16 (by decide) ?_
  refine lv_iushr C.1 C.2.1 dJ6_bitCount_0f7a4_17 rfl ?_
  refine lv_ldcw (v := (858993459 : Int32)) C.1 C.2.1 C.2.2.2.2.2.1 (C.2.2.2.2.2.2.1 _ q_639) dJ6_bitCount_0f7a4_18 ?_
  refine lv_iand C.1 C.2.1 dJ6_bitCount_0f7a4_21 ?_
  refine lv_iadd C.1 C.2.1 dJ6_bitCount_0f7a4_22 ?_
  refine lv_istore_n (lv' := [(0, .int (((a1 - (((a1.toUInt32 >>> ((1 : Int32).toUInt32 &&& Int32.toUInt32 31)).toInt32) &&& (1431655765 : Int32))) &&& (858993459 : Int32)) + ((((a1 - (((a1.toUInt32 >>> ((1 : Int32).toUInt32 &&& Int32.toUInt32 31)).toInt32) &&& (1431655765 : Int32))).toUInt32 >>> ((2 : Int32).toUInt32 &&& Int32.toUInt32 31)).toInt32) &&& (858993459 : Int32))))]) C.1 C.2.1 dJ6_bitCount_0f7a4_23 rfl hl (by decide) rfl (fun ls hl => ?_)
  refine lv_iload_n C.1 C.2.1 dJ6_bitCount_0f7a4_24 rfl (lv_at hl 0 rfl) ?_
  refine lv_iload_n C.1 C.2.1 dJ6_bitCount_0f7a4_25 rfl (lv_at hl 0 rfl) ?_
  refine lv_iconst (v := (4 : Int32)) C.1 C.2.1 dJ6_bitCount_0f7a4_26 (by decide) ?_
  refine lv_iushr C.1 C.2.1 dJ6_bitCount_0f7a4_27 rfl ?_
  refine lv_iadd C.1 C.2.1 dJ6_bitCount_0f7a4_28 ?_
  refine lv_ldcw (v := (252645135 : Int32)) C.1 C.2.1 C.2.2.2.2.2.1 (C.2.2.2.2.2.2.1 _ q_640) dJ6_bitCount_0f7a4_29 ?_
  refine lv_iand C.1 C.2.1 dJ6_bitCount_0f7a4_32 ?_
  refine lv_istore_n (lv' := [(0, .int (((((a1 - (((a1.toUInt32 >>> ((1 : Int32).toUInt32 &&& Int32.toUInt32 31)).toInt32) &&& (1431655765 : Int32))) &&& (858993459 : Int32)) + ((((a1 - (((a1.toUInt32 >>> ((1 : Int32).toUInt32 &&& Int32.toUInt32 31)).toInt32) &&& (1431655765 : Int32))).toUInt32 >>> ((2 : Int32).toUInt32 &&& Int32.toUInt32 31)).toInt32) &&& (858993459 : Int32))) + (((((a1 - (((a1.toUInt32 >>> ((1 : Int32).toUInt32 &&& Int32.toUInt32 31)).toInt32) &&& (1431655765 : Int32))) &&& (858993459 : Int32)) + ((((a1 - (((a1.toUInt32 >>> ((1 : Int32).toUInt32 &&& Int32.toUInt32 31)).toInt32) &&& (1431655765 : Int32))).toUInt32 >>> ((2 : Int32).toUInt32 &&& Int32.toUInt32 31)).toInt32) &&& (858993459 : Int32))).toUInt32 >>> ((4 : Int32).toUInt32 &&& Int32.toUInt32 31)).toInt32)) &&& (252645135 : Int32)))]) C.1 C.2.1 dJ6_bitCount_0f7a4_33 rfl hl (by decide) rfl (fun ls hl => ?_)
  refine lv_iload_n C.1 C.2.1 dJ6_bitCount_0f7a4_34 rfl (lv_at hl 0 rfl) ?_
  refine lv_iload_n C.1 C.2.1 dJ6_bitCount_0f7a4_35 rfl (lv_at hl 0 rfl) ?_
  refine lv_bipush (v := (8 : Int32)) C.1 C.2.1 dJ6_bitCount_0f7a4_36 (by decide) ?_
  refine lv_iushr C.1 C.2.1 dJ6_bitCount_0f7a4_38 rfl ?_
  refine lv_iadd C.1 C.2.1 dJ6_bitCount_0f7a4_39 ?_
  refine lv_istore_n (lv' := [(0, .int ((((((a1 - (((a1.toUInt32 >>> ((1 : Int32).toUInt32 &&& Int32.toUInt32 31)).toInt32) &&& (1431655765 : Int32))) &&& (858993459 : Int32)) + ((((a1 - (((a1.toUInt32 >>> ((1 : Int32).toUInt32 &&& Int32.toUInt32 31)).toInt32) &&& (1431655765 : Int32))).toUInt32 >>> ((2 : Int32).toUInt32 &&& Int32.toUInt32 31)).toInt32) &&& (858993459 : Int32))) + (((((a1 - (((a1.toUInt32 >>> ((1 : Int32).toUInt32 &&& Int32.toUInt32 31)).toInt32) &&& (1431655765 : Int32))) &&& (858993459 : Int32)) + ((((a1 - (((a1.toUInt32 >>> ((1 : Int32).toUInt32 &&& Int32.toUInt32 31)).toInt32) &&& (1431655765 : Int32))).toUInt32 >>> ((2 : Int32).toUInt32 &&& Int32.toUInt32 31)).toInt32) &&& (858993459 : Int32))).toUInt32 >>> ((4 : Int32).toUInt32 &&& Int32.toUInt32 31)).toInt32)) &&& (252645135 : Int32)) + (((((((a1 - (((a1.toUInt32 >>> ((1 : Int32).toUInt32 &&& Int32.toUInt32 31)).toInt32) &&& (1431655765 : Int32))) &&& (858993459 : Int32)) + ((((a1 - (((a1.toUInt32 >>> ((1 : Int32).toUInt32 &&& Int32.toUInt32 31)).toInt32) &&& (1431655765 : Int32))).toUInt32 >>> ((2 : Int32).toUInt32 &&& Int32.toUInt32 31)).toInt32) &&& (858993459 : Int32))) + (((((a1 - (((a1.toUInt32 >>> ((1 : Int32).toUInt32 &&& Int32.toUInt32 31)).toInt32) &&& (1431655765 : Int32))) &&& (858993459 : Int32)) + ((((a1 - (((a1.toUInt32 >>> ((1 : Int32).toUInt32 &&& Int32.toUInt32 31)).toInt32) &&& (1431655765 : Int32))).toUInt32 >>> ((2 : Int32).toUInt32 &&& Int32.toUInt32 31)).toInt32) &&& (858993459 : Int32))).toUInt32 >>> ((4 : Int32).toUInt32 &&& Int32.toUInt32 31)).toInt32)) &&& (252645135 : Int32)).toUInt32 >>> ((8 : Int32).toUInt32 &&& Int32.toUInt32 31)).toInt32)))]) C.1 C.2.1 dJ6_bitCount_0f7a4_40 rfl hl (by decide) rfl (fun ls hl => ?_)
  refine lv_iload_n C.1 C.2.1 dJ6_bitCount_0f7a4_41 rfl (lv_at hl 0 rfl) ?_
  refine lv_iload_n C.1 C.2.1 dJ6_bitCount_0f7a4_42 rfl (lv_at hl 0 rfl) ?_
  refine lv_bipush (v := (16 : Int32)) C.1 C.2.1 dJ6_bitCount_0f7a4_43 (by decide) ?_
  refine lv_iushr C.1 C.2.1 dJ6_bitCount_0f7a4_45 rfl ?_
  refine lv_iadd C.1 C.2.1 dJ6_bitCount_0f7a4_46 ?_
  refine lv_istore_n (lv' := [(0, .int (((((((a1 - (((a1.toUInt32 >>> ((1 : Int32).toUInt32 &&& Int32.toUInt32 31)).toInt32) &&& (1431655765 : Int32))) &&& (858993459 : Int32)) + ((((a1 - (((a1.toUInt32 >>> ((1 : Int32).toUInt32 &&& Int32.toUInt32 31)).toInt32) &&& (1431655765 : Int32))).toUInt32 >>> ((2 : Int32).toUInt32 &&& Int32.toUInt32 31)).toInt32) &&& (858993459 : Int32))) + (((((a1 - (((a1.toUInt32 >>> ((1 : Int32).toUInt32 &&& Int32.toUInt32 31)).toInt32) &&& (1431655765 : Int32))) &&& (858993459 : Int32)) + ((((a1 - (((a1.toUInt32 >>> ((1 : Int32).toUInt32 &&& Int32.toUInt32 31)).toInt32) &&& (1431655765 : Int32))).toUInt32 >>> ((2 : Int32).toUInt32 &&& Int32.toUInt32 31)).toInt32) &&& (858993459 : Int32))).toUInt32 >>> ((4 : Int32).toUInt32 &&& Int32.toUInt32 31)).toInt32)) &&& (252645135 : Int32)) + (((((((a1 - (((a1.toUInt32 >>> ((1 : Int32).toUInt32 &&& Int32.toUInt32 31)).toInt32) &&& (1431655765 : Int32))) &&& (858993459 : Int32)) + ((((a1 - (((a1.toUInt32 >>> ((1 : Int32).toUInt32 &&& Int32.toUInt32 31)).toInt32) &&& (1431655765 : Int32))).toUInt32 >>> ((2 : Int32).toUInt32 &&& Int32.toUInt32 31)).toInt32) &&& (858993459 : Int32))) + (((((a1 - (((a1.toUInt32 >>> ((1 : Int32).toUInt32 &&& Int32.toUInt32 31)).toInt32) &&& (1431655765 : Int32))) &&& (858993459 : Int32)) + ((((a1 - (((a1.toUInt32 >>> ((1 : Int32).toUInt32 &&& Int32.toUInt32 31)).toInt32) &&& (1431655765 : Int32))).toUInt32 >>> ((2 : Int32).toUInt32 &&& Int32.toUInt32 31)).toInt32) &&& (858993459 : Int32))).toUInt32 >>> ((4 : Int32).toUInt32 &&& Int32.toUInt32 31)).toInt32)) &&& (252645135 : Int32)).toUInt32 >>> ((8 : Int32).toUInt32 &&& Int32.toUInt32 31)).toInt32)) + ((((((((a1 - (((a1.toUInt32 >>> ((1 : Int32).toUInt32 &&& Int32.toUInt32 31)).toInt32) &&& (1431655765 : Int32))) &&& (858993459 : Int32)) + ((((a1 - (((a1.toUInt32 >>> ((1 : Int32).toUInt32 &&& Int32.toUInt32 31)).toInt32) &&& (1431655765 : Int32))).toUInt32 >>> ((2 : Int32).toUInt32 &&& Int32.toUInt32 31)).toInt32) &&& (858993459 : Int32))) + (((((a1 - (((a1.toUInt32 >>> ((1 : Int32).toUInt32 &&& Int32.toUInt32 31)).toInt32) &&& (1431655765 : Int32))) &&& (858993459 : Int32)) + ((((a1 - (((a1.toUInt32 >>> ((1 : Int32).toUInt32 &&& Int32.toUInt32 31)).toInt32) &&& (1431655765 : Int32))).toUInt32 >>> ((2 : Int32).toUInt32 &&& Int32.toUInt32 31)).toInt32) &&& (858993459 : Int32))).toUInt32 >>> ((4 : Int32).toUInt32 &&& Int32.toUInt32 31)).toInt32)) &&& (252645135 : Int32)) + (((((((a1 - (((a1.toUInt32 >>> ((1 : Int32).toUInt32 &&& Int32.toUInt32 31)).toInt32) &&& (1431655765 : Int32))) &&& (858993459 : Int32)) + ((((a1 - (((a1.toUInt32 >>> ((1 : Int32).toUInt32 &&& Int32.toUInt32 31)).toInt32) &&& (1431655765 : Int32))).toUInt32 >>> ((2 : Int32).toUInt32 &&& Int32.toUInt32 31)).toInt32) &&& (858993459 : Int32))) + (((((a1 - (((a1.toUInt32 >>> ((1 : Int32).toUInt32 &&& Int32.toUInt32 31)).toInt32) &&& (1431655765 : Int32))) &&& (858993459 : Int32)) + ((((a1 - (((a1.toUInt32 >>> ((1 : Int32).toUInt32 &&& Int32.toUInt32 31)).toInt32) &&& (1431655765 : Int32))).toUInt32 >>> ((2 : Int32).toUInt32 &&& Int32.toUInt32 31)).toInt32) &&& (858993459 : Int32))).toUInt32 >>> ((4 : Int32).toUInt32 &&& Int32.toUInt32 31)).toInt32)) &&& (252645135 : Int32)).toUInt32 >>> ((8 : Int32).toUInt32 &&& Int32.toUInt32 31)).toInt32)).toUInt32 >>> ((16 : Int32).toUInt32 &&& Int32.toUInt32 31)).toInt32)))]) C.1 C.2.1 dJ6_bitCount_0f7a4_47 rfl hl (by decide) rfl (fun ls hl => ?_)
  refine lv_iload_n C.1 C.2.1 dJ6_bitCount_0f7a4_48 rfl (lv_at hl 0 rfl) ?_
  refine lv_bipush (v := (63 : Int32)) C.1 C.2.1 dJ6_bitCount_0f7a4_49 (by decide) ?_
  refine lv_iand C.1 C.2.1 dJ6_bitCount_0f7a4_51 ?_
  obtain rfl := Option.some.inj hf
  exact u_iret C hP hS dJ6_bitCount_0f7a4_52
theorem c_J6_bitCount_0f7a4 (l : Launch) (D : va_G) (ids : Nat → ClassId) (ad tt : Nat → Nat) (hA : adOk ad 59) {a1 : Int32} {h : Hp} {rv : Int32 × Hp} (hf : f_J6_bitCount_0f7a4 h a1 = some rv) : Met l yJ6_bitCount_0f7a4 (ws_ yJ6_bitCount_0f7a4 cJ6_bitCount_0f7a4 1 (some .int)) rm_J6_bitCount_0f7a4 (va_Pc [.int a1] (WB D ids (cEC ids ad) ad 59 (ExC tt ad) h)) (QW D (cEC ids ad) ad 59 (some (.int rv.1)) rv.2) 0 0 (inW ad 59) :=
  u_met (own := RJ6) (by decide) rfl (Nat.le_of_ble_eq_true rfl) rfl (fun p e s m args below meth c H ls C hX hP hS hl => w_J6_bitCount_0f7a4 (tt := tt) hA C hX _ _ _ _ _ hf hP hS hl)
theorem cv_X1_55 {p : Program} {l : Launch} {e : Env} {R : Room} {s : State} {m : MethodId} {args : Array Value} {below : List Frame} {meth : Method} {c : Code} {H : Heap} {locs : List Loc} {Q : State → Prop} {cc : ByteArray} {nL : Nat} {ret : Option FieldType} {pc : Nat} {ls : Array Slot} {rest : List Value} {D : va_G} {ids : Nat → ClassId} {ad tt : Nat → Nat} {h : Hp} (hA : adOk ad 59) (C : CX p s m args meth c cc nL ret RX1 D ids) (hX : (ExC tt ad) s s.heap) (hP : wp D (cEC ids ad) ad 59 h H) (hS : va_S (inW ad 59) s.heap H locs) {a1 : Int32} {rv : Int32 × Hp} (hf : f_X1_usersAt h a1 = some rv) (hR : 0 + 1 ≤ R.frames ∧ 8 + (2 + 11) + 0 ≤ R.locals) (hsz : ls.size = nL) (hcat : (rest.map fun v => v.category).sum ≤ 8) (hdg : decode cc pc = .ok (.invokevirtual 55, 3)) (kk : ∀ (H1 : Heap) (locs1 : List Loc), wp D (cEC ids ad) ad 59 rv.2 H1 → va_S (inW ad 59) s.heap H1 locs1 → W p l e R s m args below meth c H1 locs1 0 0 Q (F0 m (pc + 3) ls (.int rv.1 :: rest))) : W p l e R s m args below meth c H locs 0 0 Q (F0 m pc ls (.int a1 :: .ref (ad 39) :: rest)) :=
  u_callV (As := [.int a1]) (rv := (some (.int rv.1))) C (exC_ok hA) hX (c_X1_usersAt l D ids ad tt hA hf) q_633 q_606 q_607 q_27 q_608 ⟨rfl, rfl⟩ (by refine ⟨by decide +kernel, by decide +kernel, ?_⟩; show _ = some 1; decide +kernel) hR (by decide) (cE_X1 _) rfl hP hS hsz hcat rfl hdg kk
theorem cv_X1_58 {p : Program} {l : Launch} {e : Env} {R : Room} {s : State} {m : MethodId} {args : Array Value} {below : List Frame} {meth : Method} {c : Code} {H : Heap} {locs : List Loc} {Q : State → Prop} {cc : ByteArray} {nL : Nat} {ret : Option FieldType} {pc : Nat} {ls : Array Slot} {rest : List Value} {D : va_G} {ids : Nat → ClassId} {ad tt : Nat → Nat} {h : Hp} (hA : adOk ad 59) (C : CX p s m args meth c cc nL ret RX1 D ids) (hX : (ExC tt ad) s s.heap) (hP : wp D (cEC ids ad) ad 59 h H) (hS : va_S (inW ad 59) s.heap H locs) {a1 : Int32} {rv : Int32 × Hp} (hf : f_J6_bitCount_0f7a4 h a1 = some rv) (hR : 0 + 1 ≤ R.frames ∧ 8 + (1 + 11) + 0 ≤ R.locals) (hsz : ls.size = nL) (hcat : (rest.map fun v => v.category).sum ≤ 8) (hdg : decode cc pc = .ok (.invokestatic 58, 3)) (kk : ∀ (H1 : Heap) (locs1 : List Loc), wp D (cEC ids ad) ad 59 rv.2 H1 → va_S (inW ad 59) s.heap H1 locs1 → W p l e R s m args below meth c H1 locs1 0 0 Q (F0 m (pc + 3) ls (.int rv.1 :: rest))) : W p l e R s m args below meth c H locs 0 0 Q (F0 m pc ls (.int a1 :: rest)) :=
  u_callS (As := [.int a1]) (rv := (some (.int rv.1))) C (exC_ok hA) hX (c_J6_bitCount_0f7a4 l D ids ad tt hA hf) q_634 q_635 q_636 q_637 ⟨rfl, rfl⟩ (by refine ⟨by decide +kernel, by decide +kernel, ?_⟩; show _ = some 1; decide +kernel) hR hP hS hsz hcat rfl hdg kk
abbrev rm_X1_isClash : Room := { frames := 1, cells := 0, slots := 0, locals := 21 }
set_option maxRecDepth 100000 in
set_option maxHeartbeats 4000000 in
theorem w_X1_isClash {p : Program} {l : Launch} {e : Env} {s : State} {m : MethodId} {args : Array Value} {below : List Frame} {meth : Method} {c : Code} {D : va_G} {ids : Nat → ClassId} {ad tt : Nat → Nat} {rv : Int32 × Hp} (hA : adOk ad 59) (C : CX p s m args meth c cX1_isClash 2 (some .boolean) RX1 D ids) (hX : (ExC tt ad) s s.heap) : ∀ (h : Hp) (a1 : Int32) (H : Heap) (locs : List Loc) (ls : Array Slot), f_X1_isClash h a1 = some rv → wp D (cEC ids ad) ad 59 h H → va_S (inW ad 59) s.heap H locs → lv_has ls 2 [(0, .ref (ad 39)), (1, .int a1)] → W p l e rm_X1_isClash s m args below meth c H locs 0 0 (MQ below (QW D (cEC ids ad) ad 59 (some (.int rv.1)) rv.2) args s 0 0 (inW ad 59)) (F0 m 0 ls []) := by
  intro h a1 H locs ls hf hP hS hl
  unfold f_X1_isClash at hf
  refine lv_aload_n C.1 C.2.1 dX1_isClash_0 rfl (lv_at hl 0 rfl) ?_
  refine lv_iload_n C.1 C.2.1 dX1_isClash_1 rfl (lv_at hl 1 rfl) ?_
  obtain ⟨q1, eq1, hf⟩ := g_b hf
  refine cv_X1_55 hA C hX hP hS eq1 ⟨Nat.le_of_ble_eq_true rfl, Nat.le_of_ble_eq_true rfl⟩ hl.1 (Nat.le_of_ble_eq_true rfl) dX1_isClash_2 (fun H locs hP hS => ?_)
  obtain ⟨q2, eq2, hf⟩ := g_b hf
  refine cv_X1_58 hA C hX hP hS eq2 ⟨Nat.le_of_ble_eq_true rfl, Nat.le_of_ble_eq_true rfl⟩ hl.1 (Nat.le_of_ble_eq_true rfl) dX1_isClash_5 (fun H locs hP hS => ?_)
  refine lv_iconst (v := (2 : Int32)) C.1 C.2.1 dX1_isClash_8 (by decide) ?_
  refine lv_icmp_lt (tgt := 16) C.1 C.2.1 dX1_isClash_9 (by decide) (fun hc => ?_) (fun hc => ?_)
  · have hf := g_t hc hf
    refine lv_iconst (v := (0 : Int32)) C.1 C.2.1 dX1_isClash_16 (by decide) ?_
    obtain rfl := Option.some.inj hf
    exact u_zret C hP hS isb_0 dX1_isClash_17
  · have hf := g_f hc hf
    refine lv_iconst (v := (1 : Int32)) C.1 C.2.1 dX1_isClash_12 (by decide) ?_
    refine lv_goto (tgt := 17) C.1 C.2.1 dX1_isClash_13 (by decide) ?_
    obtain rfl := Option.some.inj hf
    exact u_zret C hP hS isb_1 dX1_isClash_17
theorem c_X1_isClash (l : Launch) (D : va_G) (ids : Nat → ClassId) (ad tt : Nat → Nat) (hA : adOk ad 59) {a1 : Int32} {h : Hp} {rv : Int32 × Hp} (hf : f_X1_isClash h a1 = some rv) : Met l yX1_isClash (ws_ yX1_isClash cX1_isClash 2 (some .boolean)) rm_X1_isClash (va_Pc [.ref (ad 39), .int a1] (WB D ids (cEC ids ad) ad 59 (ExC tt ad) h)) (QW D (cEC ids ad) ad 59 (some (.int rv.1)) rv.2) 0 0 (inW ad 59) :=
  u_met (own := RX1) (by decide) rfl (Nat.le_of_ble_eq_true rfl) rfl (fun p e s m args below meth c H ls C hX hP hS hl => w_X1_isClash (tt := tt) hA C hX _ _ _ _ _ hf hP hS hl)
theorem cv_X1_63 {p : Program} {l : Launch} {e : Env} {R : Room} {s : State} {m : MethodId} {args : Array Value} {below : List Frame} {meth : Method} {c : Code} {H : Heap} {locs : List Loc} {Q : State → Prop} {cc : ByteArray} {nL : Nat} {ret : Option FieldType} {pc : Nat} {ls : Array Slot} {rest : List Value} {D : va_G} {ids : Nat → ClassId} {ad tt : Nat → Nat} {h : Hp} (hA : adOk ad 59) (C : CX p s m args meth c cc nL ret RX1 D ids) (hX : (ExC tt ad) s s.heap) (hP : wp D (cEC ids ad) ad 59 h H) (hS : va_S (inW ad 59) s.heap H locs) {a1 : Int32} {rv : Int32 × Hp} (hf : f_X1_isClash h a1 = some rv) (hR : 1 + 1 ≤ R.frames ∧ 8 + (2 + 11) + 21 ≤ R.locals) (hsz : ls.size = nL) (hcat : (rest.map fun v => v.category).sum ≤ 8) (hdg : decode cc pc = .ok (.invokevirtual 63, 3)) (kk : ∀ (H1 : Heap) (locs1 : List Loc), wp D (cEC ids ad) ad 59 rv.2 H1 → va_S (inW ad 59) s.heap H1 locs1 → W p l e R s m args below meth c H1 locs1 0 0 Q (F0 m (pc + 3) ls (.int rv.1 :: rest))) : W p l e R s m args below meth c H locs 0 0 Q (F0 m pc ls (.int a1 :: .ref (ad 39) :: rest)) :=
  u_callV (As := [.int a1]) (rv := (some (.int rv.1))) C (exC_ok hA) hX (c_X1_isClash l D ids ad tt hA hf) q_629 q_630 q_631 q_27 q_632 ⟨rfl, rfl⟩ (by refine ⟨by decide +kernel, by decide +kernel, ?_⟩; show _ = some 1; decide +kernel) hR (by decide) (cE_X1 _) rfl hP hS hsz hcat rfl hdg kk
abbrev rm_X1_placeOfClash : Room := { frames := 2, cells := 0, slots := 0, locals := 42 }
set_option maxRecDepth 100000 in
set_option maxHeartbeats 4000000 in
theorem w_X1_placeOfClash_31 {p : Program} {l : Launch} {e : Env} {s : State} {m : MethodId} {args : Array Value} {below : List Frame} {meth : Method} {c : Code} {D : va_G} {ids : Nat → ClassId} {ad tt : Nat → Nat} {rv : Int32 × Hp} (hA : adOk ad 59) (C : CX p s m args meth c cX1_placeOfClash 4 (some .int) RX1 D ids) (hX : (ExC tt ad) s s.heap) {K4 : Hp → Int32 → Int32 → Int32 → Option (Int32 × Hp)} (hK4 : ∀ (h : Hp) (x1 : Int32) (x2 : Int32) (x3 : Int32) (H : Heap) (locs : List Loc) (ls : Array Slot), K4 h x1 x2 x3 = some rv → wp D (cEC ids ad) ad 59 h H → va_S (inW ad 59) s.heap H locs → lv_has ls 4 [(0, .ref (ad 39)), (1, .int x1), (2, .int x2), (3, .int x3)] → W p l e rm_X1_placeOfClash s m args below meth c H locs 0 0 (MQ below (QW D (cEC ids ad) ad 59 (some (.int rv.1)) rv.2) args s 0 0 (inW ad 59)) (F0 m 4 ls [])) : ∀ (h : Hp) (x1 : Int32) (x2 : Int32) (x3 : Int32) (H : Heap) (locs : List Loc) (ls : Array Slot), f_X1_placeOfClash_31 K4 h x1 x2 x3 = some rv → wp D (cEC ids ad) ad 59 h H → va_S (inW ad 59) s.heap H locs → lv_has ls 4 [(0, .ref (ad 39)), (1, .int x1), (2, .int x2), (3, .int x3)] → W p l e rm_X1_placeOfClash s m args below meth c H locs 0 0 (MQ below (QW D (cEC ids ad) ad 59 (some (.int rv.1)) rv.2) args s 0 0 (inW ad 59)) (F0 m 31 ls []) := by
  intro h x1 x2 x3 H locs ls hf hP hS hl
  unfold f_X1_placeOfClash_31 at hf
  refine lv_iinc (v := (x3 + 1)) (lv' := [(3, .int (x3 + 1)), (0, .ref (ad 39)), (1, .int x1), (2, .int x2)]) C.1 C.2.1 dX1_placeOfClash_31 hl (k := 3) rfl (by rfl) (by decide) rfl (fun ls hl => ?_)
  refine lv_goto (tgt := 4) C.1 C.2.1 dX1_placeOfClash_34 (by decide) ?_
  exact hK4 _ _ _ _ _ _ _ hf hP hS (lv_sub hl [1, 2, 3, 0] rfl)
set_option maxRecDepth 100000 in
set_option maxHeartbeats 4000000 in
theorem w_X1_placeOfClash_4 {p : Program} {l : Launch} {e : Env} {s : State} {m : MethodId} {args : Array Value} {below : List Frame} {meth : Method} {c : Code} {D : va_G} {ids : Nat → ClassId} {ad tt : Nat → Nat} {rv : Int32 × Hp} (hA : adOk ad 59) (C : CX p s m args meth c cX1_placeOfClash 4 (some .int) RX1 D ids) (hX : (ExC tt ad) s s.heap) : ∀ (fu : Nat), ∀ (h : Hp) (x1 : Int32) (x2 : Int32) (x3 : Int32) (H : Heap) (locs : List Loc) (ls : Array Slot), f_X1_placeOfClash_4 fu h x1 x2 x3 = some rv → wp D (cEC ids ad) ad 59 h H → va_S (inW ad 59) s.heap H locs → lv_has ls 4 [(0, .ref (ad 39)), (1, .int x1), (2, .int x2), (3, .int x3)] → W p l e rm_X1_placeOfClash s m args below meth c H locs 0 0 (MQ below (QW D (cEC ids ad) ad 59 (some (.int rv.1)) rv.2) args s 0 0 (inW ad 59)) (F0 m 4 ls []) := by
  intro fu
  induction fu with
  | zero =>
    intro h x1 x2 x3 H locs ls hf hP hS hl
    cases hf
  | succ fu ih =>
    intro h x1 x2 x3 H locs ls hf hP hS hl
    rw [f_X1_placeOfClash_4_s] at hf
    refine lv_iload_n C.1 C.2.1 dX1_placeOfClash_4 rfl (lv_at hl 3 rfl) ?_
    refine lv_aload_n C.1 C.2.1 dX1_placeOfClash_5 rfl (lv_at hl 0 rfl) ?_
    refine gf_X1_18 C hP dX1_placeOfClash_6 ?_
    refine ln_aU C hP dX1_placeOfClash_9 ?_
    refine lv_icmp_ge (tgt := 37) C.1 C.2.1 dX1_placeOfClash_10 (by decide) (fun hc => ?_) (fun hc => ?_)
    · have hf := g_t hc hf
      refine lv_bipush (v := (-5 : Int32)) C.1 C.2.1 dX1_placeOfClash_37 (by decide) ?_
      obtain rfl := Option.some.inj hf
      exact u_iret C hP hS dX1_placeOfClash_39
    · have hf := g_f hc hf
      refine lv_aload_n C.1 C.2.1 dX1_placeOfClash_13 rfl (lv_at hl 0 rfl) ?_
      refine lv_iload_n C.1 C.2.1 dX1_placeOfClash_14 rfl (lv_at hl 3 rfl) ?_
      obtain ⟨q1, eq1, hf⟩ := g_b hf
      refine cv_X1_63 hA C hX hP hS eq1 ⟨Nat.le_of_ble_eq_true rfl, Nat.le_of_ble_eq_true rfl⟩ hl.1 (Nat.le_of_ble_eq_true rfl) dX1_placeOfClash_15 (fun H locs hP hS => ?_)
      refine lv_if_eq (tgt := 31) C.1 C.2.1 dX1_placeOfClash_18 (by decide) (fun hc => ?_) (fun hc => ?_)
      · have hf := g_t hc hf
        exact w_X1_placeOfClash_31 hA C hX ih _ _ _ _ _ _ _ hf hP hS (lv_sub hl [0, 1, 2, 3] rfl)
      · have hf := g_f hc hf
        refine lv_iload_n C.1 C.2.1 dX1_placeOfClash_21 rfl (lv_at hl 2 rfl) ?_
        refine lv_iload_n C.1 C.2.1 dX1_placeOfClash_22 rfl (lv_at hl 1 rfl) ?_
        refine lv_icmp_ne (tgt := 28) C.1 C.2.1 dX1_placeOfClash_23 (by decide) (fun hc => ?_) (fun hc => ?_)
        · have hf := g_f hc hf
          refine lv_iinc (v := (x2 + 1)) (lv' := [(2, .int (x2 + 1)), (0, .ref (ad 39)), (1, .int x1), (3, .int x3)]) C.1 C.2.1 dX1_placeOfClash_28 hl (k := 2) rfl (by rfl) (by decide) rfl (fun ls hl => ?_)
          exact w_X1_placeOfClash_31 hA C hX ih _ _ _ _ _ _ _ hf hP hS (lv_sub hl [1, 2, 0, 3] rfl)
        · have hf := g_t hc hf
          refine lv_iload_n C.1 C.2.1 dX1_placeOfClash_26 rfl (lv_at hl 3 rfl) ?_
          obtain rfl := Option.some.inj hf
          exact u_iret C hP hS dX1_placeOfClash_27
set_option maxRecDepth 100000 in
set_option maxHeartbeats 4000000 in
theorem w_X1_placeOfClash {p : Program} {l : Launch} {e : Env} {s : State} {m : MethodId} {args : Array Value} {below : List Frame} {meth : Method} {c : Code} {D : va_G} {ids : Nat → ClassId} {ad tt : Nat → Nat} {rv : Int32 × Hp} (hA : adOk ad 59) (C : CX p s m args meth c cX1_placeOfClash 4 (some .int) RX1 D ids) (hX : (ExC tt ad) s s.heap) : ∀ (h : Hp) (a1 : Int32) (H : Heap) (locs : List Loc) (ls : Array Slot), f_X1_placeOfClash h a1 = some rv → wp D (cEC ids ad) ad 59 h H → va_S (inW ad 59) s.heap H locs → lv_has ls 4 [(0, .ref (ad 39)), (1, .int a1)] → W p l e rm_X1_placeOfClash s m args below meth c H locs 0 0 (MQ below (QW D (cEC ids ad) ad 59 (some (.int rv.1)) rv.2) args s 0 0 (inW ad 59)) (F0 m 0 ls []) := by
  intro h a1 H locs ls hf hP hS hl
  unfold f_X1_placeOfClash at hf
  refine lv_iconst (v := (0 : Int32)) C.1 C.2.1 dX1_placeOfClash_0 (by decide) ?_
  refine lv_istore_n (lv' := [(2, .int (0 : Int32)), (0, .ref (ad 39)), (1, .int a1)]) C.1 C.2.1 dX1_placeOfClash_1 rfl hl (by decide) rfl (fun ls hl => ?_)
  refine lv_iconst (v := (0 : Int32)) C.1 C.2.1 dX1_placeOfClash_2 (by decide) ?_
  refine lv_istore_n (lv' := [(3, .int (0 : Int32)), (2, .int (0 : Int32)), (0, .ref (ad 39)), (1, .int a1)]) C.1 C.2.1 dX1_placeOfClash_3 rfl hl (by decide) rfl (fun ls hl => ?_)
  exact w_X1_placeOfClash_4 hA C hX _ _ _ _ _ _ _ _ hf hP hS (lv_sub hl [2, 3, 1, 0] rfl)
theorem c_X1_placeOfClash (l : Launch) (D : va_G) (ids : Nat → ClassId) (ad tt : Nat → Nat) (hA : adOk ad 59) {a1 : Int32} {h : Hp} {rv : Int32 × Hp} (hf : f_X1_placeOfClash h a1 = some rv) : Met l yX1_placeOfClash (ws_ yX1_placeOfClash cX1_placeOfClash 4 (some .int)) rm_X1_placeOfClash (va_Pc [.ref (ad 39), .int a1] (WB D ids (cEC ids ad) ad 59 (ExC tt ad) h)) (QW D (cEC ids ad) ad 59 (some (.int rv.1)) rv.2) 0 0 (inW ad 59) :=
  u_met (own := RX1) (by decide) rfl (Nat.le_of_ble_eq_true rfl) rfl (fun p e s m args below meth c H ls C hX hP hS hl => w_X1_placeOfClash (tt := tt) hA C hX _ _ _ _ _ hf hP hS hl)
theorem cv_X7_164 {p : Program} {l : Launch} {e : Env} {R : Room} {s : State} {m : MethodId} {args : Array Value} {below : List Frame} {meth : Method} {c : Code} {H : Heap} {locs : List Loc} {Q : State → Prop} {cc : ByteArray} {nL : Nat} {ret : Option FieldType} {pc : Nat} {ls : Array Slot} {rest : List Value} {D : va_G} {ids : Nat → ClassId} {ad tt : Nat → Nat} {h : Hp} (hA : adOk ad 59) (C : CX p s m args meth c cc nL ret RX7 D ids) (hX : (ExC tt ad) s s.heap) (hP : wp D (cEC ids ad) ad 59 h H) (hS : va_S (inW ad 59) s.heap H locs) {a1 : Int32} {rv : Int32 × Hp} (hf : f_X1_placeOfClash h a1 = some rv) (hR : 2 + 1 ≤ R.frames ∧ 8 + (4 + 11) + 42 ≤ R.locals) (hsz : ls.size = nL) (hcat : (rest.map fun v => v.category).sum ≤ 8) (hdg : decode cc pc = .ok (.invokevirtual 164, 3)) (kk : ∀ (H1 : Heap) (locs1 : List Loc), wp D (cEC ids ad) ad 59 rv.2 H1 → va_S (inW ad 59) s.heap H1 locs1 → W p l e R s m args below meth c H1 locs1 0 0 Q (F0 m (pc + 3) ls (.int rv.1 :: rest))) : W p l e R s m args below meth c H locs 0 0 Q (F0 m pc ls (.int a1 :: .ref (ad 39) :: rest)) :=
  u_callV (As := [.int a1]) (rv := (some (.int rv.1))) C (exC_ok hA) hX (c_X1_placeOfClash l D ids ad tt hA hf) q_625 q_626 q_627 q_27 q_628 ⟨rfl, rfl⟩ (by refine ⟨by decide +kernel, by decide +kernel, ?_⟩; show _ = some 1; decide +kernel) hR (by decide) (cE_X1 _) rfl hP hS hsz hcat rfl hdg kk
abbrev rm_X7_clash : Room := { frames := 4, cells := 0, slots := 0, locals := 88 }
set_option maxRecDepth 100000 in
set_option maxHeartbeats 4000000 in
theorem w_X7_clash {p : Program} {l : Launch} {e : Env} {s : State} {m : MethodId} {args : Array Value} {below : List Frame} {meth : Method} {c : Code} {D : va_G} {ids : Nat → ClassId} {ad tt : Nat → Nat} {rv : Int32 × Hp} (hA : adOk ad 59) (C : CX p s m args meth c cX7_clash 4 (some .int) RX7 D ids) (hX : (ExC tt ad) s s.heap) : ∀ (h : Hp) (a1 : Int32) (a2 : Int32) (H : Heap) (locs : List Loc) (ls : Array Slot), f_X7_clash h a1 a2 = some rv → wp D (cEC ids ad) ad 59 h H → va_S (inW ad 59) s.heap H locs → lv_has ls 4 [(0, .ref (ad 0)), (1, .int a1), (2, .int a2)] → W p l e rm_X7_clash s m args below meth c H locs 0 0 (MQ below (QW D (cEC ids ad) ad 59 (some (.int rv.1)) rv.2) args s 0 0 (inW ad 59)) (F0 m 0 ls []) := by
  intro h a1 a2 H locs ls hf hP hS hl
  unfold f_X7_clash at hf
  refine lv_aload_n C.1 C.2.1 dX7_clash_0 rfl (lv_at hl 0 rfl) ?_
  refine gf_X7_44 C hP dX7_clash_1 ?_
  refine lv_aload_n C.1 C.2.1 dX7_clash_4 rfl (lv_at hl 0 rfl) ?_
  refine gf_X7_12 C hP dX7_clash_5 ?_
  obtain ⟨q1, eq1, hf⟩ := g_b hf
  refine cv_X7_155 hA C hX hP hS pX5_1 eq1 ⟨Nat.le_of_ble_eq_true rfl, Nat.le_of_ble_eq_true rfl⟩ hl.1 (Nat.le_of_ble_eq_true rfl) dX7_clash_8 (fun H locs hP hS => ?_)
  refine lv_aload_n C.1 C.2.1 dX7_clash_11 rfl (lv_at hl 0 rfl) ?_
  refine gf_X7_44 C hP dX7_clash_12 ?_
  refine lv_iload_n C.1 C.2.1 dX7_clash_15 rfl (lv_at hl 1 rfl) ?_
  obtain ⟨q2, eq2, hf⟩ := g_b hf
  refine cv_X7_164 hA C hX hP hS eq2 ⟨Nat.le_of_ble_eq_true rfl, Nat.le_of_ble_eq_true rfl⟩ hl.1 (Nat.le_of_ble_eq_true rfl) dX7_clash_16 (fun H locs hP hS => ?_)
  refine lv_istore_n (lv' := [(3, .int q2.1), (0, .ref (ad 0)), (1, .int a1), (2, .int a2)]) C.1 C.2.1 dX7_clash_19 rfl hl (by decide) rfl (fun ls hl => ?_)
  refine lv_iload_n C.1 C.2.1 dX7_clash_20 rfl (lv_at hl 0 rfl) ?_
  refine lv_bipush (v := (-5 : Int32)) C.1 C.2.1 dX7_clash_21 (by decide) ?_
  refine lv_icmp_ne (tgt := 28) C.1 C.2.1 dX7_clash_23 (by decide) (fun hc => ?_) (fun hc => ?_)
  · have hf := g_f hc hf
    refine lv_iload_n C.1 C.2.1 dX7_clash_28 rfl (lv_at hl 3 rfl) ?_
    by_cases hc0 : a2 = 0
    · have hf := g_t hc0 hf
      refine lv_tableIn (off := 27) (tgt := 56) C.1 C.2.1 dX7_clash_29 (by rw [hc0]; decide) (by rw [hc0]; decide) (by rw [hc0]; rfl) (by decide) ?_
      refine lv_iload_n C.1 C.2.1 dX7_clash_56 rfl (lv_at hl 0 rfl) ?_
      refine lv_iconst (v := (2 : Int32)) C.1 C.2.1 dX7_clash_57 (by decide) ?_
      refine lv_idiv C.1 C.2.1 dX7_clash_58 (by decide) ?_
      obtain rfl := Option.some.inj hf
      exact u_iret C hP hS dX7_clash_59
    · have hf := g_f hc0 hf
      by_cases hc1 : a2 = 1
      · have hf := g_t hc1 hf
        refine lv_tableIn (off := 31) (tgt := 60) C.1 C.2.1 dX7_clash_29 (by rw [hc1]; decide) (by rw [hc1]; decide) (by rw [hc1]; rfl) (by decide) ?_
        refine lv_iload_n C.1 C.2.1 dX7_clash_60 rfl (lv_at hl 0 rfl) ?_
        refine lv_iconst (v := (2 : Int32)) C.1 C.2.1 dX7_clash_61 (by decide) ?_
        refine lv_irem C.1 C.2.1 dX7_clash_62 (by decide) ?_
        obtain rfl := Option.some.inj hf
        exact u_iret C hP hS dX7_clash_63
      · have hf := g_f hc1 hf
        by_cases hc2 : a2 = 2
        · have hf := g_t hc2 hf
          refine lv_tableIn (off := 35) (tgt := 64) C.1 C.2.1 dX7_clash_29 (by rw [hc2]; decide) (by rw [hc2]; decide) (by rw [hc2]; rfl) (by decide) ?_
          refine lv_aload_n C.1 C.2.1 dX7_clash_64 rfl (lv_at hl 1 rfl) ?_
          refine gf_X7_44 C hP dX7_clash_65 ?_
          refine lv_iload_n C.1 C.2.1 dX7_clash_68 rfl (lv_at hl 0 rfl) ?_
          obtain ⟨q3, eq3, hf⟩ := g_b hf
          refine cv_X7_161 hA C hX hP hS eq3 ⟨Nat.le_of_ble_eq_true rfl, Nat.le_of_ble_eq_true rfl⟩ hl.1 (Nat.le_of_ble_eq_true rfl) dX7_clash_69 (fun H locs hP hS => ?_)
          obtain rfl := Option.some.inj hf
          exact u_iret C hP hS dX7_clash_72
        · have hf := g_f hc2 hf
          have hsw : a2.toInt < 0 ∨ 2 < a2.toInt := by
            have zhc0 := lv_neT hc0 (show (0 : Int32).toInt = 0 by decide)
            have zhc1 := lv_neT hc1 (show (1 : Int32).toInt = 1 by decide)
            have zhc2 := lv_neT hc2 (show (2 : Int32).toInt = 2 by decide)
            omega
          refine lv_tableOut (tgt := 73) C.1 C.2.1 dX7_clash_29 hsw (by decide) ?_
          refine lv_bipush (v := (-2 : Int32)) C.1 C.2.1 dX7_clash_73 (by decide) ?_
          obtain rfl := Option.some.inj hf
          exact u_iret C hP hS dX7_clash_75
  · have hf := g_t hc hf
    refine lv_iconst (v := (-1 : Int32)) C.1 C.2.1 dX7_clash_26 (by decide) ?_
    obtain rfl := Option.some.inj hf
    exact u_iret C hP hS dX7_clash_27
theorem c_X7_clash (l : Launch) (D : va_G) (ids : Nat → ClassId) (ad tt : Nat → Nat) (hA : adOk ad 59) {a1 : Int32} {a2 : Int32} {h : Hp} {rv : Int32 × Hp} (hf : f_X7_clash h a1 a2 = some rv) : Met l yX7_clash (ws_ yX7_clash cX7_clash 4 (some .int)) rm_X7_clash (va_Pc [.ref (ad 0), .int a1, .int a2] (WB D ids (cEC ids ad) ad 59 (ExC tt ad) h)) (QW D (cEC ids ad) ad 59 (some (.int rv.1)) rv.2) 0 0 (inW ad 59) :=
  u_met (own := RX7) (by decide) rfl (Nat.le_of_ble_eq_true rfl) rfl (fun p e s m args below meth c H ls C hX hP hS hl => w_X7_clash (tt := tt) hA C hX _ _ _ _ _ _ hf hP hS hl)
abbrev rm_X7_hoursWithWater : Room := { frames := 2, cells := 0, slots := 0, locals := 42 }
set_option maxRecDepth 100000 in
set_option maxHeartbeats 4000000 in
theorem w_X7_hoursWithWater_25 {p : Program} {l : Launch} {e : Env} {s : State} {m : MethodId} {args : Array Value} {below : List Frame} {meth : Method} {c : Code} {D : va_G} {ids : Nat → ClassId} {ad tt : Nat → Nat} {rv : Int32 × Hp} (hA : adOk ad 59) (C : CX p s m args meth c cX7_hoursWithWater 4 (some .int) RX7 D ids) (hX : (ExC tt ad) s s.heap) {K4 : Hp → Int32 → Int32 → Int32 → Int32 → Option (Int32 × Hp)} (hK4 : ∀ (h : Hp) (x0 : Int32) (x1 : Int32) (x2 : Int32) (x3 : Int32) (H : Heap) (locs : List Loc) (ls : Array Slot), K4 h x0 x1 x2 x3 = some rv → wp D (cEC ids ad) ad 59 h H → va_S (inW ad 59) s.heap H locs → lv_has ls 4 [(0, .int x0), (1, .int x1), (2, .int x2), (3, .int x3)] → W p l e rm_X7_hoursWithWater s m args below meth c H locs 0 0 (MQ below (QW D (cEC ids ad) ad 59 (some (.int rv.1)) rv.2) args s 0 0 (inW ad 59)) (F0 m 4 ls [])) : ∀ (h : Hp) (x0 : Int32) (x1 : Int32) (x2 : Int32) (x3 : Int32) (H : Heap) (locs : List Loc) (ls : Array Slot), f_X7_hoursWithWater_25 K4 h x0 x1 x2 x3 = some rv → wp D (cEC ids ad) ad 59 h H → va_S (inW ad 59) s.heap H locs → lv_has ls 4 [(0, .int x0), (1, .int x1), (2, .int x2), (3, .int x3)] → W p l e rm_X7_hoursWithWater s m args below meth c H locs 0 0 (MQ below (QW D (cEC ids ad) ad 59 (some (.int rv.1)) rv.2) args s 0 0 (inW ad 59)) (F0 m 25 ls []) := by
  intro h x0 x1 x2 x3 H locs ls hf hP hS hl
  unfold f_X7_hoursWithWater_25 at hf
  refine lv_iinc (v := (x3 + 1)) (lv' := [(3, .int (x3 + 1)), (0, .int x0), (1, .int x1), (2, .int x2)]) C.1 C.2.1 dX7_hoursWithWater_25 hl (k := 3) rfl (by rfl) (by decide) rfl (fun ls hl => ?_)
  refine lv_goto (tgt := 4) C.1 C.2.1 dX7_hoursWithWater_28 (by decide) ?_
  exact hK4 _ _ _ _ _ _ _ _ hf hP hS (lv_sub hl [1, 2, 3, 0] rfl)
set_option maxRecDepth 100000 in
set_option maxHeartbeats 4000000 in
theorem w_X7_hoursWithWater_4 {p : Program} {l : Launch} {e : Env} {s : State} {m : MethodId} {args : Array Value} {below : List Frame} {meth : Method} {c : Code} {D : va_G} {ids : Nat → ClassId} {ad tt : Nat → Nat} {rv : Int32 × Hp} (hA : adOk ad 59) (C : CX p s m args meth c cX7_hoursWithWater 4 (some .int) RX7 D ids) (hX : (ExC tt ad) s s.heap) : ∀ (fu : Nat), ∀ (h : Hp) (x0 : Int32) (x1 : Int32) (x2 : Int32) (x3 : Int32) (H : Heap) (locs : List Loc) (ls : Array Slot), f_X7_hoursWithWater_4 fu h x0 x1 x2 x3 = some rv → wp D (cEC ids ad) ad 59 h H → va_S (inW ad 59) s.heap H locs → lv_has ls 4 [(0, .int x0), (1, .int x1), (2, .int x2), (3, .int x3)] → W p l e rm_X7_hoursWithWater s m args below meth c H locs 0 0 (MQ below (QW D (cEC ids ad) ad 59 (some (.int rv.1)) rv.2) args s 0 0 (inW ad 59)) (F0 m 4 ls []) := by
  intro fu
  induction fu with
  | zero =>
    intro h x0 x1 x2 x3 H locs ls hf hP hS hl
    cases hf
  | succ fu ih =>
    intro h x0 x1 x2 x3 H locs ls hf hP hS hl
    rw [f_X7_hoursWithWater_4_s] at hf
    refine lv_iload_n C.1 C.2.1 dX7_hoursWithWater_4 rfl (lv_at hl 3 rfl) ?_
    refine lv_bipush (v := (24 : Int32)) C.1 C.2.1 dX7_hoursWithWater_5 (by decide) ?_
    refine lv_icmp_ge (tgt := 31) C.1 C.2.1 dX7_hoursWithWater_7 (by decide) (fun hc => ?_) (fun hc => ?_)
    · have hf := g_t hc hf
      refine lv_iload_n C.1 C.2.1 dX7_hoursWithWater_31 rfl (lv_at hl 2 rfl) ?_
      obtain rfl := Option.some.inj hf
      exact u_iret C hP hS dX7_hoursWithWater_32
    · have hf := g_f hc hf
      refine lv_iload_n C.1 C.2.1 dX7_hoursWithWater_10 rfl (lv_at hl 0 rfl) ?_
      refine lv_iload_n C.1 C.2.1 dX7_hoursWithWater_11 rfl (lv_at hl 3 rfl) ?_
      obtain ⟨q1, eq1, hf⟩ := g_b hf
      refine cv_X7_148 hA C hX hP hS eq1 ⟨Nat.le_of_ble_eq_true rfl, Nat.le_of_ble_eq_true rfl⟩ hl.1 (Nat.le_of_ble_eq_true rfl) dX7_hoursWithWater_12 (fun H locs hP hS => ?_)
      refine lv_iload_n C.1 C.2.1 dX7_hoursWithWater_15 rfl (lv_at hl 1 rfl) ?_
      refine lv_icmp_lt (tgt := 25) C.1 C.2.1 dX7_hoursWithWater_16 (by decide) (fun hc => ?_) (fun hc => ?_)
      · have hf := g_t hc hf
        exact w_X7_hoursWithWater_25 hA C hX ih _ _ _ _ _ _ _ _ hf hP hS (lv_sub hl [0, 1, 2, 3] rfl)
      · have hf := g_f hc hf
        refine lv_iload_n C.1 C.2.1 dX7_hoursWithWater_19 rfl (lv_at hl 2 rfl) ?_
        refine lv_iconst (v := (1 : Int32)) C.1 C.2.1 dX7_hoursWithWater_20 (by decide) ?_
        refine lv_iload_n C.1 C.2.1 dX7_hoursWithWater_21 rfl (lv_at hl 3 rfl) ?_
        refine lv_ishl C.1 C.2.1 dX7_hoursWithWater_22 ?_
        refine lv_ior C.1 C.2.1 dX7_hoursWithWater_23 ?_
        refine lv_istore_n (lv' := [(2, .int (x2 ||| ((1 : Int32) <<< (x3 &&& 31)))), (0, .int x0), (1, .int x1), (3, .int x3)]) C.1 C.2.1 dX7_hoursWithWater_24 rfl hl (by decide) rfl (fun ls hl => ?_)
        exact w_X7_hoursWithWater_25 hA C hX ih _ _ _ _ _ _ _ _ hf hP hS (lv_sub hl [1, 2, 0, 3] rfl)
set_option maxRecDepth 100000 in
set_option maxHeartbeats 4000000 in
theorem w_X7_hoursWithWater {p : Program} {l : Launch} {e : Env} {s : State} {m : MethodId} {args : Array Value} {below : List Frame} {meth : Method} {c : Code} {D : va_G} {ids : Nat → ClassId} {ad tt : Nat → Nat} {rv : Int32 × Hp} (hA : adOk ad 59) (C : CX p s m args meth c cX7_hoursWithWater 4 (some .int) RX7 D ids) (hX : (ExC tt ad) s s.heap) : ∀ (h : Hp) (a1 : Int32) (a2 : Int32) (H : Heap) (locs : List Loc) (ls : Array Slot), f_X7_hoursWithWater h a1 a2 = some rv → wp D (cEC ids ad) ad 59 h H → va_S (inW ad 59) s.heap H locs → lv_has ls 4 [(0, .int a1), (1, .int a2)] → W p l e rm_X7_hoursWithWater s m args below meth c H locs 0 0 (MQ below (QW D (cEC ids ad) ad 59 (some (.int rv.1)) rv.2) args s 0 0 (inW ad 59)) (F0 m 0 ls []) := by
  intro h a1 a2 H locs ls hf hP hS hl
  unfold f_X7_hoursWithWater at hf
  refine lv_iconst (v := (0 : Int32)) C.1 C.2.1 dX7_hoursWithWater_0 (by decide) ?_
  refine lv_istore_n (lv' := [(2, .int (0 : Int32)), (0, .int a1), (1, .int a2)]) C.1 C.2.1 dX7_hoursWithWater_1 rfl hl (by decide) rfl (fun ls hl => ?_)
  refine lv_iconst (v := (0 : Int32)) C.1 C.2.1 dX7_hoursWithWater_2 (by decide) ?_
  refine lv_istore_n (lv' := [(3, .int (0 : Int32)), (2, .int (0 : Int32)), (0, .int a1), (1, .int a2)]) C.1 C.2.1 dX7_hoursWithWater_3 rfl hl (by decide) rfl (fun ls hl => ?_)
  exact w_X7_hoursWithWater_4 hA C hX _ _ _ _ _ _ _ _ _ hf hP hS (lv_sub hl [2, 3, 1, 0] rfl)
theorem c_X7_hoursWithWater (l : Launch) (D : va_G) (ids : Nat → ClassId) (ad tt : Nat → Nat) (hA : adOk ad 59) {a1 : Int32} {a2 : Int32} {h : Hp} {rv : Int32 × Hp} (hf : f_X7_hoursWithWater h a1 a2 = some rv) : Met l yX7_hoursWithWater (ws_ yX7_hoursWithWater cX7_hoursWithWater 4 (some .int)) rm_X7_hoursWithWater (va_Pc [.int a1, .int a2] (WB D ids (cEC ids ad) ad 59 (ExC tt ad) h)) (QW D (cEC ids ad) ad 59 (some (.int rv.1)) rv.2) 0 0 (inW ad 59) :=
  u_met (own := RX7) (by decide) rfl (Nat.le_of_ble_eq_true rfl) rfl (fun p e s m args below meth c H ls C hX hP hS hl => w_X7_hoursWithWater (tt := tt) hA C hX _ _ _ _ _ _ hf hP hS hl)
theorem gf_X7_167 {p : Program} {l : Launch} {e : Env} {R : Room} {s : State} {m : MethodId} {args : Array Value} {below : List Frame} {meth : Method} {c : Code} {H : Heap} {locs : List Loc} {cells slots : Nat} {Q : State → Prop} {cc : ByteArray} {nL : Nat} {ret : Option FieldType} {pc : Nat} {ls : Array Slot} {rest : List Value} {D : va_G} {ids : Nat → ClassId} {ad : Nat → Nat} {h : Hp} (C : CX p s m args meth c cc nL ret RX7 D ids) {k : Nat} (hk : isX2 k) (hP : wp D (cEC ids ad) ad 59 h H) (hdg : decode cc pc = .ok (.getfield 167, 3)) (kk : W p l e R s m args below meth c H locs cells slots Q (F0 m (pc + 3) ls (.int (h k 1) :: rest))) : W p l e R s m args below meth c H locs cells slots Q (F0 m pc ls (.ref (ad k) :: rest)) :=
  u_get C hP (lt_X2 hk) (cE_X2 hk) rfl inX2 1 (by decide) rfl q_649 hdg kk
theorem cv_X7_170 {p : Program} {l : Launch} {e : Env} {R : Room} {s : State} {m : MethodId} {args : Array Value} {below : List Frame} {meth : Method} {c : Code} {H : Heap} {locs : List Loc} {Q : State → Prop} {cc : ByteArray} {nL : Nat} {ret : Option FieldType} {pc : Nat} {ls : Array Slot} {rest : List Value} {D : va_G} {ids : Nat → ClassId} {ad tt : Nat → Nat} {h : Hp} (hA : adOk ad 59) (C : CX p s m args meth c cc nL ret RX7 D ids) (hX : (ExC tt ad) s s.heap) (hP : wp D (cEC ids ad) ad 59 h H) (hS : va_S (inW ad 59) s.heap H locs) {a1 : Int32} {a2 : Int32} {rv : Int32 × Hp} (hf : f_X7_hoursWithWater h a1 a2 = some rv) (hR : 2 + 1 ≤ R.frames ∧ 8 + (4 + 11) + 42 ≤ R.locals) (hsz : ls.size = nL) (hcat : (rest.map fun v => v.category).sum ≤ 8) (hdg : decode cc pc = .ok (.invokestatic 170, 3)) (kk : ∀ (H1 : Heap) (locs1 : List Loc), wp D (cEC ids ad) ad 59 rv.2 H1 → va_S (inW ad 59) s.heap H1 locs1 → W p l e R s m args below meth c H1 locs1 0 0 Q (F0 m (pc + 3) ls (.int rv.1 :: rest))) : W p l e R s m args below meth c H locs 0 0 Q (F0 m pc ls (.int a2 :: .int a1 :: rest)) :=
  u_callS (As := [.int a1, .int a2]) (rv := (some (.int rv.1))) C (exC_ok hA) hX (c_X7_hoursWithWater l D ids ad tt hA hf) q_650 q_651 q_2 q_652 ⟨rfl, rfl⟩ (by refine ⟨by decide +kernel, by decide +kernel, ?_⟩; show _ = some 2; decide +kernel) hR hP hS hsz hcat rfl hdg kk
abbrev rm_X7_hours : Room := { frames := 3, cells := 0, slots := 0, locals := 65 }
set_option maxRecDepth 100000 in
set_option maxHeartbeats 4000000 in
theorem w_X7_hours {p : Program} {l : Launch} {e : Env} {s : State} {m : MethodId} {args : Array Value} {below : List Frame} {meth : Method} {c : Code} {D : va_G} {ids : Nat → ClassId} {ad tt : Nat → Nat} {rv : Int32 × Hp} (hA : adOk ad 59) (C : CX p s m args meth c cX7_hours 6 (some .int) RX7 D ids) (hX : (ExC tt ad) s s.heap) : ∀ (h : Hp) (a1 : Int32) (a2 : Int32) (H : Heap) (locs : List Loc) (ls : Array Slot), f_X7_hours h a1 a2 = some rv → wp D (cEC ids ad) ad 59 h H → va_S (inW ad 59) s.heap H locs → lv_has ls 6 [(0, .ref (ad 0)), (1, .int a1), (2, .int a2)] → W p l e rm_X7_hours s m args below meth c H locs 0 0 (MQ below (QW D (cEC ids ad) ad 59 (some (.int rv.1)) rv.2) args s 0 0 (inW ad 59)) (F0 m 0 ls []) := by
  intro h a1 a2 H locs ls hf hP hS hl
  unfold f_X7_hours at hf
  refine lv_iload_n C.1 C.2.1 dX7_hours_0 rfl (lv_at hl 1 rfl) ?_
  obtain ⟨q1, eq1, hf⟩ := g_b hf
  refine cv_X7_55 hA C hX hP hS eq1 ⟨Nat.le_of_ble_eq_true rfl, Nat.le_of_ble_eq_true rfl⟩ hl.1 (Nat.le_of_ble_eq_true rfl) dX7_hours_1 (fun H locs hP hS => ?_)
  refine lv_if_ne (tgt := 9) C.1 C.2.1 dX7_hours_4 (by decide) (fun hc => ?_) (fun hc => ?_)
  · have hf := g_f hc hf
    refine lv_aload_n C.1 C.2.1 dX7_hours_9 rfl (lv_at hl 0 rfl) ?_
    refine gf_X7_12 C hP dX7_hours_10 ?_
    refine gf_X7_63 C pX5_1 hP dX7_hours_13 ?_
    refine lv_iload_n C.1 C.2.1 dX7_hours_16 rfl (lv_at hl 1 rfl) ?_
    obtain ⟨hg2, hf⟩ := g_if hf
    refine rl_aCap C (cap_of pX5_1) hP hg2 dX7_hours_17 ?_
    refine lv_astore_n (lv' := [(3, .ref (ad ((1 + 1) + 1 + a1.toNatClampNeg))), (0, .ref (ad 0)), (1, .int a1), (2, .int a2)]) C.1 C.2.1 dX7_hours_18 rfl hl (by decide) rfl (fun ls hl => ?_)
    refine lv_aload_n C.1 C.2.1 dX7_hours_19 rfl (lv_at hl 0 rfl) ?_
    refine gf_X7_145 C (cp_el (cap_of pX5_1) hg2) hP dX7_hours_20 ?_
    refine lv_aload_n C.1 C.2.1 dX7_hours_23 rfl (lv_at hl 0 rfl) ?_
    refine gf_X7_167 C (cp_el (cap_of pX5_1) hg2) hP dX7_hours_24 ?_
    obtain ⟨q3, eq3, hf⟩ := g_b hf
    refine cv_X7_170 hA C hX hP hS eq3 ⟨Nat.le_of_ble_eq_true rfl, Nat.le_of_ble_eq_true rfl⟩ hl.1 (Nat.le_of_ble_eq_true rfl) dX7_hours_27 (fun H locs hP hS => ?_)
    refine lv_istore (lv' := [(4, .int q3.1), (3, .ref (ad ((1 + 1) + 1 + a1.toNatClampNeg))), (0, .ref (ad 0)), (1, .int a1), (2, .int a2)]) C.1 C.2.1 dX7_hours_30 hl (by decide) rfl (fun ls hl => ?_)
    refine lv_aload_n C.1 C.2.1 dX7_hours_32 rfl (lv_at hl 2 rfl) ?_
    refine gf_X7_12 C hP dX7_hours_33 ?_
    refine gf_X7_91 C pX5_1 hP dX7_hours_36 ?_
    refine lv_aload_n C.1 C.2.1 dX7_hours_39 rfl (lv_at hl 1 rfl) ?_
    refine gf_X7_167 C (cp_el (cap_of pX5_1) hg2) hP dX7_hours_40 ?_
    obtain ⟨q4, eq4, hf⟩ := g_b hf
    refine cv_X7_170 hA C hX hP hS eq4 ⟨Nat.le_of_ble_eq_true rfl, Nat.le_of_ble_eq_true rfl⟩ hl.1 (Nat.le_of_ble_eq_true rfl) dX7_hours_43 (fun H locs hP hS => ?_)
    refine lv_istore (lv' := [(5, .int q4.1), (4, .int q3.1), (3, .ref (ad ((1 + 1) + 1 + a1.toNatClampNeg))), (0, .ref (ad 0)), (1, .int a1), (2, .int a2)]) C.1 C.2.1 dX7_hours_46 hl (by decide) rfl (fun ls hl => ?_)
    refine lv_iload_n C.1 C.2.1 dX7_hours_48 rfl (lv_at hl 5 rfl) ?_
    by_cases hc0 : a2 = 0
    · have hf := g_t hc0 hf
      refine lv_tableIn (off := 27) (tgt := 76) C.1 C.2.1 dX7_hours_49 (by rw [hc0]; decide) (by rw [hc0]; decide) (by rw [hc0]; rfl) (by decide) ?_
      refine lv_iload C.1 C.2.1 dX7_hours_76 (lv_at hl 1 rfl) ?_
      obtain rfl := Option.some.inj hf
      exact u_iret C hP hS dX7_hours_78
    · have hf := g_f hc0 hf
      by_cases hc1 : a2 = 1
      · have hf := g_t hc1 hf
        refine lv_tableIn (off := 30) (tgt := 79) C.1 C.2.1 dX7_hours_49 (by rw [hc1]; decide) (by rw [hc1]; decide) (by rw [hc1]; rfl) (by decide) ?_
        refine lv_iload C.1 C.2.1 dX7_hours_79 (lv_at hl 0 rfl) ?_
        obtain rfl := Option.some.inj hf
        exact u_iret C hP hS dX7_hours_81
      · have hf := g_f hc1 hf
        by_cases hc2 : a2 = 2
        · have hf := g_t hc2 hf
          refine lv_tableIn (off := 33) (tgt := 82) C.1 C.2.1 dX7_hours_49 (by rw [hc2]; decide) (by rw [hc2]; decide) (by rw [hc2]; rfl) (by decide) ?_
          refine lv_iload C.1 C.2.1 dX7_hours_82 (lv_at hl 1 rfl) ?_
          refine lv_iload C.1 C.2.1 dX7_hours_84 (lv_at hl 0 rfl) ?_
          refine lv_ixor C.1 C.2.1 dX7_hours_86 ?_
          obtain rfl := Option.some.inj hf
          exact u_iret C hP hS dX7_hours_87
        · have hf := g_f hc2 hf
          have hsw : a2.toInt < 0 ∨ 2 < a2.toInt := by
            have zhc0 := lv_neT hc0 (show (0 : Int32).toInt = 0 by decide)
            have zhc1 := lv_neT hc1 (show (1 : Int32).toInt = 1 by decide)
            have zhc2 := lv_neT hc2 (show (2 : Int32).toInt = 2 by decide)
            omega
          refine lv_tableOut (tgt := 88) C.1 C.2.1 dX7_hours_49 hsw (by decide) ?_
          refine lv_bipush (v := (-2 : Int32)) C.1 C.2.1 dX7_hours_88 (by decide) ?_
          obtain rfl := Option.some.inj hf
          exact u_iret C hP hS dX7_hours_90
  · have hf := g_t hc hf
    refine lv_iconst (v := (-1 : Int32)) C.1 C.2.1 dX7_hours_7 (by decide) ?_
    obtain rfl := Option.some.inj hf
    exact u_iret C hP hS dX7_hours_8
theorem c_X7_hours (l : Launch) (D : va_G) (ids : Nat → ClassId) (ad tt : Nat → Nat) (hA : adOk ad 59) {a1 : Int32} {a2 : Int32} {h : Hp} {rv : Int32 × Hp} (hf : f_X7_hours h a1 a2 = some rv) : Met l yX7_hours (ws_ yX7_hours cX7_hours 6 (some .int)) rm_X7_hours (va_Pc [.ref (ad 0), .int a1, .int a2] (WB D ids (cEC ids ad) ad 59 (ExC tt ad) h)) (QW D (cEC ids ad) ad 59 (some (.int rv.1)) rv.2) 0 0 (inW ad 59) :=
  u_met (own := RX7) (by decide) rfl (Nat.le_of_ble_eq_true rfl) rfl (fun p e s m args below meth c H ls C hX hP hS hl => w_X7_hours (tt := tt) hA C hX _ _ _ _ _ _ hf hP hS hl)
abbrev rm_X1_clashes : Room := { frames := 2, cells := 0, slots := 0, locals := 42 }
set_option maxRecDepth 100000 in
set_option maxHeartbeats 4000000 in
theorem w_X1_clashes_24 {p : Program} {l : Launch} {e : Env} {s : State} {m : MethodId} {args : Array Value} {below : List Frame} {meth : Method} {c : Code} {D : va_G} {ids : Nat → ClassId} {ad tt : Nat → Nat} {rv : Int32 × Hp} (hA : adOk ad 59) (C : CX p s m args meth c cX1_clashes 3 (some .int) RX1 D ids) (hX : (ExC tt ad) s s.heap) {K4 : Hp → Int32 → Int32 → Option (Int32 × Hp)} (hK4 : ∀ (h : Hp) (x1 : Int32) (x2 : Int32) (H : Heap) (locs : List Loc) (ls : Array Slot), K4 h x1 x2 = some rv → wp D (cEC ids ad) ad 59 h H → va_S (inW ad 59) s.heap H locs → lv_has ls 3 [(0, .ref (ad 39)), (1, .int x1), (2, .int x2)] → W p l e rm_X1_clashes s m args below meth c H locs 0 0 (MQ below (QW D (cEC ids ad) ad 59 (some (.int rv.1)) rv.2) args s 0 0 (inW ad 59)) (F0 m 4 ls [])) : ∀ (h : Hp) (x1 : Int32) (x2 : Int32) (H : Heap) (locs : List Loc) (ls : Array Slot), f_X1_clashes_24 K4 h x1 x2 = some rv → wp D (cEC ids ad) ad 59 h H → va_S (inW ad 59) s.heap H locs → lv_has ls 3 [(0, .ref (ad 39)), (1, .int x1), (2, .int x2)] → W p l e rm_X1_clashes s m args below meth c H locs 0 0 (MQ below (QW D (cEC ids ad) ad 59 (some (.int rv.1)) rv.2) args s 0 0 (inW ad 59)) (F0 m 24 ls []) := by
  intro h x1 x2 H locs ls hf hP hS hl
  unfold f_X1_clashes_24 at hf
  refine lv_iinc (v := (x2 + 1)) (lv' := [(2, .int (x2 + 1)), (0, .ref (ad 39)), (1, .int x1)]) C.1 C.2.1 dX1_clashes_24 hl (k := 2) rfl (by rfl) (by decide) rfl (fun ls hl => ?_)
  refine lv_goto (tgt := 4) C.1 C.2.1 dX1_clashes_27 (by decide) ?_
  exact hK4 _ _ _ _ _ _ hf hP hS (lv_sub hl [1, 2, 0] rfl)
set_option maxRecDepth 100000 in
set_option maxHeartbeats 4000000 in
theorem w_X1_clashes_4 {p : Program} {l : Launch} {e : Env} {s : State} {m : MethodId} {args : Array Value} {below : List Frame} {meth : Method} {c : Code} {D : va_G} {ids : Nat → ClassId} {ad tt : Nat → Nat} {rv : Int32 × Hp} (hA : adOk ad 59) (C : CX p s m args meth c cX1_clashes 3 (some .int) RX1 D ids) (hX : (ExC tt ad) s s.heap) : ∀ (fu : Nat), ∀ (h : Hp) (x1 : Int32) (x2 : Int32) (H : Heap) (locs : List Loc) (ls : Array Slot), f_X1_clashes_4 fu h x1 x2 = some rv → wp D (cEC ids ad) ad 59 h H → va_S (inW ad 59) s.heap H locs → lv_has ls 3 [(0, .ref (ad 39)), (1, .int x1), (2, .int x2)] → W p l e rm_X1_clashes s m args below meth c H locs 0 0 (MQ below (QW D (cEC ids ad) ad 59 (some (.int rv.1)) rv.2) args s 0 0 (inW ad 59)) (F0 m 4 ls []) := by
  intro fu
  induction fu with
  | zero =>
    intro h x1 x2 H locs ls hf hP hS hl
    cases hf
  | succ fu ih =>
    intro h x1 x2 H locs ls hf hP hS hl
    rw [f_X1_clashes_4_s] at hf
    refine lv_iload_n C.1 C.2.1 dX1_clashes_4 rfl (lv_at hl 2 rfl) ?_
    refine lv_aload_n C.1 C.2.1 dX1_clashes_5 rfl (lv_at hl 0 rfl) ?_
    refine gf_X1_18 C hP dX1_clashes_6 ?_
    refine ln_aU C hP dX1_clashes_9 ?_
    refine lv_icmp_ge (tgt := 30) C.1 C.2.1 dX1_clashes_10 (by decide) (fun hc => ?_) (fun hc => ?_)
    · have hf := g_t hc hf
      refine lv_iload_n C.1 C.2.1 dX1_clashes_30 rfl (lv_at hl 1 rfl) ?_
      obtain rfl := Option.some.inj hf
      exact u_iret C hP hS dX1_clashes_31
    · have hf := g_f hc hf
      refine lv_aload_n C.1 C.2.1 dX1_clashes_13 rfl (lv_at hl 0 rfl) ?_
      refine lv_iload_n C.1 C.2.1 dX1_clashes_14 rfl (lv_at hl 2 rfl) ?_
      obtain ⟨q1, eq1, hf⟩ := g_b hf
      refine cv_X1_63 hA C hX hP hS eq1 ⟨Nat.le_of_ble_eq_true rfl, Nat.le_of_ble_eq_true rfl⟩ hl.1 (Nat.le_of_ble_eq_true rfl) dX1_clashes_15 (fun H locs hP hS => ?_)
      refine lv_if_eq (tgt := 24) C.1 C.2.1 dX1_clashes_18 (by decide) (fun hc => ?_) (fun hc => ?_)
      · have hf := g_t hc hf
        exact w_X1_clashes_24 hA C hX ih _ _ _ _ _ _ hf hP hS (lv_sub hl [0, 1, 2] rfl)
      · have hf := g_f hc hf
        refine lv_iinc (v := (x1 + 1)) (lv' := [(1, .int (x1 + 1)), (0, .ref (ad 39)), (2, .int x2)]) C.1 C.2.1 dX1_clashes_21 hl (k := 1) rfl (by rfl) (by decide) rfl (fun ls hl => ?_)
        exact w_X1_clashes_24 hA C hX ih _ _ _ _ _ _ hf hP hS (lv_sub hl [1, 0, 2] rfl)
set_option maxRecDepth 100000 in
set_option maxHeartbeats 4000000 in
theorem w_X1_clashes {p : Program} {l : Launch} {e : Env} {s : State} {m : MethodId} {args : Array Value} {below : List Frame} {meth : Method} {c : Code} {D : va_G} {ids : Nat → ClassId} {ad tt : Nat → Nat} {rv : Int32 × Hp} (hA : adOk ad 59) (C : CX p s m args meth c cX1_clashes 3 (some .int) RX1 D ids) (hX : (ExC tt ad) s s.heap) : ∀ (h : Hp) (H : Heap) (locs : List Loc) (ls : Array Slot), f_X1_clashes h = some rv → wp D (cEC ids ad) ad 59 h H → va_S (inW ad 59) s.heap H locs → lv_has ls 3 [(0, .ref (ad 39))] → W p l e rm_X1_clashes s m args below meth c H locs 0 0 (MQ below (QW D (cEC ids ad) ad 59 (some (.int rv.1)) rv.2) args s 0 0 (inW ad 59)) (F0 m 0 ls []) := by
  intro h H locs ls hf hP hS hl
  unfold f_X1_clashes at hf
  refine lv_iconst (v := (0 : Int32)) C.1 C.2.1 dX1_clashes_0 (by decide) ?_
  refine lv_istore_n (lv' := [(1, .int (0 : Int32)), (0, .ref (ad 39))]) C.1 C.2.1 dX1_clashes_1 rfl hl (by decide) rfl (fun ls hl => ?_)
  refine lv_iconst (v := (0 : Int32)) C.1 C.2.1 dX1_clashes_2 (by decide) ?_
  refine lv_istore_n (lv' := [(2, .int (0 : Int32)), (1, .int (0 : Int32)), (0, .ref (ad 39))]) C.1 C.2.1 dX1_clashes_3 rfl hl (by decide) rfl (fun ls hl => ?_)
  exact w_X1_clashes_4 hA C hX _ _ _ _ _ _ _ hf hP hS (lv_sub hl [2, 1, 0] rfl)
theorem c_X1_clashes (l : Launch) (D : va_G) (ids : Nat → ClassId) (ad tt : Nat → Nat) (hA : adOk ad 59) {h : Hp} {rv : Int32 × Hp} (hf : f_X1_clashes h = some rv) : Met l yX1_clashes (ws_ yX1_clashes cX1_clashes 3 (some .int)) rm_X1_clashes (va_Pc [.ref (ad 39)] (WB D ids (cEC ids ad) ad 59 (ExC tt ad) h)) (QW D (cEC ids ad) ad 59 (some (.int rv.1)) rv.2) 0 0 (inW ad 59) :=
  u_met (own := RX1) (by decide) rfl (Nat.le_of_ble_eq_true rfl) rfl (fun p e s m args below meth c H ls C hX hP hS hl => w_X1_clashes (tt := tt) hA C hX _ _ _ _ hf hP hS hl)
theorem ln_aTt {p : Program} {l : Launch} {e : Env} {R : Room} {s : State} {m : MethodId} {args : Array Value} {below : List Frame} {meth : Method} {c : Code} {H : Heap} {locs : List Loc} {cells slots : Nat} {Q : State → Prop} {cc : ByteArray} {nL : Nat} {ret : Option FieldType} {own : String} {pc : Nat} {ls : Array Slot} {rest : List Value} {D : va_G} {ids : Nat → ClassId} {ad : Nat → Nat} {h : Hp} (C : CX p s m args meth c cc nL ret own D ids) (hP : wp D (cEC ids ad) ad 59 h H) (hdg : decode cc pc = .ok (.arraylength, 1)) (kk : W p l e R s m args below meth c H locs cells slots Q (F0 m (pc + 1) ls (.int (3 : Int32) :: rest))) : W p l e R s m args below meth c H locs cells slots Q (F0 m pc ls (.ref (ad 40) :: rest)) :=
  u_alen C hP 5 rfl (by decide) (cE_aTt _) rfl hdg kk
abbrev rm_X1_crossings : Room := { frames := 0, cells := 0, slots := 0, locals := 0 }
set_option maxRecDepth 100000 in
set_option maxHeartbeats 4000000 in
theorem w_X1_crossings_13 {p : Program} {l : Launch} {e : Env} {s : State} {m : MethodId} {args : Array Value} {below : List Frame} {meth : Method} {c : Code} {D : va_G} {ids : Nat → ClassId} {ad tt : Nat → Nat} {rv : Int32 × Hp} (hA : adOk ad 59) (C : CX p s m args meth c cX1_crossings 6 (some .int) RX1 D ids) (hX : (ExC tt ad) s s.heap) : ∀ (fu : Nat), ∀ (h : Hp) (x1 : Int32) (x3 : Int32) (x4 : Int32) (H : Heap) (locs : List Loc) (ls : Array Slot), f_X1_crossings_13 fu h x1 x3 x4 = some rv → wp D (cEC ids ad) ad 59 h H → va_S (inW ad 59) s.heap H locs → lv_has ls 6 [(1, .int x1), (2, .ref (ad 40)), (3, .int x3), (4, .int x4)] → W p l e rm_X1_crossings s m args below meth c H locs 0 0 (MQ below (QW D (cEC ids ad) ad 59 (some (.int rv.1)) rv.2) args s 0 0 (inW ad 59)) (F0 m 13 ls []) := by
  intro fu
  induction fu with
  | zero =>
    intro h x1 x3 x4 H locs ls hf hP hS hl
    cases hf
  | succ fu ih =>
    intro h x1 x3 x4 H locs ls hf hP hS hl
    rw [f_X1_crossings_13_s] at hf
    refine lv_iload C.1 C.2.1 dX1_crossings_13 (lv_at hl 3 rfl) ?_
    refine lv_iload_n C.1 C.2.1 dX1_crossings_15 rfl (lv_at hl 2 rfl) ?_
    refine lv_icmp_ge (tgt := 39) C.1 C.2.1 dX1_crossings_16 (by decide) (fun hc => ?_) (fun hc => ?_)
    · have hf := g_t hc hf
      refine lv_iload_n C.1 C.2.1 dX1_crossings_39 rfl (lv_at hl 0 rfl) ?_
      obtain rfl := Option.some.inj hf
      exact u_iret C hP hS dX1_crossings_40
    · have hf := g_f hc hf
      refine lv_aload_n C.1 C.2.1 dX1_crossings_19 rfl (lv_at hl 1 rfl) ?_
      refine lv_iload C.1 C.2.1 dX1_crossings_20 (lv_at hl 3 rfl) ?_
      obtain ⟨hg1, hf⟩ := g_if hf
      refine rl_aTt C hP hg1 dX1_crossings_22 ?_
      refine lv_astore (lv' := [(5, .ref (ad (42 + 2 * x4.toNatClampNeg))), (1, .int x1), (2, .ref (ad 40)), (3, .int x3), (4, .int x4)]) C.1 C.2.1 dX1_crossings_23 hl (by decide) rfl (fun ls hl => ?_)
      refine lv_iload_n C.1 C.2.1 dX1_crossings_25 rfl (lv_at hl 1 rfl) ?_
      refine lv_aload C.1 C.2.1 dX1_crossings_26 (lv_at hl 0 rfl) ?_
      refine gf_X1_36 C (tt_el hg1) hP dX1_crossings_28 ?_
      refine lv_iadd C.1 C.2.1 dX1_crossings_31 ?_
      refine lv_istore_n (lv' := [(1, .int (x1 + (h (42 + 2 * x4.toNatClampNeg) 1))), (5, .ref (ad (42 + 2 * x4.toNatClampNeg))), (2, .ref (ad 40)), (3, .int x3), (4, .int x4)]) C.1 C.2.1 dX1_crossings_32 rfl hl (by decide) rfl (fun ls hl => ?_)
      refine lv_iinc (v := (x4 + 1)) (lv' := [(4, .int (x4 + 1)), (1, .int (x1 + (h (42 + 2 * x4.toNatClampNeg) 1))), (5, .ref (ad (42 + 2 * x4.toNatClampNeg))), (2, .ref (ad 40)), (3, .int x3)]) C.1 C.2.1 dX1_crossings_33 hl (k := 4) rfl (by rfl) (by decide) rfl (fun ls hl => ?_)
      refine lv_goto (tgt := 13) C.1 C.2.1 dX1_crossings_36 (by decide) ?_
      exact ih _ _ _ _ _ _ _ hf hP hS (lv_sub hl [1, 3, 4, 0] rfl)
set_option maxRecDepth 100000 in
set_option maxHeartbeats 4000000 in
theorem w_X1_crossings {p : Program} {l : Launch} {e : Env} {s : State} {m : MethodId} {args : Array Value} {below : List Frame} {meth : Method} {c : Code} {D : va_G} {ids : Nat → ClassId} {ad tt : Nat → Nat} {rv : Int32 × Hp} (hA : adOk ad 59) (C : CX p s m args meth c cX1_crossings 6 (some .int) RX1 D ids) (hX : (ExC tt ad) s s.heap) : ∀ (h : Hp) (H : Heap) (locs : List Loc) (ls : Array Slot), f_X1_crossings h = some rv → wp D (cEC ids ad) ad 59 h H → va_S (inW ad 59) s.heap H locs → lv_has ls 6 [(0, .ref (ad 39))] → W p l e rm_X1_crossings s m args below meth c H locs 0 0 (MQ below (QW D (cEC ids ad) ad 59 (some (.int rv.1)) rv.2) args s 0 0 (inW ad 59)) (F0 m 0 ls []) := by
  intro h H locs ls hf hP hS hl
  unfold f_X1_crossings at hf
  refine lv_iconst (v := (0 : Int32)) C.1 C.2.1 dX1_crossings_0 (by decide) ?_
  refine lv_istore_n (lv' := [(1, .int (0 : Int32)), (0, .ref (ad 39))]) C.1 C.2.1 dX1_crossings_1 rfl hl (by decide) rfl (fun ls hl => ?_)
  refine lv_aload_n C.1 C.2.1 dX1_crossings_2 rfl (lv_at hl 1 rfl) ?_
  refine gf_X1_12 C hP dX1_crossings_3 ?_
  refine lv_astore_n (lv' := [(2, .ref (ad 40)), (1, .int (0 : Int32)), (0, .ref (ad 39))]) C.1 C.2.1 dX1_crossings_6 rfl hl (by decide) rfl (fun ls hl => ?_)
  refine lv_aload_n C.1 C.2.1 dX1_crossings_7 rfl (lv_at hl 0 rfl) ?_
  refine ln_aTt C hP dX1_crossings_8 ?_
  refine lv_istore_n (lv' := [(3, .int (3 : Int32)), (2, .ref (ad 40)), (1, .int (0 : Int32)), (0, .ref (ad 39))]) C.1 C.2.1 dX1_crossings_9 rfl hl (by decide) rfl (fun ls hl => ?_)
  refine lv_iconst (v := (0 : Int32)) C.1 C.2.1 dX1_crossings_10 (by decide) ?_
  refine lv_istore (lv' := [(4, .int (0 : Int32)), (3, .int (3 : Int32)), (2, .ref (ad 40)), (1, .int (0 : Int32)), (0, .ref (ad 39))]) C.1 C.2.1 dX1_crossings_11 hl (by decide) rfl (fun ls hl => ?_)
  exact w_X1_crossings_13 hA C hX _ _ _ _ _ _ _ _ hf hP hS (lv_sub hl [3, 2, 1, 0] rfl)
theorem c_X1_crossings (l : Launch) (D : va_G) (ids : Nat → ClassId) (ad tt : Nat → Nat) (hA : adOk ad 59) {h : Hp} {rv : Int32 × Hp} (hf : f_X1_crossings h = some rv) : Met l yX1_crossings (ws_ yX1_crossings cX1_crossings 6 (some .int)) rm_X1_crossings (va_Pc [.ref (ad 39)] (WB D ids (cEC ids ad) ad 59 (ExC tt ad) h)) (QW D (cEC ids ad) ad 59 (some (.int rv.1)) rv.2) 0 0 (inW ad 59) :=
  u_met (own := RX1) (by decide) rfl (Nat.le_of_ble_eq_true rfl) rfl (fun p e s m args below meth c H ls C hX hP hS hl => w_X1_crossings (tt := tt) hA C hX _ _ _ _ hf hP hS hl)
theorem ln_aCap {p : Program} {l : Launch} {e : Env} {R : Room} {s : State} {m : MethodId} {args : Array Value} {below : List Frame} {meth : Method} {c : Code} {H : Heap} {locs : List Loc} {cells slots : Nat} {Q : State → Prop} {cc : ByteArray} {nL : Nat} {ret : Option FieldType} {own : String} {pc : Nat} {ls : Array Slot} {rest : List Value} {D : va_G} {ids : Nat → ClassId} {ad : Nat → Nat} {h : Hp} (C : CX p s m args meth c cc nL ret own D ids) {k : Nat} (hk : isaCap k) (hP : wp D (cEC ids ad) ad 59 h H) (hdg : decode cc pc = .ok (.arraylength, 1)) (kk : W p l e R s m args below meth c H locs cells slots Q (F0 m (pc + 1) ls (.int (3 : Int32) :: rest))) : W p l e R s m args below meth c H locs cells slots Q (F0 m pc ls (.ref (ad k) :: rest)) :=
  u_alen C hP 2 rfl (lt_aCap hk) ((cE_aCap hk) _) rfl hdg kk
theorem cv_X5_39 {p : Program} {l : Launch} {e : Env} {R : Room} {s : State} {m : MethodId} {args : Array Value} {below : List Frame} {meth : Method} {c : Code} {H : Heap} {locs : List Loc} {Q : State → Prop} {cc : ByteArray} {nL : Nat} {ret : Option FieldType} {pc : Nat} {ls : Array Slot} {rest : List Value} {D : va_G} {ids : Nat → ClassId} {ad tt : Nat → Nat} {h : Hp} (hA : adOk ad 59) (C : CX p s m args meth c cc nL ret RX5 D ids) (hX : (ExC tt ad) s s.heap) (hP : wp D (cEC ids ad) ad 59 h H) (hS : va_S (inW ad 59) s.heap H locs) {k : Nat} (hk : isX2 k) {a1 : Int32} {rv : Int32 × Hp} (hf : f_X2_tell h k a1 = some rv) (hR : 0 + 1 ≤ R.frames ∧ 8 + (2 + 11) + 0 ≤ R.locals) (hsz : ls.size = nL) (hcat : (rest.map fun v => v.category).sum ≤ 8) (hdg : decode cc pc = .ok (.invokevirtual 39, 3)) (kk : ∀ (H1 : Heap) (locs1 : List Loc), wp D (cEC ids ad) ad 59 rv.2 H1 → va_S (inW ad 59) s.heap H1 locs1 → W p l e R s m args below meth c H1 locs1 0 0 Q (F0 m (pc + 3) ls (.int rv.1 :: rest))) : W p l e R s m args below meth c H locs 0 0 Q (F0 m pc ls (.int a1 :: .ref (ad k) :: rest)) :=
  u_callV (As := [.int a1]) (rv := (some (.int rv.1))) C (exC_ok hA) hX (c_X2_tell l D ids ad tt hA hk hf) q_674 q_146 q_147 q_38 q_148 ⟨rfl, rfl⟩ (by refine ⟨by decide +kernel, by decide +kernel, ?_⟩; show _ = some 1; decide +kernel) hR (lt_X2 hk) (cE_X2 hk _) rfl hP hS hsz hcat rfl hdg kk
abbrev rm_X5_sumOf : Room := { frames := 1, cells := 0, slots := 0, locals := 21 }
set_option maxRecDepth 100000 in
set_option maxHeartbeats 4000000 in
theorem w_X5_sumOf_14 {p : Program} {l : Launch} {e : Env} {s : State} {m : MethodId} {args : Array Value} {below : List Frame} {meth : Method} {c : Code} {D : va_G} {ids : Nat → ClassId} {ad tt : Nat → Nat} {rv : Int32 × Hp} (hA : adOk ad 59) (C : CX p s m args meth c cX5_sumOf 7 (some .int) RX5 D ids) (hX : (ExC tt ad) s s.heap) {k : Nat} (hk : isX5 k) : ∀ (fu : Nat), ∀ (h : Hp) (x1 : Int32) (x2 : Int32) (x4 : Int32) (x5 : Int32) (H : Heap) (locs : List Loc) (ls : Array Slot), f_X5_sumOf_14 k fu h x1 x2 x4 x5 = some rv → wp D (cEC ids ad) ad 59 h H → va_S (inW ad 59) s.heap H locs → lv_has ls 7 [(1, .int x1), (2, .int x2), (3, .ref (ad (k + 1))), (4, .int x4), (5, .int x5)] → W p l e rm_X5_sumOf s m args below meth c H locs 0 0 (MQ below (QW D (cEC ids ad) ad 59 (some (.int rv.1)) rv.2) args s 0 0 (inW ad 59)) (F0 m 14 ls []) := by
  intro fu
  induction fu with
  | zero =>
    intro h x1 x2 x4 x5 H locs ls hf hP hS hl
    cases hf
  | succ fu ih =>
    intro h x1 x2 x4 x5 H locs ls hf hP hS hl
    rw [f_X5_sumOf_14_s] at hf
    refine lv_iload C.1 C.2.1 dX5_sumOf_14 (lv_at hl 4 rfl) ?_
    refine lv_iload C.1 C.2.1 dX5_sumOf_16 (lv_at hl 3 rfl) ?_
    refine lv_icmp_ge (tgt := 42) C.1 C.2.1 dX5_sumOf_18 (by decide) (fun hc => ?_) (fun hc => ?_)
    · have hf := g_t hc hf
      refine lv_iload_n C.1 C.2.1 dX5_sumOf_42 rfl (lv_at hl 1 rfl) ?_
      obtain rfl := Option.some.inj hf
      exact u_iret C hP hS dX5_sumOf_43
    · have hf := g_f hc hf
      refine lv_aload_n C.1 C.2.1 dX5_sumOf_21 rfl (lv_at hl 2 rfl) ?_
      refine lv_iload C.1 C.2.1 dX5_sumOf_22 (lv_at hl 4 rfl) ?_
      obtain ⟨hg1, hf⟩ := g_if hf
      refine rl_aCap C (cap_of hk) hP hg1 dX5_sumOf_24 ?_
      refine lv_astore (lv' := [(6, .ref (ad ((k + 1) + 1 + x5.toNatClampNeg))), (1, .int x1), (2, .int x2), (3, .ref (ad (k + 1))), (4, .int x4), (5, .int x5)]) C.1 C.2.1 dX5_sumOf_25 hl (by decide) rfl (fun ls hl => ?_)
      refine lv_iload_n C.1 C.2.1 dX5_sumOf_27 rfl (lv_at hl 2 rfl) ?_
      refine lv_aload C.1 C.2.1 dX5_sumOf_28 (lv_at hl 0 rfl) ?_
      refine lv_iload_n C.1 C.2.1 dX5_sumOf_30 rfl (lv_at hl 1 rfl) ?_
      obtain ⟨q2, eq2, hf⟩ := g_b hf
      refine cv_X5_39 hA C hX hP hS (cp_el (cap_of hk) hg1) eq2 ⟨Nat.le_of_ble_eq_true rfl, Nat.le_of_ble_eq_true rfl⟩ hl.1 (Nat.le_of_ble_eq_true rfl) dX5_sumOf_31 (fun H locs hP hS => ?_)
      refine lv_iadd C.1 C.2.1 dX5_sumOf_34 ?_
      refine lv_istore_n (lv' := [(2, .int (x2 + q2.1)), (6, .ref (ad ((k + 1) + 1 + x5.toNatClampNeg))), (1, .int x1), (3, .ref (ad (k + 1))), (4, .int x4), (5, .int x5)]) C.1 C.2.1 dX5_sumOf_35 rfl hl (by decide) rfl (fun ls hl => ?_)
      refine lv_iinc (v := (x5 + 1)) (lv' := [(5, .int (x5 + 1)), (2, .int (x2 + q2.1)), (6, .ref (ad ((k + 1) + 1 + x5.toNatClampNeg))), (1, .int x1), (3, .ref (ad (k + 1))), (4, .int x4)]) C.1 C.2.1 dX5_sumOf_36 hl (k := 5) rfl (by rfl) (by decide) rfl (fun ls hl => ?_)
      refine lv_goto (tgt := 14) C.1 C.2.1 dX5_sumOf_39 (by decide) ?_
      exact ih _ _ _ _ _ _ _ _ hf hP hS (lv_sub hl [3, 1, 4, 5, 0] rfl)
set_option maxRecDepth 100000 in
set_option maxHeartbeats 4000000 in
theorem w_X5_sumOf {p : Program} {l : Launch} {e : Env} {s : State} {m : MethodId} {args : Array Value} {below : List Frame} {meth : Method} {c : Code} {D : va_G} {ids : Nat → ClassId} {ad tt : Nat → Nat} {rv : Int32 × Hp} (hA : adOk ad 59) (C : CX p s m args meth c cX5_sumOf 7 (some .int) RX5 D ids) (hX : (ExC tt ad) s s.heap) {k : Nat} (hk : isX5 k) : ∀ (h : Hp) (a1 : Int32) (H : Heap) (locs : List Loc) (ls : Array Slot), f_X5_sumOf h k a1 = some rv → wp D (cEC ids ad) ad 59 h H → va_S (inW ad 59) s.heap H locs → lv_has ls 7 [(0, .ref (ad k)), (1, .int a1)] → W p l e rm_X5_sumOf s m args below meth c H locs 0 0 (MQ below (QW D (cEC ids ad) ad 59 (some (.int rv.1)) rv.2) args s 0 0 (inW ad 59)) (F0 m 0 ls []) := by
  intro h a1 H locs ls hf hP hS hl
  unfold f_X5_sumOf at hf
  refine lv_iconst (v := (0 : Int32)) C.1 C.2.1 dX5_sumOf_0 (by decide) ?_
  refine lv_istore_n (lv' := [(2, .int (0 : Int32)), (0, .ref (ad k)), (1, .int a1)]) C.1 C.2.1 dX5_sumOf_1 rfl hl (by decide) rfl (fun ls hl => ?_)
  refine lv_aload_n C.1 C.2.1 dX5_sumOf_2 rfl (lv_at hl 1 rfl) ?_
  refine gf_X5_14 C hk hP dX5_sumOf_3 ?_
  refine lv_astore_n (lv' := [(3, .ref (ad (k + 1))), (2, .int (0 : Int32)), (0, .ref (ad k)), (1, .int a1)]) C.1 C.2.1 dX5_sumOf_6 rfl hl (by decide) rfl (fun ls hl => ?_)
  refine lv_aload_n C.1 C.2.1 dX5_sumOf_7 rfl (lv_at hl 0 rfl) ?_
  refine ln_aCap C (cap_of hk) hP dX5_sumOf_8 ?_
  refine lv_istore (lv' := [(4, .int (3 : Int32)), (3, .ref (ad (k + 1))), (2, .int (0 : Int32)), (0, .ref (ad k)), (1, .int a1)]) C.1 C.2.1 dX5_sumOf_9 hl (by decide) rfl (fun ls hl => ?_)
  refine lv_iconst (v := (0 : Int32)) C.1 C.2.1 dX5_sumOf_11 (by decide) ?_
  refine lv_istore (lv' := [(5, .int (0 : Int32)), (4, .int (3 : Int32)), (3, .ref (ad (k + 1))), (2, .int (0 : Int32)), (0, .ref (ad k)), (1, .int a1)]) C.1 C.2.1 dX5_sumOf_12 hl (by decide) rfl (fun ls hl => ?_)
  exact w_X5_sumOf_14 hA C hX hk _ _ _ _ _ _ _ _ _ hf hP hS (lv_sub hl [5, 3, 2, 1, 0] rfl)
theorem c_X5_sumOf (l : Launch) (D : va_G) (ids : Nat → ClassId) (ad tt : Nat → Nat) (hA : adOk ad 59) {k : Nat} (hk : isX5 k) {a1 : Int32} {h : Hp} {rv : Int32 × Hp} (hf : f_X5_sumOf h k a1 = some rv) : Met l yX5_sumOf (ws_ yX5_sumOf cX5_sumOf 7 (some .int)) rm_X5_sumOf (va_Pc [.ref (ad k), .int a1] (WB D ids (cEC ids ad) ad 59 (ExC tt ad) h)) (QW D (cEC ids ad) ad 59 (some (.int rv.1)) rv.2) 0 0 (inW ad 59) :=
  u_met (own := RX5) (by decide) rfl (Nat.le_of_ble_eq_true rfl) rfl (fun p e s m args below meth c H ls C hX hP hS hl => w_X5_sumOf (tt := tt) hA C hX hk _ _ _ _ _ hf hP hS hl)
