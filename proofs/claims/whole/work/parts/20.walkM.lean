abbrev rm_X8_set : Room := { frames := 2, cells := 0, slots := 0, locals := 44 }
set_option maxRecDepth 100000 in
set_option maxHeartbeats 4000000 in
theorem w_X8_set_21 {p : Program} {l : Launch} {e : Env} {s : State} {m : MethodId} {args : Array Value} {below : List Frame} {meth : Method} {c : Code} {D : va_G} {ids : Nat → ClassId} {ad : Nat → Nat} {rv : Int32 × Hp} (hA : adOk ad 12) (C : CX p s m args meth c cX8_set 3 (some .int) RX8 D ids) (hX : ExM s s.heap) : ∀ (h : Hp) (x1 : Int32) (x2 : Int32) (t0 : Int32) (t1 : Int32) (t2 : Int32) (H : Heap) (locs : List Loc) (ls : Array Slot), f_X8_set_21 h x1 x2 t0 t1 t2 = some rv → wp D (cEM ids ad) ad 12 h H → va_S (inW ad 12) s.heap H locs → lv_has ls 3 [(0, .ref (ad 0)), (1, .int x1), (2, .int x2)] → W p l e rm_X8_set s m args below meth c H locs 0 0 (MQ below (QW D (cEM ids ad) ad 12 (some (.int rv.1)) rv.2) args s 0 0 (inW ad 12)) (F0 m 21 ls [.int t2, .int t1, .int t0]) := by
  intro h x1 x2 t0 t1 t2 H locs ls hf hP hS hl
  unfold f_X8_set_21 at hf
  obtain ⟨q1, eq1, hf⟩ := g_b hf
  refine cv_X8_51 hA C hX hP hS eq1 ⟨Nat.le_of_ble_eq_true rfl, Nat.le_of_ble_eq_true rfl⟩ hl.1 (Nat.le_of_ble_eq_true rfl) dX8_set_21 (fun H locs hP hS => ?_)
  refine lv_if_eq (tgt := 38) C.1 C.2.1 dX8_set_24 (by decide) (fun hc => ?_) (fun hc => ?_)
  · have hf := g_t hc hf
    refine lv_bipush (v := (-2 : Int32)) C.1 C.2.1 dX8_set_38 (by decide) ?_
    obtain rfl := Option.some.inj hf
    exact u_iret C hP hS dX8_set_40
  · have hf := g_f hc hf
    refine lv_aload_n C.1 C.2.1 dX8_set_27 rfl (lv_at hl 0 rfl) ?_
    refine lv_iconst (v := (3 : Int32)) C.1 C.2.1 dX8_set_28 (by decide) ?_
    refine lv_iload_n C.1 C.2.1 dX8_set_29 rfl (lv_at hl 1 rfl) ?_
    refine lv_iadd C.1 C.2.1 dX8_set_30 ?_
    refine lv_iload_n C.1 C.2.1 dX8_set_31 rfl (lv_at hl 2 rfl) ?_
    obtain ⟨q2, eq2, hf⟩ := g_b hf
    refine cv_X8_132 hA C hX hP hS eq2 ⟨Nat.le_of_ble_eq_true rfl, Nat.le_of_ble_eq_true rfl⟩ hl.1 (Nat.le_of_ble_eq_true rfl) dX8_set_32 (fun H locs hP hS => ?_)
    refine lv_goto (tgt := 40) C.1 C.2.1 dX8_set_35 (by decide) ?_
    obtain rfl := Option.some.inj hf
    exact u_iret C hP hS dX8_set_40
set_option maxRecDepth 100000 in
set_option maxHeartbeats 4000000 in
theorem w_X8_set {p : Program} {l : Launch} {e : Env} {s : State} {m : MethodId} {args : Array Value} {below : List Frame} {meth : Method} {c : Code} {D : va_G} {ids : Nat → ClassId} {ad : Nat → Nat} {rv : Int32 × Hp} (hA : adOk ad 12) (C : CX p s m args meth c cX8_set 3 (some .int) RX8 D ids) (hX : ExM s s.heap) : ∀ (h : Hp) (a1 : Int32) (a2 : Int32) (H : Heap) (locs : List Loc) (ls : Array Slot), f_X8_set h a1 a2 = some rv → wp D (cEM ids ad) ad 12 h H → va_S (inW ad 12) s.heap H locs → lv_has ls 3 [(0, .ref (ad 0)), (1, .int a1), (2, .int a2)] → W p l e rm_X8_set s m args below meth c H locs 0 0 (MQ below (QW D (cEM ids ad) ad 12 (some (.int rv.1)) rv.2) args s 0 0 (inW ad 12)) (F0 m 0 ls []) := by
  intro h a1 a2 H locs ls hf hP hS hl
  unfold f_X8_set at hf
  refine lv_iload_n C.1 C.2.1 dX8_set_0 rfl (lv_at hl 1 rfl) ?_
  refine lv_iconst (v := (0 : Int32)) C.1 C.2.1 dX8_set_1 (by decide) ?_
  refine lv_iconst (v := (1 : Int32)) C.1 C.2.1 dX8_set_2 (by decide) ?_
  obtain ⟨q1, eq1, hf⟩ := g_b hf
  refine cv_X8_51 hA C hX hP hS eq1 ⟨Nat.le_of_ble_eq_true rfl, Nat.le_of_ble_eq_true rfl⟩ hl.1 (Nat.le_of_ble_eq_true rfl) dX8_set_3 (fun H locs hP hS => ?_)
  refine lv_if_eq (tgt := 38) C.1 C.2.1 dX8_set_6 (by decide) (fun hc => ?_) (fun hc => ?_)
  · have hf := g_t hc hf
    refine lv_bipush (v := (-2 : Int32)) C.1 C.2.1 dX8_set_38 (by decide) ?_
    obtain rfl := Option.some.inj hf
    exact u_iret C hP hS dX8_set_40
  · have hf := g_f hc hf
    refine lv_iload_n C.1 C.2.1 dX8_set_9 rfl (lv_at hl 2 rfl) ?_
    refine lv_iload_n C.1 C.2.1 dX8_set_10 rfl (lv_at hl 1 rfl) ?_
    refine lv_iload_n C.1 C.2.1 dX8_set_11 rfl (lv_at hl 1 rfl) ?_
    refine lv_if_ne (tgt := 19) C.1 C.2.1 dX8_set_12 (by decide) (fun hc => ?_) (fun hc => ?_)
    · have hf := g_f hc hf
      refine lv_bipush (v := (9 : Int32)) C.1 C.2.1 dX8_set_19 (by decide) ?_
      exact w_X8_set_21 hA C hX _ _ _ _ _ _ _ _ _ hf hP hS (lv_sub hl [0, 1, 2] rfl)
    · have hf := g_t hc hf
      refine lv_iconst (v := (1 : Int32)) C.1 C.2.1 dX8_set_15 (by decide) ?_
      refine lv_goto (tgt := 21) C.1 C.2.1 dX8_set_16 (by decide) ?_
      exact w_X8_set_21 hA C hX _ _ _ _ _ _ _ _ _ hf hP hS (lv_sub hl [0, 1, 2] rfl)
theorem c_X8_set (l : Launch) (D : va_G) (ids : Nat → ClassId) (ad : Nat → Nat) (hA : adOk ad 12) {a1 : Int32} {a2 : Int32} {h : Hp} {rv : Int32 × Hp} (hf : f_X8_set h a1 a2 = some rv) : Met l yX8_set (ws_ yX8_set cX8_set 3 (some .int)) rm_X8_set (va_Pc [.ref (ad 0), .int a1, .int a2] (WB D ids (cEM ids ad) ad 12 ExM h)) (QW D (cEM ids ad) ad 12 (some (.int rv.1)) rv.2) 0 0 (inW ad 12) :=
  u_met (own := RX8) (by decide) rfl (Nat.le_of_ble_eq_true rfl) rfl (fun p e s m args below meth c H ls C hX hP hS hl => w_X8_set hA C hX _ _ _ _ _ _ hf hP hS hl)
abbrev rm_X8_lot : Room := { frames := 2, cells := 0, slots := 0, locals := 44 }
set_option maxRecDepth 100000 in
set_option maxHeartbeats 4000000 in
theorem w_X8_lot {p : Program} {l : Launch} {e : Env} {s : State} {m : MethodId} {args : Array Value} {below : List Frame} {meth : Method} {c : Code} {D : va_G} {ids : Nat → ClassId} {ad : Nat → Nat} {rv : Int32 × Hp} (hA : adOk ad 12) (C : CX p s m args meth c cX8_lot 2 (some .int) RX8 D ids) (hX : ExM s s.heap) : ∀ (h : Hp) (a1 : Int32) (H : Heap) (locs : List Loc) (ls : Array Slot), f_X8_lot h a1 = some rv → wp D (cEM ids ad) ad 12 h H → va_S (inW ad 12) s.heap H locs → lv_has ls 2 [(0, .ref (ad 0)), (1, .int a1)] → W p l e rm_X8_lot s m args below meth c H locs 0 0 (MQ below (QW D (cEM ids ad) ad 12 (some (.int rv.1)) rv.2) args s 0 0 (inW ad 12)) (F0 m 0 ls []) := by
  intro h a1 H locs ls hf hP hS hl
  unfold f_X8_lot at hf
  refine lv_iload_n C.1 C.2.1 dX8_lot_0 rfl (lv_at hl 1 rfl) ?_
  refine lv_iconst (v := (0 : Int32)) C.1 C.2.1 dX8_lot_1 (by decide) ?_
  refine lv_ldc (v := (65536 : Int32)) C.1 C.2.1 C.2.2.2.2.2.1 (C.2.2.2.2.2.2.1 _ q_305) dX8_lot_2 ?_
  obtain ⟨q1, eq1, hf⟩ := g_b hf
  refine cv_X8_51 hA C hX hP hS eq1 ⟨Nat.le_of_ble_eq_true rfl, Nat.le_of_ble_eq_true rfl⟩ hl.1 (Nat.le_of_ble_eq_true rfl) dX8_lot_4 (fun H locs hP hS => ?_)
  refine lv_if_eq (tgt := 19) C.1 C.2.1 dX8_lot_7 (by decide) (fun hc => ?_) (fun hc => ?_)
  · have hf := g_t hc hf
    refine lv_bipush (v := (-2 : Int32)) C.1 C.2.1 dX8_lot_19 (by decide) ?_
    obtain rfl := Option.some.inj hf
    exact u_iret C hP hS dX8_lot_21
  · have hf := g_f hc hf
    refine lv_aload_n C.1 C.2.1 dX8_lot_10 rfl (lv_at hl 0 rfl) ?_
    refine lv_iconst (v := (2 : Int32)) C.1 C.2.1 dX8_lot_11 (by decide) ?_
    refine lv_iload_n C.1 C.2.1 dX8_lot_12 rfl (lv_at hl 1 rfl) ?_
    obtain ⟨q2, eq2, hf⟩ := g_b hf
    refine cv_X8_132 hA C hX hP hS eq2 ⟨Nat.le_of_ble_eq_true rfl, Nat.le_of_ble_eq_true rfl⟩ hl.1 (Nat.le_of_ble_eq_true rfl) dX8_lot_13 (fun H locs hP hS => ?_)
    refine lv_goto (tgt := 21) C.1 C.2.1 dX8_lot_16 (by decide) ?_
    obtain rfl := Option.some.inj hf
    exact u_iret C hP hS dX8_lot_21
theorem c_X8_lot (l : Launch) (D : va_G) (ids : Nat → ClassId) (ad : Nat → Nat) (hA : adOk ad 12) {a1 : Int32} {h : Hp} {rv : Int32 × Hp} (hf : f_X8_lot h a1 = some rv) : Met l yX8_lot (ws_ yX8_lot cX8_lot 2 (some .int)) rm_X8_lot (va_Pc [.ref (ad 0), .int a1] (WB D ids (cEM ids ad) ad 12 ExM h)) (QW D (cEM ids ad) ad 12 (some (.int rv.1)) rv.2) 0 0 (inW ad 12) :=
  u_met (own := RX8) (by decide) rfl (Nat.le_of_ble_eq_true rfl) rfl (fun p e s m args below meth c H ls C hX hP hS hl => w_X8_lot hA C hX _ _ _ _ _ hf hP hS hl)
abbrev rm_X8_sumOf : Room := { frames := 1, cells := 0, slots := 0, locals := 22 }
set_option maxRecDepth 100000 in
set_option maxHeartbeats 4000000 in
theorem w_X8_sumOf {p : Program} {l : Launch} {e : Env} {s : State} {m : MethodId} {args : Array Value} {below : List Frame} {meth : Method} {c : Code} {D : va_G} {ids : Nat → ClassId} {ad : Nat → Nat} {rv : Int32 × Hp} (hA : adOk ad 12) (C : CX p s m args meth c cX8_sumOf 2 (some .int) RX8 D ids) (hX : ExM s s.heap) : ∀ (h : Hp) (a1 : Int32) (H : Heap) (locs : List Loc) (ls : Array Slot), f_X8_sumOf h a1 = some rv → wp D (cEM ids ad) ad 12 h H → va_S (inW ad 12) s.heap H locs → lv_has ls 2 [(0, .ref (ad 0)), (1, .int a1)] → W p l e rm_X8_sumOf s m args below meth c H locs 0 0 (MQ below (QW D (cEM ids ad) ad 12 (some (.int rv.1)) rv.2) args s 0 0 (inW ad 12)) (F0 m 0 ls []) := by
  intro h a1 H locs ls hf hP hS hl
  unfold f_X8_sumOf at hf
  refine lv_aload_n C.1 C.2.1 dX8_sumOf_0 rfl (lv_at hl 0 rfl) ?_
  refine lv_iconst (v := (0 : Int32)) C.1 C.2.1 dX8_sumOf_1 (by decide) ?_
  refine lv_iload_n C.1 C.2.1 dX8_sumOf_2 rfl (lv_at hl 1 rfl) ?_
  obtain ⟨q1, eq1, hf⟩ := g_b hf
  refine cv_X8_55 hA C hX hP hS eq1 ⟨Nat.le_of_ble_eq_true rfl, Nat.le_of_ble_eq_true rfl⟩ hl.1 (Nat.le_of_ble_eq_true rfl) dX8_sumOf_3 (fun H locs hP hS => ?_)
  refine lv_aload_n C.1 C.2.1 dX8_sumOf_6 rfl (lv_at hl 0 rfl) ?_
  refine lv_iconst (v := (1 : Int32)) C.1 C.2.1 dX8_sumOf_7 (by decide) ?_
  refine lv_iload_n C.1 C.2.1 dX8_sumOf_8 rfl (lv_at hl 1 rfl) ?_
  obtain ⟨q2, eq2, hf⟩ := g_b hf
  refine cv_X8_55 hA C hX hP hS eq2 ⟨Nat.le_of_ble_eq_true rfl, Nat.le_of_ble_eq_true rfl⟩ hl.1 (Nat.le_of_ble_eq_true rfl) dX8_sumOf_9 (fun H locs hP hS => ?_)
  refine lv_iadd C.1 C.2.1 dX8_sumOf_12 ?_
  refine lv_aload_n C.1 C.2.1 dX8_sumOf_13 rfl (lv_at hl 0 rfl) ?_
  refine lv_iconst (v := (2 : Int32)) C.1 C.2.1 dX8_sumOf_14 (by decide) ?_
  refine lv_iload_n C.1 C.2.1 dX8_sumOf_15 rfl (lv_at hl 1 rfl) ?_
  obtain ⟨q3, eq3, hf⟩ := g_b hf
  refine cv_X8_55 hA C hX hP hS eq3 ⟨Nat.le_of_ble_eq_true rfl, Nat.le_of_ble_eq_true rfl⟩ hl.1 (Nat.le_of_ble_eq_true rfl) dX8_sumOf_16 (fun H locs hP hS => ?_)
  refine lv_iadd C.1 C.2.1 dX8_sumOf_19 ?_
  obtain rfl := Option.some.inj hf
  exact u_iret C hP hS dX8_sumOf_20
theorem c_X8_sumOf (l : Launch) (D : va_G) (ids : Nat → ClassId) (ad : Nat → Nat) (hA : adOk ad 12) {a1 : Int32} {h : Hp} {rv : Int32 × Hp} (hf : f_X8_sumOf h a1 = some rv) : Met l yX8_sumOf (ws_ yX8_sumOf cX8_sumOf 2 (some .int)) rm_X8_sumOf (va_Pc [.ref (ad 0), .int a1] (WB D ids (cEM ids ad) ad 12 ExM h)) (QW D (cEM ids ad) ad 12 (some (.int rv.1)) rv.2) 0 0 (inW ad 12) :=
  u_met (own := RX8) (by decide) rfl (Nat.le_of_ble_eq_true rfl) rfl (fun p e s m args below meth c H ls C hX hP hS hl => w_X8_sumOf hA C hX _ _ _ _ _ hf hP hS hl)
abbrev rm_X8_levelOf : Room := { frames := 0, cells := 0, slots := 0, locals := 0 }
set_option maxRecDepth 100000 in
set_option maxHeartbeats 4000000 in
theorem w_X8_levelOf {p : Program} {l : Launch} {e : Env} {s : State} {m : MethodId} {args : Array Value} {below : List Frame} {meth : Method} {c : Code} {D : va_G} {ids : Nat → ClassId} {ad : Nat → Nat} {rv : Int32 × Hp} (hA : adOk ad 12) (C : CX p s m args meth c cX8_levelOf 3 (some .int) RX8 D ids) (hX : ExM s s.heap) : ∀ (h : Hp) (a1 : Int32) (a2 : Int32) (H : Heap) (locs : List Loc) (ls : Array Slot), f_X8_levelOf h a1 a2 = some rv → wp D (cEM ids ad) ad 12 h H → va_S (inW ad 12) s.heap H locs → lv_has ls 3 [(0, .int a1), (1, .int a2)] → W p l e rm_X8_levelOf s m args below meth c H locs 0 0 (MQ below (QW D (cEM ids ad) ad 12 (some (.int rv.1)) rv.2) args s 0 0 (inW ad 12)) (F0 m 0 ls []) := by
  intro h a1 a2 H locs ls hf hP hS hl
  unfold f_X8_levelOf at hf
  refine lv_iload_n C.1 C.2.1 dX8_levelOf_0 rfl (lv_at hl 1 rfl) ?_
  refine lv_iload_n C.1 C.2.1 dX8_levelOf_1 rfl (lv_at hl 0 rfl) ?_
  refine lv_iadd C.1 C.2.1 dX8_levelOf_2 ?_
  refine lv_bipush (v := (12 : Int32)) C.1 C.2.1 dX8_levelOf_3 (by decide) ?_
  refine lv_irem C.1 C.2.1 dX8_levelOf_5 (by decide) ?_
  refine lv_bipush (v := (6 : Int32)) C.1 C.2.1 dX8_levelOf_6 (by decide) ?_
  refine lv_isub C.1 C.2.1 dX8_levelOf_8 ?_
  refine lv_istore_n (lv' := [(2, .int (((a2 + a1) - (a2 + a1) / (12 : Int32) * (12 : Int32)) - (6 : Int32))), (0, .int a1), (1, .int a2)]) C.1 C.2.1 dX8_levelOf_9 rfl hl (by decide) rfl (fun ls hl => ?_)
  refine lv_iload_n C.1 C.2.1 dX8_levelOf_10 rfl (lv_at hl 0 rfl) ?_
  refine lv_if_ge (tgt := 19) C.1 C.2.1 dX8_levelOf_11 (by decide) (fun hc => ?_) (fun hc => ?_)
  · have hf := g_t hc hf
    refine lv_iload_n C.1 C.2.1 dX8_levelOf_19 rfl (lv_at hl 0 rfl) ?_
    obtain rfl := Option.some.inj hf
    exact u_iret C hP hS dX8_levelOf_20
  · have hf := g_f hc hf
    refine lv_iload_n C.1 C.2.1 dX8_levelOf_14 rfl (lv_at hl 0 rfl) ?_
    refine lv_ineg C.1 C.2.1 dX8_levelOf_15 ?_
    refine lv_goto (tgt := 20) C.1 C.2.1 dX8_levelOf_16 (by decide) ?_
    obtain rfl := Option.some.inj hf
    exact u_iret C hP hS dX8_levelOf_20
theorem c_X8_levelOf (l : Launch) (D : va_G) (ids : Nat → ClassId) (ad : Nat → Nat) (hA : adOk ad 12) {a1 : Int32} {a2 : Int32} {h : Hp} {rv : Int32 × Hp} (hf : f_X8_levelOf h a1 a2 = some rv) : Met l yX8_levelOf (ws_ yX8_levelOf cX8_levelOf 3 (some .int)) rm_X8_levelOf (va_Pc [.int a1, .int a2] (WB D ids (cEM ids ad) ad 12 ExM h)) (QW D (cEM ids ad) ad 12 (some (.int rv.1)) rv.2) 0 0 (inW ad 12) :=
  u_met (own := RX8) (by decide) rfl (Nat.le_of_ble_eq_true rfl) rfl (fun p e s m args below meth c H ls C hX hP hS hl => w_X8_levelOf hA C hX _ _ _ _ _ _ hf hP hS hl)
theorem cv_X8_59 {p : Program} {l : Launch} {e : Env} {R : Room} {s : State} {m : MethodId} {args : Array Value} {below : List Frame} {meth : Method} {c : Code} {H : Heap} {locs : List Loc} {Q : State → Prop} {cc : ByteArray} {nL : Nat} {ret : Option FieldType} {pc : Nat} {ls : Array Slot} {rest : List Value} {D : va_G} {ids : Nat → ClassId} {ad : Nat → Nat} {h : Hp} (hA : adOk ad 12) (C : CX p s m args meth c cc nL ret RX8 D ids) (hX : ExM s s.heap) (hP : wp D (cEM ids ad) ad 12 h H) (hS : va_S (inW ad 12) s.heap H locs) {a1 : Int32} {a2 : Int32} {rv : Int32 × Hp} (hf : f_X8_levelOf h a1 a2 = some rv) (hR : 0 + 1 ≤ R.frames ∧ 8 + (3 + 11) + 0 ≤ R.locals) (hsz : ls.size = nL) (hcat : (rest.map fun v => v.category).sum ≤ 8) (hdg : decode cc pc = .ok (.invokestatic 59, 3)) (kk : ∀ (H1 : Heap) (locs1 : List Loc), wp D (cEM ids ad) ad 12 rv.2 H1 → va_S (inW ad 12) s.heap H1 locs1 → W p l e R s m args below meth c H1 locs1 0 0 Q (F0 m (pc + 3) ls (.int rv.1 :: rest))) : W p l e R s m args below meth c H locs 0 0 Q (F0 m pc ls (.int a2 :: .int a1 :: rest)) :=
  u_callS (As := [.int a1, .int a2]) (rv := (some (.int rv.1))) C exM_ok hX (c_X8_levelOf l D ids ad hA hf) q_437 q_438 q_5 q_439 ⟨rfl, rfl⟩ (by refine ⟨by decide +kernel, by decide +kernel, ?_⟩; show _ = some 2; decide +kernel) hR hP hS hsz hcat rfl hdg kk
abbrev rm_X8_isEnough : Room := { frames := 1, cells := 0, slots := 0, locals := 22 }
set_option maxRecDepth 100000 in
set_option maxHeartbeats 4000000 in
theorem w_X8_isEnough {p : Program} {l : Launch} {e : Env} {s : State} {m : MethodId} {args : Array Value} {below : List Frame} {meth : Method} {c : Code} {D : va_G} {ids : Nat → ClassId} {ad : Nat → Nat} {rv : Int32 × Hp} (hA : adOk ad 12) (C : CX p s m args meth c cX8_isEnough 4 (some .boolean) RX8 D ids) (hX : ExM s s.heap) : ∀ (h : Hp) (a1 : Int32) (a2 : Int32) (a3 : Int32) (H : Heap) (locs : List Loc) (ls : Array Slot), f_X8_isEnough h a1 a2 a3 = some rv → wp D (cEM ids ad) ad 12 h H → va_S (inW ad 12) s.heap H locs → lv_has ls 4 [(0, .ref (ad 0)), (1, .int a1), (2, .int a2), (3, .int a3)] → W p l e rm_X8_isEnough s m args below meth c H locs 0 0 (MQ below (QW D (cEM ids ad) ad 12 (some (.int rv.1)) rv.2) args s 0 0 (inW ad 12)) (F0 m 0 ls []) := by
  intro h a1 a2 a3 H locs ls hf hP hS hl
  unfold f_X8_isEnough at hf
  refine lv_iload_n C.1 C.2.1 dX8_isEnough_0 rfl (lv_at hl 2 rfl) ?_
  refine lv_iload_n C.1 C.2.1 dX8_isEnough_1 rfl (lv_at hl 3 rfl) ?_
  obtain ⟨q1, eq1, hf⟩ := g_b hf
  refine cv_X8_59 hA C hX hP hS eq1 ⟨Nat.le_of_ble_eq_true rfl, Nat.le_of_ble_eq_true rfl⟩ hl.1 (Nat.le_of_ble_eq_true rfl) dX8_isEnough_2 (fun H locs hP hS => ?_)
  refine lv_aload_n C.1 C.2.1 dX8_isEnough_5 rfl (lv_at hl 0 rfl) ?_
  refine lv_iload_n C.1 C.2.1 dX8_isEnough_6 rfl (lv_at hl 1 rfl) ?_
  refine lv_iconst (v := (1 : Int32)) C.1 C.2.1 dX8_isEnough_7 (by decide) ?_
  obtain ⟨q2, eq2, hf⟩ := g_b hf
  refine cv_X8_55 hA C hX hP hS eq2 ⟨Nat.le_of_ble_eq_true rfl, Nat.le_of_ble_eq_true rfl⟩ hl.1 (Nat.le_of_ble_eq_true rfl) dX8_isEnough_8 (fun H locs hP hS => ?_)
  refine lv_icmp_lt (tgt := 18) C.1 C.2.1 dX8_isEnough_11 (by decide) (fun hc => ?_) (fun hc => ?_)
  · have hf := g_t hc hf
    refine lv_iconst (v := (0 : Int32)) C.1 C.2.1 dX8_isEnough_18 (by decide) ?_
    obtain rfl := Option.some.inj hf
    exact u_zret C hP hS isb_0 dX8_isEnough_19
  · have hf := g_f hc hf
    refine lv_iconst (v := (1 : Int32)) C.1 C.2.1 dX8_isEnough_14 (by decide) ?_
    refine lv_goto (tgt := 19) C.1 C.2.1 dX8_isEnough_15 (by decide) ?_
    obtain rfl := Option.some.inj hf
    exact u_zret C hP hS isb_1 dX8_isEnough_19
theorem c_X8_isEnough (l : Launch) (D : va_G) (ids : Nat → ClassId) (ad : Nat → Nat) (hA : adOk ad 12) {a1 : Int32} {a2 : Int32} {a3 : Int32} {h : Hp} {rv : Int32 × Hp} (hf : f_X8_isEnough h a1 a2 a3 = some rv) : Met l yX8_isEnough (ws_ yX8_isEnough cX8_isEnough 4 (some .boolean)) rm_X8_isEnough (va_Pc [.ref (ad 0), .int a1, .int a2, .int a3] (WB D ids (cEM ids ad) ad 12 ExM h)) (QW D (cEM ids ad) ad 12 (some (.int rv.1)) rv.2) 0 0 (inW ad 12) :=
  u_met (own := RX8) (by decide) rfl (Nat.le_of_ble_eq_true rfl) rfl (fun p e s m args below meth c H ls C hX hP hS hl => w_X8_isEnough hA C hX _ _ _ _ _ _ _ hf hP hS hl)
theorem gf_X8_28 {p : Program} {l : Launch} {e : Env} {R : Room} {s : State} {m : MethodId} {args : Array Value} {below : List Frame} {meth : Method} {c : Code} {H : Heap} {locs : List Loc} {cells slots : Nat} {Q : State → Prop} {cc : ByteArray} {nL : Nat} {ret : Option FieldType} {pc : Nat} {ls : Array Slot} {rest : List Value} {D : va_G} {ids : Nat → ClassId} {ad : Nat → Nat} {h : Hp} (C : CX p s m args meth c cc nL ret RX8 D ids) (hP : wp D (cEM ids ad) ad 12 h H) (hdg : decode cc pc = .ok (.getfield 28, 3)) (kk : W p l e R s m args below meth c H locs cells slots Q (F0 m (pc + 3) ls (.ref (ad 7) :: rest))) : W p l e R s m args below meth c H locs cells slots Q (F0 m pc ls (.ref (ad 0) :: rest)) :=
  u_get C hP (by decide) cE_X8 rfl inX8 6 (by decide) rfl q_120 hdg kk
theorem as_m7 {p : Program} {l : Launch} {e : Env} {R : Room} {s : State} {m : MethodId} {args : Array Value} {below : List Frame} {meth : Method} {c : Code} {H : Heap} {locs : List Loc} {cells slots : Nat} {Q : State → Prop} {cc : ByteArray} {nL : Nat} {ret : Option FieldType} {own : String} {pc : Nat} {ls : Array Slot} {rest : List Value} {D : va_G} {ids : Nat → ClassId} {ad : Nat → Nat} {h : Hp} {i x : Int32} (hA : adOk ad 12) (C : CX p s m args meth c cc nL ret own D ids) (hP : wp D (cEM ids ad) ad 12 h H) (hS : va_S (inW ad 12) s.heap H locs) (hg : inb i 3 = true) (hdg : decode cc pc = .ok (.iastore, 1)) (kk : ∀ (H1 : Heap) (locs1 : List Loc), wp D (cEM ids ad) ad 12 (hs h 7 i.toNatClampNeg x) H1 → va_S (inW ad 12) s.heap H1 locs1 → W p l e R s m args below meth c H1 locs1 cells slots Q (F0 m (pc + 1) ls rest)) : W p l e R s m args below meth c H locs cells slots Q (F0 m pc ls (.int x :: .int i :: .ref (ad 7) :: rest)) :=
  u_iast hA C hP hS (by decide) cE_m7 hg hdg kk
theorem cv_X8_62 {p : Program} {l : Launch} {e : Env} {R : Room} {s : State} {m : MethodId} {args : Array Value} {below : List Frame} {meth : Method} {c : Code} {H : Heap} {locs : List Loc} {Q : State → Prop} {cc : ByteArray} {nL : Nat} {ret : Option FieldType} {pc : Nat} {ls : Array Slot} {rest : List Value} {D : va_G} {ids : Nat → ClassId} {ad : Nat → Nat} {h : Hp} (hA : adOk ad 12) (C : CX p s m args meth c cc nL ret RX8 D ids) (hX : ExM s s.heap) (hP : wp D (cEM ids ad) ad 12 h H) (hS : va_S (inW ad 12) s.heap H locs) {a1 : Int32} {a2 : Int32} {a3 : Int32} {rv : Int32 × Hp} (hf : f_X8_isEnough h a1 a2 a3 = some rv) (hR : 1 + 1 ≤ R.frames ∧ 8 + (4 + 11) + 22 ≤ R.locals) (hsz : ls.size = nL) (hcat : (rest.map fun v => v.category).sum ≤ 8) (hdg : decode cc pc = .ok (.invokevirtual 62, 3)) (kk : ∀ (H1 : Heap) (locs1 : List Loc), wp D (cEM ids ad) ad 12 rv.2 H1 → va_S (inW ad 12) s.heap H1 locs1 → W p l e R s m args below meth c H1 locs1 0 0 Q (F0 m (pc + 3) ls (.int rv.1 :: rest))) : W p l e R s m args below meth c H locs 0 0 Q (F0 m pc ls (.int a3 :: .int a2 :: .int a1 :: .ref (ad 0) :: rest)) :=
  u_callV (As := [.int a1, .int a2, .int a3]) (rv := (some (.int rv.1))) C exM_ok hX (c_X8_isEnough l D ids ad hA hf) q_433 q_434 q_435 q_5 q_436 ⟨rfl, rfl⟩ (by refine ⟨by decide +kernel, by decide +kernel, ?_⟩; show _ = some 3; decide +kernel) hR (by decide) (cE_X8 _) rfl hP hS hsz hcat rfl hdg kk
theorem gf_X8_25 {p : Program} {l : Launch} {e : Env} {R : Room} {s : State} {m : MethodId} {args : Array Value} {below : List Frame} {meth : Method} {c : Code} {H : Heap} {locs : List Loc} {cells slots : Nat} {Q : State → Prop} {cc : ByteArray} {nL : Nat} {ret : Option FieldType} {pc : Nat} {ls : Array Slot} {rest : List Value} {D : va_G} {ids : Nat → ClassId} {ad : Nat → Nat} {h : Hp} (C : CX p s m args meth c cc nL ret RX8 D ids) (hP : wp D (cEM ids ad) ad 12 h H) (hdg : decode cc pc = .ok (.getfield 25, 3)) (kk : W p l e R s m args below meth c H locs cells slots Q (F0 m (pc + 3) ls (.ref (ad 6) :: rest))) : W p l e R s m args below meth c H locs cells slots Q (F0 m pc ls (.ref (ad 0) :: rest)) :=
  u_get C hP (by decide) cE_X8 rfl inX8 5 (by decide) rfl q_119 hdg kk
theorem al_m7 {p : Program} {l : Launch} {e : Env} {R : Room} {s : State} {m : MethodId} {args : Array Value} {below : List Frame} {meth : Method} {c : Code} {H : Heap} {locs : List Loc} {cells slots : Nat} {Q : State → Prop} {cc : ByteArray} {nL : Nat} {ret : Option FieldType} {own : String} {pc : Nat} {ls : Array Slot} {rest : List Value} {D : va_G} {ids : Nat → ClassId} {ad : Nat → Nat} {h : Hp} (C : CX p s m args meth c cc nL ret own D ids) (hP : wp D (cEM ids ad) ad 12 h H) {i : Int32} (hg : inb i 3 = true) (hdg : decode cc pc = .ok (.iaload, 1)) (kk : W p l e R s m args below meth c H locs cells slots Q (F0 m (pc + 1) ls (.int (h 7 i.toNatClampNeg) :: rest))) : W p l e R s m args below meth c H locs cells slots Q (F0 m pc ls (.int i :: .ref (ad 7) :: rest)) :=
  u_iald C hP (by decide) cE_m7 hg hdg kk
theorem as_m6 {p : Program} {l : Launch} {e : Env} {R : Room} {s : State} {m : MethodId} {args : Array Value} {below : List Frame} {meth : Method} {c : Code} {H : Heap} {locs : List Loc} {cells slots : Nat} {Q : State → Prop} {cc : ByteArray} {nL : Nat} {ret : Option FieldType} {own : String} {pc : Nat} {ls : Array Slot} {rest : List Value} {D : va_G} {ids : Nat → ClassId} {ad : Nat → Nat} {h : Hp} {i x : Int32} (hA : adOk ad 12) (C : CX p s m args meth c cc nL ret own D ids) (hP : wp D (cEM ids ad) ad 12 h H) (hS : va_S (inW ad 12) s.heap H locs) (hg : inb i 24 = true) (hdg : decode cc pc = .ok (.iastore, 1)) (kk : ∀ (H1 : Heap) (locs1 : List Loc), wp D (cEM ids ad) ad 12 (hs h 6 i.toNatClampNeg x) H1 → va_S (inW ad 12) s.heap H1 locs1 → W p l e R s m args below meth c H1 locs1 cells slots Q (F0 m (pc + 1) ls rest)) : W p l e R s m args below meth c H locs cells slots Q (F0 m pc ls (.int x :: .int i :: .ref (ad 6) :: rest)) :=
  u_iast hA C hP hS (by decide) cE_m6 hg hdg kk
abbrev rm_X8_print : Room := { frames := 2, cells := 0, slots := 0, locals := 45 }
set_option maxRecDepth 100000 in
set_option maxHeartbeats 4000000 in
theorem w_X8_print_64 {p : Program} {l : Launch} {e : Env} {s : State} {m : MethodId} {args : Array Value} {below : List Frame} {meth : Method} {c : Code} {D : va_G} {ids : Nat → ClassId} {ad : Nat → Nat} {rv : Hp} (hA : adOk ad 12) (C : CX p s m args meth c cX8_print 3 none RX8 D ids) (hX : ExM s s.heap) {K14 : Hp → Int32 → Int32 → Option (Hp)} (hK14 : ∀ (h : Hp) (x1 : Int32) (x2 : Int32) (H : Heap) (locs : List Loc) (ls : Array Slot), K14 h x1 x2 = some rv → wp D (cEM ids ad) ad 12 h H → va_S (inW ad 12) s.heap H locs → lv_has ls 3 [(0, .ref (ad 0)), (1, .int x1), (2, .int x2)] → W p l e rm_X8_print s m args below meth c H locs 0 0 (MQ below (QW D (cEM ids ad) ad 12 none rv) args s 0 0 (inW ad 12)) (F0 m 14 ls [])) : ∀ (h : Hp) (x1 : Int32) (x2 : Int32) (H : Heap) (locs : List Loc) (ls : Array Slot), f_X8_print_64 K14 h x1 x2 = some rv → wp D (cEM ids ad) ad 12 h H → va_S (inW ad 12) s.heap H locs → lv_has ls 3 [(0, .ref (ad 0)), (1, .int x1), (2, .int x2)] → W p l e rm_X8_print s m args below meth c H locs 0 0 (MQ below (QW D (cEM ids ad) ad 12 none rv) args s 0 0 (inW ad 12)) (F0 m 64 ls []) := by
  intro h x1 x2 H locs ls hf hP hS hl
  unfold f_X8_print_64 at hf
  refine lv_iinc (v := (x2 + 3)) (lv' := [(2, .int (x2 + 3)), (0, .ref (ad 0)), (1, .int x1)]) C.1 C.2.1 dX8_print_64 hl (k := 2) rfl (by rfl) (by decide) rfl (fun ls hl => ?_)
  refine lv_goto (tgt := 14) C.1 C.2.1 dX8_print_67 (by decide) ?_
  exact hK14 _ _ _ _ _ _ hf hP hS (lv_sub hl [1, 2, 0] rfl)
set_option maxRecDepth 100000 in
set_option maxHeartbeats 4000000 in
theorem w_X8_print_14 {p : Program} {l : Launch} {e : Env} {s : State} {m : MethodId} {args : Array Value} {below : List Frame} {meth : Method} {c : Code} {D : va_G} {ids : Nat → ClassId} {ad : Nat → Nat} {rv : Hp} (hA : adOk ad 12) (C : CX p s m args meth c cX8_print 3 none RX8 D ids) (hX : ExM s s.heap) : ∀ (fu : Nat), ∀ (h : Hp) (x1 : Int32) (x2 : Int32) (H : Heap) (locs : List Loc) (ls : Array Slot), f_X8_print_14 fu h x1 x2 = some rv → wp D (cEM ids ad) ad 12 h H → va_S (inW ad 12) s.heap H locs → lv_has ls 3 [(0, .ref (ad 0)), (1, .int x1), (2, .int x2)] → W p l e rm_X8_print s m args below meth c H locs 0 0 (MQ below (QW D (cEM ids ad) ad 12 none rv) args s 0 0 (inW ad 12)) (F0 m 14 ls []) := by
  intro fu
  induction fu with
  | zero =>
    intro h x1 x2 H locs ls hf hP hS hl
    cases hf
  | succ fu ih =>
    intro h x1 x2 H locs ls hf hP hS hl
    rw [f_X8_print_14_s] at hf
    refine lv_iload_n C.1 C.2.1 dX8_print_14 rfl (lv_at hl 2 rfl) ?_
    refine lv_iconst (v := (2 : Int32)) C.1 C.2.1 dX8_print_15 (by decide) ?_
    refine lv_iadd C.1 C.2.1 dX8_print_16 ?_
    refine lv_bipush (v := (23 : Int32)) C.1 C.2.1 dX8_print_17 (by decide) ?_
    refine lv_icmp_gt (tgt := 76) C.1 C.2.1 dX8_print_19 (by decide) (fun hc => ?_) (fun hc => ?_)
    · have hf := g_t hc hf
      obtain rfl := Option.some.inj hf
      exact u_vret C hP hS dX8_print_76
    · have hf := g_f hc hf
      refine lv_aload_n C.1 C.2.1 dX8_print_22 rfl (lv_at hl 0 rfl) ?_
      refine lv_iload_n C.1 C.2.1 dX8_print_23 rfl (lv_at hl 1 rfl) ?_
      refine lv_aload_n C.1 C.2.1 dX8_print_24 rfl (lv_at hl 0 rfl) ?_
      refine lv_iload_n C.1 C.2.1 dX8_print_25 rfl (lv_at hl 1 rfl) ?_
      refine lv_iconst (v := (0 : Int32)) C.1 C.2.1 dX8_print_26 (by decide) ?_
      obtain ⟨q1, eq1, hf⟩ := g_b hf
      refine cv_X8_55 hA C hX hP hS eq1 ⟨Nat.le_of_ble_eq_true rfl, Nat.le_of_ble_eq_true rfl⟩ hl.1 (Nat.le_of_ble_eq_true rfl) dX8_print_27 (fun H locs hP hS => ?_)
      refine lv_iload_n C.1 C.2.1 dX8_print_30 rfl (lv_at hl 2 rfl) ?_
      obtain ⟨q2, eq2, hf⟩ := g_b hf
      refine cv_X8_62 hA C hX hP hS eq2 ⟨Nat.le_of_ble_eq_true rfl, Nat.le_of_ble_eq_true rfl⟩ hl.1 (Nat.le_of_ble_eq_true rfl) dX8_print_31 (fun H locs hP hS => ?_)
      refine lv_if_eq (tgt := 70) C.1 C.2.1 dX8_print_34 (by decide) (fun hc => ?_) (fun hc => ?_)
      · have hf := g_t hc hf
        refine lv_iinc (v := (x2 + 1)) (lv' := [(2, .int (x2 + 1)), (0, .ref (ad 0)), (1, .int x1)]) C.1 C.2.1 dX8_print_70 hl (k := 2) rfl (by rfl) (by decide) rfl (fun ls hl => ?_)
        refine lv_goto (tgt := 14) C.1 C.2.1 dX8_print_73 (by decide) ?_
        exact ih _ _ _ _ _ _ hf hP hS (lv_sub hl [1, 2, 0] rfl)
      · have hf := g_f hc hf
        refine lv_aload_n C.1 C.2.1 dX8_print_37 rfl (lv_at hl 0 rfl) ?_
        refine gf_X8_25 C hP dX8_print_38 ?_
        refine lv_bipush (v := (8 : Int32)) C.1 C.2.1 dX8_print_41 (by decide) ?_
        refine lv_iload_n C.1 C.2.1 dX8_print_43 rfl (lv_at hl 1 rfl) ?_
        refine lv_imul C.1 C.2.1 dX8_print_44 ?_
        refine lv_aload_n C.1 C.2.1 dX8_print_45 rfl (lv_at hl 0 rfl) ?_
        refine gf_X8_28 C hP dX8_print_46 ?_
        refine lv_iload_n C.1 C.2.1 dX8_print_49 rfl (lv_at hl 1 rfl) ?_
        obtain ⟨hg, hf⟩ := g_if hf
        refine al_m7 C hP hg dX8_print_50 ?_
        refine lv_iadd C.1 C.2.1 dX8_print_51 ?_
        refine lv_iload_n C.1 C.2.1 dX8_print_52 rfl (lv_at hl 2 rfl) ?_
        obtain ⟨hg, hf⟩ := g_if hf
        refine as_m6 hA C hP hS hg dX8_print_53 (fun H locs hP hS => ?_)
        refine lv_aload_n C.1 C.2.1 dX8_print_54 rfl (lv_at hl 0 rfl) ?_
        refine gf_X8_28 C hP dX8_print_55 ?_
        refine lv_iload_n C.1 C.2.1 dX8_print_58 rfl (lv_at hl 1 rfl) ?_
        refine lv_dup2_11 C.1 C.2.1 dX8_print_59 rfl rfl ?_
        obtain ⟨hg, hf⟩ := g_if hf
        refine al_m7 C hP hg dX8_print_60 ?_
        refine lv_iconst (v := (1 : Int32)) C.1 C.2.1 dX8_print_61 (by decide) ?_
        refine lv_iadd C.1 C.2.1 dX8_print_62 ?_
        obtain ⟨hg, hf⟩ := g_if hf
        refine as_m7 hA C hP hS hg dX8_print_63 (fun H locs hP hS => ?_)
        exact w_X8_print_64 hA C hX ih _ _ _ _ _ _ hf hP hS (lv_sub hl [0, 1, 2] rfl)
set_option maxRecDepth 100000 in
set_option maxHeartbeats 4000000 in
theorem w_X8_print {p : Program} {l : Launch} {e : Env} {s : State} {m : MethodId} {args : Array Value} {below : List Frame} {meth : Method} {c : Code} {D : va_G} {ids : Nat → ClassId} {ad : Nat → Nat} {rv : Hp} (hA : adOk ad 12) (C : CX p s m args meth c cX8_print 3 none RX8 D ids) (hX : ExM s s.heap) : ∀ (h : Hp) (a1 : Int32) (H : Heap) (locs : List Loc) (ls : Array Slot), f_X8_print h a1 = some rv → wp D (cEM ids ad) ad 12 h H → va_S (inW ad 12) s.heap H locs → lv_has ls 3 [(0, .ref (ad 0)), (1, .int a1)] → W p l e rm_X8_print s m args below meth c H locs 0 0 (MQ below (QW D (cEM ids ad) ad 12 none rv) args s 0 0 (inW ad 12)) (F0 m 0 ls []) := by
  intro h a1 H locs ls hf hP hS hl
  unfold f_X8_print at hf
  refine lv_aload_n C.1 C.2.1 dX8_print_0 rfl (lv_at hl 0 rfl) ?_
  refine gf_X8_28 C hP dX8_print_1 ?_
  refine lv_iload_n C.1 C.2.1 dX8_print_4 rfl (lv_at hl 1 rfl) ?_
  refine lv_iconst (v := (0 : Int32)) C.1 C.2.1 dX8_print_5 (by decide) ?_
  obtain ⟨hg, hf⟩ := g_if hf
  refine as_m7 hA C hP hS hg dX8_print_6 (fun H locs hP hS => ?_)
  refine lv_aload_n C.1 C.2.1 dX8_print_7 rfl (lv_at hl 0 rfl) ?_
  refine lv_iload_n C.1 C.2.1 dX8_print_8 rfl (lv_at hl 1 rfl) ?_
  refine lv_iconst (v := (2 : Int32)) C.1 C.2.1 dX8_print_9 (by decide) ?_
  obtain ⟨q1, eq1, hf⟩ := g_b hf
  refine cv_X8_55 hA C hX hP hS eq1 ⟨Nat.le_of_ble_eq_true rfl, Nat.le_of_ble_eq_true rfl⟩ hl.1 (Nat.le_of_ble_eq_true rfl) dX8_print_10 (fun H locs hP hS => ?_)
  refine lv_istore_n (lv' := [(2, .int q1.1), (0, .ref (ad 0)), (1, .int a1)]) C.1 C.2.1 dX8_print_13 rfl hl (by decide) rfl (fun ls hl => ?_)
  exact w_X8_print_14 hA C hX _ _ _ _ _ _ _ hf hP hS (lv_sub hl [1, 2, 0] rfl)
theorem c_X8_print (l : Launch) (D : va_G) (ids : Nat → ClassId) (ad : Nat → Nat) (hA : adOk ad 12) {a1 : Int32} {h : Hp} {rv : Hp} (hf : f_X8_print h a1 = some rv) : Met l yX8_print (ws_ yX8_print cX8_print 3 none) rm_X8_print (va_Pc [.ref (ad 0), .int a1] (WB D ids (cEM ids ad) ad 12 ExM h)) (QW D (cEM ids ad) ad 12 none rv) 0 0 (inW ad 12) :=
  u_met (own := RX8) (by decide) rfl (Nat.le_of_ble_eq_true rfl) rfl (fun p e s m args below meth c H ls C hX hP hS hl => w_X8_print hA C hX _ _ _ _ _ hf hP hS hl)
theorem cv_X8_65 {p : Program} {l : Launch} {e : Env} {R : Room} {s : State} {m : MethodId} {args : Array Value} {below : List Frame} {meth : Method} {c : Code} {H : Heap} {locs : List Loc} {Q : State → Prop} {cc : ByteArray} {nL : Nat} {ret : Option FieldType} {pc : Nat} {ls : Array Slot} {rest : List Value} {D : va_G} {ids : Nat → ClassId} {ad : Nat → Nat} {h : Hp} (hA : adOk ad 12) (C : CX p s m args meth c cc nL ret RX8 D ids) (hX : ExM s s.heap) (hP : wp D (cEM ids ad) ad 12 h H) (hS : va_S (inW ad 12) s.heap H locs) {a1 : Int32} {rv : Hp} (hf : f_X8_print h a1 = some rv) (hR : 2 + 1 ≤ R.frames ∧ 8 + (3 + 11) + 45 ≤ R.locals) (hsz : ls.size = nL) (hcat : (rest.map fun v => v.category).sum ≤ 8) (hdg : decode cc pc = .ok (.invokevirtual 65, 3)) (kk : ∀ (H1 : Heap) (locs1 : List Loc), wp D (cEM ids ad) ad 12 rv H1 → va_S (inW ad 12) s.heap H1 locs1 → W p l e R s m args below meth c H1 locs1 0 0 Q (F0 m (pc + 3) ls (rest))) : W p l e R s m args below meth c H locs 0 0 Q (F0 m pc ls (.int a1 :: .ref (ad 0) :: rest)) :=
  u_callV (As := [.int a1]) (rv := none) C exM_ok hX (c_X8_print l D ids ad hA hf) q_429 q_430 q_431 q_5 q_432 ⟨rfl, rfl⟩ (by refine ⟨by decide +kernel, by decide +kernel, ?_⟩; show _ = some 1; decide +kernel) hR (by decide) (cE_X8 _) rfl hP hS hsz hcat rfl hdg kk
abbrev rm_X8_printAll : Room := { frames := 3, cells := 0, slots := 0, locals := 67 }
set_option maxRecDepth 100000 in
set_option maxHeartbeats 4000000 in
theorem w_X8_printAll_2 {p : Program} {l : Launch} {e : Env} {s : State} {m : MethodId} {args : Array Value} {below : List Frame} {meth : Method} {c : Code} {D : va_G} {ids : Nat → ClassId} {ad : Nat → Nat} {rv : Hp} (hA : adOk ad 12) (C : CX p s m args meth c cX8_printAll 2 none RX8 D ids) (hX : ExM s s.heap) : ∀ (fu : Nat), ∀ (h : Hp) (x1 : Int32) (H : Heap) (locs : List Loc) (ls : Array Slot), f_X8_printAll_2 fu h x1 = some rv → wp D (cEM ids ad) ad 12 h H → va_S (inW ad 12) s.heap H locs → lv_has ls 2 [(0, .ref (ad 0)), (1, .int x1)] → W p l e rm_X8_printAll s m args below meth c H locs 0 0 (MQ below (QW D (cEM ids ad) ad 12 none rv) args s 0 0 (inW ad 12)) (F0 m 2 ls []) := by
  intro fu
  induction fu with
  | zero =>
    intro h x1 H locs ls hf hP hS hl
    cases hf
  | succ fu ih =>
    intro h x1 H locs ls hf hP hS hl
    rw [f_X8_printAll_2_s] at hf
    refine lv_iload_n C.1 C.2.1 dX8_printAll_2 rfl (lv_at hl 1 rfl) ?_
    refine lv_iconst (v := (3 : Int32)) C.1 C.2.1 dX8_printAll_3 (by decide) ?_
    refine lv_icmp_ge (tgt := 18) C.1 C.2.1 dX8_printAll_4 (by decide) (fun hc => ?_) (fun hc => ?_)
    · have hf := g_t hc hf
      obtain rfl := Option.some.inj hf
      exact u_vret C hP hS dX8_printAll_18
    · have hf := g_f hc hf
      refine lv_aload_n C.1 C.2.1 dX8_printAll_7 rfl (lv_at hl 0 rfl) ?_
      refine lv_iload_n C.1 C.2.1 dX8_printAll_8 rfl (lv_at hl 1 rfl) ?_
      obtain ⟨q1, eq1, hf⟩ := g_b hf
      refine cv_X8_65 hA C hX hP hS eq1 ⟨Nat.le_of_ble_eq_true rfl, Nat.le_of_ble_eq_true rfl⟩ hl.1 (Nat.le_of_ble_eq_true rfl) dX8_printAll_9 (fun H locs hP hS => ?_)
      refine lv_iinc (v := (x1 + 1)) (lv' := [(1, .int (x1 + 1)), (0, .ref (ad 0))]) C.1 C.2.1 dX8_printAll_12 hl (k := 1) rfl (by rfl) (by decide) rfl (fun ls hl => ?_)
      refine lv_goto (tgt := 2) C.1 C.2.1 dX8_printAll_15 (by decide) ?_
      exact ih _ _ _ _ _ hf hP hS (lv_sub hl [1, 0] rfl)
set_option maxRecDepth 100000 in
set_option maxHeartbeats 4000000 in
theorem w_X8_printAll {p : Program} {l : Launch} {e : Env} {s : State} {m : MethodId} {args : Array Value} {below : List Frame} {meth : Method} {c : Code} {D : va_G} {ids : Nat → ClassId} {ad : Nat → Nat} {rv : Hp} (hA : adOk ad 12) (C : CX p s m args meth c cX8_printAll 2 none RX8 D ids) (hX : ExM s s.heap) : ∀ (h : Hp) (H : Heap) (locs : List Loc) (ls : Array Slot), f_X8_printAll h = some rv → wp D (cEM ids ad) ad 12 h H → va_S (inW ad 12) s.heap H locs → lv_has ls 2 [(0, .ref (ad 0))] → W p l e rm_X8_printAll s m args below meth c H locs 0 0 (MQ below (QW D (cEM ids ad) ad 12 none rv) args s 0 0 (inW ad 12)) (F0 m 0 ls []) := by
  intro h H locs ls hf hP hS hl
  unfold f_X8_printAll at hf
  refine lv_iconst (v := (0 : Int32)) C.1 C.2.1 dX8_printAll_0 (by decide) ?_
  refine lv_istore_n (lv' := [(1, .int (0 : Int32)), (0, .ref (ad 0))]) C.1 C.2.1 dX8_printAll_1 rfl hl (by decide) rfl (fun ls hl => ?_)
  exact w_X8_printAll_2 hA C hX _ _ _ _ _ _ hf hP hS (lv_sub hl [1, 0] rfl)
theorem c_X8_printAll (l : Launch) (D : va_G) (ids : Nat → ClassId) (ad : Nat → Nat) (hA : adOk ad 12) {h : Hp} {rv : Hp} (hf : f_X8_printAll h = some rv) : Met l yX8_printAll (ws_ yX8_printAll cX8_printAll 2 none) rm_X8_printAll (va_Pc [.ref (ad 0)] (WB D ids (cEM ids ad) ad 12 ExM h)) (QW D (cEM ids ad) ad 12 none rv) 0 0 (inW ad 12) :=
  u_met (own := RX8) (by decide) rfl (Nat.le_of_ble_eq_true rfl) rfl (fun p e s m args below meth c H ls C hX hP hS hl => w_X8_printAll hA C hX _ _ _ _ hf hP hS hl)
theorem al_m6 {p : Program} {l : Launch} {e : Env} {R : Room} {s : State} {m : MethodId} {args : Array Value} {below : List Frame} {meth : Method} {c : Code} {H : Heap} {locs : List Loc} {cells slots : Nat} {Q : State → Prop} {cc : ByteArray} {nL : Nat} {ret : Option FieldType} {own : String} {pc : Nat} {ls : Array Slot} {rest : List Value} {D : va_G} {ids : Nat → ClassId} {ad : Nat → Nat} {h : Hp} (C : CX p s m args meth c cc nL ret own D ids) (hP : wp D (cEM ids ad) ad 12 h H) {i : Int32} (hg : inb i 24 = true) (hdg : decode cc pc = .ok (.iaload, 1)) (kk : W p l e R s m args below meth c H locs cells slots Q (F0 m (pc + 1) ls (.int (h 6 i.toNatClampNeg) :: rest))) : W p l e R s m args below meth c H locs cells slots Q (F0 m pc ls (.int i :: .ref (ad 6) :: rest)) :=
  u_iald C hP (by decide) cE_m6 hg hdg kk
abbrev rm_X8_hourOf : Room := { frames := 0, cells := 0, slots := 0, locals := 0 }
set_option maxRecDepth 100000 in
set_option maxHeartbeats 4000000 in
theorem w_X8_hourOf {p : Program} {l : Launch} {e : Env} {s : State} {m : MethodId} {args : Array Value} {below : List Frame} {meth : Method} {c : Code} {D : va_G} {ids : Nat → ClassId} {ad : Nat → Nat} {rv : Int32 × Hp} (hA : adOk ad 12) (C : CX p s m args meth c cX8_hourOf 3 (some .int) RX8 D ids) (hX : ExM s s.heap) : ∀ (h : Hp) (a1 : Int32) (a2 : Int32) (H : Heap) (locs : List Loc) (ls : Array Slot), f_X8_hourOf h a1 a2 = some rv → wp D (cEM ids ad) ad 12 h H → va_S (inW ad 12) s.heap H locs → lv_has ls 3 [(0, .ref (ad 0)), (1, .int a1), (2, .int a2)] → W p l e rm_X8_hourOf s m args below meth c H locs 0 0 (MQ below (QW D (cEM ids ad) ad 12 (some (.int rv.1)) rv.2) args s 0 0 (inW ad 12)) (F0 m 0 ls []) := by
  intro h a1 a2 H locs ls hf hP hS hl
  unfold f_X8_hourOf at hf
  refine lv_aload_n C.1 C.2.1 dX8_hourOf_0 rfl (lv_at hl 0 rfl) ?_
  refine gf_X8_25 C hP dX8_hourOf_1 ?_
  refine lv_bipush (v := (8 : Int32)) C.1 C.2.1 dX8_hourOf_4 (by decide) ?_
  refine lv_iload_n C.1 C.2.1 dX8_hourOf_6 rfl (lv_at hl 1 rfl) ?_
  refine lv_imul C.1 C.2.1 dX8_hourOf_7 ?_
  refine lv_iload_n C.1 C.2.1 dX8_hourOf_8 rfl (lv_at hl 2 rfl) ?_
  refine lv_iadd C.1 C.2.1 dX8_hourOf_9 ?_
  obtain ⟨hg, hf⟩ := g_if hf
  refine al_m6 C hP hg dX8_hourOf_10 ?_
  obtain rfl := Option.some.inj hf
  exact u_iret C hP hS dX8_hourOf_11
theorem c_X8_hourOf (l : Launch) (D : va_G) (ids : Nat → ClassId) (ad : Nat → Nat) (hA : adOk ad 12) {a1 : Int32} {a2 : Int32} {h : Hp} {rv : Int32 × Hp} (hf : f_X8_hourOf h a1 a2 = some rv) : Met l yX8_hourOf (ws_ yX8_hourOf cX8_hourOf 3 (some .int)) rm_X8_hourOf (va_Pc [.ref (ad 0), .int a1, .int a2] (WB D ids (cEM ids ad) ad 12 ExM h)) (QW D (cEM ids ad) ad 12 (some (.int rv.1)) rv.2) 0 0 (inW ad 12) :=
  u_met (own := RX8) (by decide) rfl (Nat.le_of_ble_eq_true rfl) rfl (fun p e s m args below meth c H ls C hX hP hS hl => w_X8_hourOf hA C hX _ _ _ _ _ _ hf hP hS hl)
theorem gf_X8_34 {p : Program} {l : Launch} {e : Env} {R : Room} {s : State} {m : MethodId} {args : Array Value} {below : List Frame} {meth : Method} {c : Code} {H : Heap} {locs : List Loc} {cells slots : Nat} {Q : State → Prop} {cc : ByteArray} {nL : Nat} {ret : Option FieldType} {pc : Nat} {ls : Array Slot} {rest : List Value} {D : va_G} {ids : Nat → ClassId} {ad : Nat → Nat} {h : Hp} (C : CX p s m args meth c cc nL ret RX8 D ids) (hP : wp D (cEM ids ad) ad 12 h H) (hdg : decode cc pc = .ok (.getfield 34, 3)) (kk : W p l e R s m args below meth c H locs cells slots Q (F0 m (pc + 3) ls (.ref (ad 9) :: rest))) : W p l e R s m args below meth c H locs cells slots Q (F0 m pc ls (.ref (ad 0) :: rest)) :=
  u_get C hP (by decide) cE_X8 rfl inX8 8 (by decide) rfl q_122 hdg kk
theorem al_m9 {p : Program} {l : Launch} {e : Env} {R : Room} {s : State} {m : MethodId} {args : Array Value} {below : List Frame} {meth : Method} {c : Code} {H : Heap} {locs : List Loc} {cells slots : Nat} {Q : State → Prop} {cc : ByteArray} {nL : Nat} {ret : Option FieldType} {own : String} {pc : Nat} {ls : Array Slot} {rest : List Value} {D : va_G} {ids : Nat → ClassId} {ad : Nat → Nat} {h : Hp} (C : CX p s m args meth c cc nL ret own D ids) (hP : wp D (cEM ids ad) ad 12 h H) {i : Int32} (hg : inb i 3 = true) (hdg : decode cc pc = .ok (.iaload, 1)) (kk : W p l e R s m args below meth c H locs cells slots Q (F0 m (pc + 1) ls (.int (h 9 i.toNatClampNeg) :: rest))) : W p l e R s m args below meth c H locs cells slots Q (F0 m pc ls (.int i :: .ref (ad 9) :: rest)) :=
  u_iald C hP (by decide) cE_m9 hg hdg kk
theorem gf_X8_37 {p : Program} {l : Launch} {e : Env} {R : Room} {s : State} {m : MethodId} {args : Array Value} {below : List Frame} {meth : Method} {c : Code} {H : Heap} {locs : List Loc} {cells slots : Nat} {Q : State → Prop} {cc : ByteArray} {nL : Nat} {ret : Option FieldType} {pc : Nat} {ls : Array Slot} {rest : List Value} {D : va_G} {ids : Nat → ClassId} {ad : Nat → Nat} {h : Hp} (C : CX p s m args meth c cc nL ret RX8 D ids) (hP : wp D (cEM ids ad) ad 12 h H) (hdg : decode cc pc = .ok (.getfield 37, 3)) (kk : W p l e R s m args below meth c H locs cells slots Q (F0 m (pc + 3) ls (.ref (ad 10) :: rest))) : W p l e R s m args below meth c H locs cells slots Q (F0 m pc ls (.ref (ad 0) :: rest)) :=
  u_get C hP (by decide) cE_X8 rfl inX8 9 (by decide) rfl q_123 hdg kk
theorem al_m10 {p : Program} {l : Launch} {e : Env} {R : Room} {s : State} {m : MethodId} {args : Array Value} {below : List Frame} {meth : Method} {c : Code} {H : Heap} {locs : List Loc} {cells slots : Nat} {Q : State → Prop} {cc : ByteArray} {nL : Nat} {ret : Option FieldType} {own : String} {pc : Nat} {ls : Array Slot} {rest : List Value} {D : va_G} {ids : Nat → ClassId} {ad : Nat → Nat} {h : Hp} (C : CX p s m args meth c cc nL ret own D ids) (hP : wp D (cEM ids ad) ad 12 h H) {i : Int32} (hg : inb i 3 = true) (hdg : decode cc pc = .ok (.iaload, 1)) (kk : W p l e R s m args below meth c H locs cells slots Q (F0 m (pc + 1) ls (.int (h 10 i.toNatClampNeg) :: rest))) : W p l e R s m args below meth c H locs cells slots Q (F0 m pc ls (.int i :: .ref (ad 10) :: rest)) :=
  u_iald C hP (by decide) cE_m10 hg hdg kk
theorem cv_X8_69 {p : Program} {l : Launch} {e : Env} {R : Room} {s : State} {m : MethodId} {args : Array Value} {below : List Frame} {meth : Method} {c : Code} {H : Heap} {locs : List Loc} {Q : State → Prop} {cc : ByteArray} {nL : Nat} {ret : Option FieldType} {pc : Nat} {ls : Array Slot} {rest : List Value} {D : va_G} {ids : Nat → ClassId} {ad : Nat → Nat} {h : Hp} (hA : adOk ad 12) (C : CX p s m args meth c cc nL ret RX8 D ids) (hX : ExM s s.heap) (hP : wp D (cEM ids ad) ad 12 h H) (hS : va_S (inW ad 12) s.heap H locs) {a1 : Int32} {a2 : Int32} {rv : Int32 × Hp} (hf : f_X8_hourOf h a1 a2 = some rv) (hR : 0 + 1 ≤ R.frames ∧ 8 + (3 + 11) + 0 ≤ R.locals) (hsz : ls.size = nL) (hcat : (rest.map fun v => v.category).sum ≤ 8) (hdg : decode cc pc = .ok (.invokevirtual 69, 3)) (kk : ∀ (H1 : Heap) (locs1 : List Loc), wp D (cEM ids ad) ad 12 rv.2 H1 → va_S (inW ad 12) s.heap H1 locs1 → W p l e R s m args below meth c H1 locs1 0 0 Q (F0 m (pc + 3) ls (.int rv.1 :: rest))) : W p l e R s m args below meth c H locs 0 0 Q (F0 m pc ls (.int a2 :: .int a1 :: .ref (ad 0) :: rest)) :=
  u_callV (As := [.int a1, .int a2]) (rv := (some (.int rv.1))) C exM_ok hX (c_X8_hourOf l D ids ad hA hf) q_448 q_449 q_450 q_5 q_451 ⟨rfl, rfl⟩ (by refine ⟨by decide +kernel, by decide +kernel, ?_⟩; show _ = some 2; decide +kernel) hR (by decide) (cE_X8 _) rfl hP hS hsz hcat rfl hdg kk
abbrev rm_X8_wants : Room := { frames := 1, cells := 0, slots := 0, locals := 22 }
set_option maxRecDepth 100000 in
set_option maxHeartbeats 4000000 in
theorem w_X8_wants {p : Program} {l : Launch} {e : Env} {s : State} {m : MethodId} {args : Array Value} {below : List Frame} {meth : Method} {c : Code} {D : va_G} {ids : Nat → ClassId} {ad : Nat → Nat} {rv : Int32 × Hp} (hA : adOk ad 12) (C : CX p s m args meth c cX8_wants 3 (some .boolean) RX8 D ids) (hX : ExM s s.heap) : ∀ (h : Hp) (a1 : Int32) (a2 : Int32) (H : Heap) (locs : List Loc) (ls : Array Slot), f_X8_wants h a1 a2 = some rv → wp D (cEM ids ad) ad 12 h H → va_S (inW ad 12) s.heap H locs → lv_has ls 3 [(0, .ref (ad 0)), (1, .int a1), (2, .int a2)] → W p l e rm_X8_wants s m args below meth c H locs 0 0 (MQ below (QW D (cEM ids ad) ad 12 (some (.int rv.1)) rv.2) args s 0 0 (inW ad 12)) (F0 m 0 ls []) := by
  intro h a1 a2 H locs ls hf hP hS hl
  unfold f_X8_wants at hf
  refine lv_aload_n C.1 C.2.1 dX8_wants_0 rfl (lv_at hl 0 rfl) ?_
  refine gf_X8_34 C hP dX8_wants_1 ?_
  refine lv_iload_n C.1 C.2.1 dX8_wants_4 rfl (lv_at hl 1 rfl) ?_
  obtain ⟨hg, hf⟩ := g_if hf
  refine al_m9 C hP hg dX8_wants_5 ?_
  refine lv_iload_n C.1 C.2.1 dX8_wants_6 rfl (lv_at hl 2 rfl) ?_
  refine lv_icmp_gt (tgt := 52) C.1 C.2.1 dX8_wants_7 (by decide) (fun hc => ?_) (fun hc => ?_)
  · have hf := g_t hc hf
    refine lv_iconst (v := (0 : Int32)) C.1 C.2.1 dX8_wants_52 (by decide) ?_
    obtain rfl := Option.some.inj hf
    exact u_zret C hP hS isb_0 dX8_wants_53
  · have hf := g_f hc hf
    refine lv_aload_n C.1 C.2.1 dX8_wants_10 rfl (lv_at hl 0 rfl) ?_
    refine gf_X8_37 C hP dX8_wants_11 ?_
    refine lv_iload_n C.1 C.2.1 dX8_wants_14 rfl (lv_at hl 1 rfl) ?_
    obtain ⟨hg, hf⟩ := g_if hf
    refine al_m10 C hP hg dX8_wants_15 ?_
    refine lv_aload_n C.1 C.2.1 dX8_wants_16 rfl (lv_at hl 0 rfl) ?_
    refine gf_X8_28 C hP dX8_wants_17 ?_
    refine lv_iload_n C.1 C.2.1 dX8_wants_20 rfl (lv_at hl 1 rfl) ?_
    obtain ⟨hg, hf⟩ := g_if hf
    refine al_m7 C hP hg dX8_wants_21 ?_
    refine lv_icmp_ge (tgt := 52) C.1 C.2.1 dX8_wants_22 (by decide) (fun hc => ?_) (fun hc => ?_)
    · have hf := g_t hc hf
      refine lv_iconst (v := (0 : Int32)) C.1 C.2.1 dX8_wants_52 (by decide) ?_
      obtain rfl := Option.some.inj hf
      exact u_zret C hP hS isb_0 dX8_wants_53
    · have hf := g_f hc hf
      refine lv_aload_n C.1 C.2.1 dX8_wants_25 rfl (lv_at hl 0 rfl) ?_
      refine lv_iload_n C.1 C.2.1 dX8_wants_26 rfl (lv_at hl 1 rfl) ?_
      refine lv_aload_n C.1 C.2.1 dX8_wants_27 rfl (lv_at hl 0 rfl) ?_
      refine gf_X8_37 C hP dX8_wants_28 ?_
      refine lv_iload_n C.1 C.2.1 dX8_wants_31 rfl (lv_at hl 1 rfl) ?_
      obtain ⟨hg, hf⟩ := g_if hf
      refine al_m10 C hP hg dX8_wants_32 ?_
      obtain ⟨q1, eq1, hf⟩ := g_b hf
      refine cv_X8_69 hA C hX hP hS eq1 ⟨Nat.le_of_ble_eq_true rfl, Nat.le_of_ble_eq_true rfl⟩ hl.1 (Nat.le_of_ble_eq_true rfl) dX8_wants_33 (fun H locs hP hS => ?_)
      refine lv_iload_n C.1 C.2.1 dX8_wants_36 rfl (lv_at hl 2 rfl) ?_
      refine lv_icmp_gt (tgt := 52) C.1 C.2.1 dX8_wants_37 (by decide) (fun hc => ?_) (fun hc => ?_)
      · have hf := g_t hc hf
        refine lv_iconst (v := (0 : Int32)) C.1 C.2.1 dX8_wants_52 (by decide) ?_
        obtain rfl := Option.some.inj hf
        exact u_zret C hP hS isb_0 dX8_wants_53
      · have hf := g_f hc hf
        refine lv_iload_n C.1 C.2.1 dX8_wants_40 rfl (lv_at hl 2 rfl) ?_
        refine lv_iconst (v := (2 : Int32)) C.1 C.2.1 dX8_wants_41 (by decide) ?_
        refine lv_iadd C.1 C.2.1 dX8_wants_42 ?_
        refine lv_bipush (v := (23 : Int32)) C.1 C.2.1 dX8_wants_43 (by decide) ?_
        refine lv_icmp_gt (tgt := 52) C.1 C.2.1 dX8_wants_45 (by decide) (fun hc => ?_) (fun hc => ?_)
        · have hf := g_t hc hf
          refine lv_iconst (v := (0 : Int32)) C.1 C.2.1 dX8_wants_52 (by decide) ?_
          obtain rfl := Option.some.inj hf
          exact u_zret C hP hS isb_0 dX8_wants_53
        · have hf := g_f hc hf
          refine lv_iconst (v := (1 : Int32)) C.1 C.2.1 dX8_wants_48 (by decide) ?_
          refine lv_goto (tgt := 53) C.1 C.2.1 dX8_wants_49 (by decide) ?_
          obtain rfl := Option.some.inj hf
          exact u_zret C hP hS isb_1 dX8_wants_53
theorem c_X8_wants (l : Launch) (D : va_G) (ids : Nat → ClassId) (ad : Nat → Nat) (hA : adOk ad 12) {a1 : Int32} {a2 : Int32} {h : Hp} {rv : Int32 × Hp} (hf : f_X8_wants h a1 a2 = some rv) : Met l yX8_wants (ws_ yX8_wants cX8_wants 3 (some .boolean)) rm_X8_wants (va_Pc [.ref (ad 0), .int a1, .int a2] (WB D ids (cEM ids ad) ad 12 ExM h)) (QW D (cEM ids ad) ad 12 (some (.int rv.1)) rv.2) 0 0 (inW ad 12) :=
  u_met (own := RX8) (by decide) rfl (Nat.le_of_ble_eq_true rfl) rfl (fun p e s m args below meth c H ls C hX hP hS hl => w_X8_wants hA C hX _ _ _ _ _ _ hf hP hS hl)
abbrev rm_X8_more : Room := { frames := 1, cells := 0, slots := 0, locals := 23 }
set_option maxRecDepth 100000 in
set_option maxHeartbeats 4000000 in
theorem w_X8_more {p : Program} {l : Launch} {e : Env} {s : State} {m : MethodId} {args : Array Value} {below : List Frame} {meth : Method} {c : Code} {D : va_G} {ids : Nat → ClassId} {ad : Nat → Nat} {rv : Hp} (hA : adOk ad 12) (C : CX p s m args meth c cX8_more 4 none RX8 D ids) (hX : ExM s s.heap) : ∀ (h : Hp) (a1 : Int32) (a2 : Int32) (a3 : Int32) (H : Heap) (locs : List Loc) (ls : Array Slot), f_X8_more h a1 a2 a3 = some rv → wp D (cEM ids ad) ad 12 h H → va_S (inW ad 12) s.heap H locs → lv_has ls 4 [(0, .ref (ad 0)), (1, .int a1), (2, .int a2), (3, .int a3)] → W p l e rm_X8_more s m args below meth c H locs 0 0 (MQ below (QW D (cEM ids ad) ad 12 none rv) args s 0 0 (inW ad 12)) (F0 m 0 ls []) := by
  intro h a1 a2 a3 H locs ls hf hP hS hl
  unfold f_X8_more at hf
  refine lv_aload_n C.1 C.2.1 dX8_more_0 rfl (lv_at hl 0 rfl) ?_
  refine lv_iload_n C.1 C.2.1 dX8_more_1 rfl (lv_at hl 1 rfl) ?_
  refine lv_iload_n C.1 C.2.1 dX8_more_2 rfl (lv_at hl 2 rfl) ?_
  refine lv_aload_n C.1 C.2.1 dX8_more_3 rfl (lv_at hl 0 rfl) ?_
  refine lv_iload_n C.1 C.2.1 dX8_more_4 rfl (lv_at hl 1 rfl) ?_
  refine lv_iload_n C.1 C.2.1 dX8_more_5 rfl (lv_at hl 2 rfl) ?_
  obtain ⟨q1, eq1, hf⟩ := g_b hf
  refine cv_X8_55 hA C hX hP hS eq1 ⟨Nat.le_of_ble_eq_true rfl, Nat.le_of_ble_eq_true rfl⟩ hl.1 (Nat.le_of_ble_eq_true rfl) dX8_more_6 (fun H locs hP hS => ?_)
  refine lv_iload_n C.1 C.2.1 dX8_more_9 rfl (lv_at hl 3 rfl) ?_
  refine lv_iadd C.1 C.2.1 dX8_more_10 ?_
  obtain ⟨q2, eq2, hf⟩ := g_b hf
  refine cv_X8_43 hA C hX hP hS eq2 ⟨Nat.le_of_ble_eq_true rfl, Nat.le_of_ble_eq_true rfl⟩ hl.1 (Nat.le_of_ble_eq_true rfl) dX8_more_11 (fun H locs hP hS => ?_)
  obtain rfl := Option.some.inj hf
  exact u_vret C hP hS dX8_more_14
theorem c_X8_more (l : Launch) (D : va_G) (ids : Nat → ClassId) (ad : Nat → Nat) (hA : adOk ad 12) {a1 : Int32} {a2 : Int32} {a3 : Int32} {h : Hp} {rv : Hp} (hf : f_X8_more h a1 a2 a3 = some rv) : Met l yX8_more (ws_ yX8_more cX8_more 4 none) rm_X8_more (va_Pc [.ref (ad 0), .int a1, .int a2, .int a3] (WB D ids (cEM ids ad) ad 12 ExM h)) (QW D (cEM ids ad) ad 12 none rv) 0 0 (inW ad 12) :=
  u_met (own := RX8) (by decide) rfl (Nat.le_of_ble_eq_true rfl) rfl (fun p e s m args below meth c H ls C hX hP hS hl => w_X8_more hA C hX _ _ _ _ _ _ _ hf hP hS hl)
theorem gf_X8_31 {p : Program} {l : Launch} {e : Env} {R : Room} {s : State} {m : MethodId} {args : Array Value} {below : List Frame} {meth : Method} {c : Code} {H : Heap} {locs : List Loc} {cells slots : Nat} {Q : State → Prop} {cc : ByteArray} {nL : Nat} {ret : Option FieldType} {pc : Nat} {ls : Array Slot} {rest : List Value} {D : va_G} {ids : Nat → ClassId} {ad : Nat → Nat} {h : Hp} (C : CX p s m args meth c cc nL ret RX8 D ids) (hP : wp D (cEM ids ad) ad 12 h H) (hdg : decode cc pc = .ok (.getfield 31, 3)) (kk : W p l e R s m args below meth c H locs cells slots Q (F0 m (pc + 3) ls (.ref (ad 8) :: rest))) : W p l e R s m args below meth c H locs cells slots Q (F0 m pc ls (.ref (ad 0) :: rest)) :=
  u_get C hP (by decide) cE_X8 rfl inX8 7 (by decide) rfl q_121 hdg kk
theorem al_m8 {p : Program} {l : Launch} {e : Env} {R : Room} {s : State} {m : MethodId} {args : Array Value} {below : List Frame} {meth : Method} {c : Code} {H : Heap} {locs : List Loc} {cells slots : Nat} {Q : State → Prop} {cc : ByteArray} {nL : Nat} {ret : Option FieldType} {own : String} {pc : Nat} {ls : Array Slot} {rest : List Value} {D : va_G} {ids : Nat → ClassId} {ad : Nat → Nat} {h : Hp} (C : CX p s m args meth c cc nL ret own D ids) (hP : wp D (cEM ids ad) ad 12 h H) {i : Int32} (hg : inb i 3 = true) (hdg : decode cc pc = .ok (.iaload, 1)) (kk : W p l e R s m args below meth c H locs cells slots Q (F0 m (pc + 1) ls (.int (h 8 i.toNatClampNeg) :: rest))) : W p l e R s m args below meth c H locs cells slots Q (F0 m pc ls (.int i :: .ref (ad 8) :: rest)) :=
  u_iald C hP (by decide) cE_m8 hg hdg kk
abbrev rm_X8_isThere : Room := { frames := 0, cells := 0, slots := 0, locals := 0 }
set_option maxRecDepth 100000 in
set_option maxHeartbeats 4000000 in
theorem w_X8_isThere {p : Program} {l : Launch} {e : Env} {s : State} {m : MethodId} {args : Array Value} {below : List Frame} {meth : Method} {c : Code} {D : va_G} {ids : Nat → ClassId} {ad : Nat → Nat} {rv : Int32 × Hp} (hA : adOk ad 12) (C : CX p s m args meth c cX8_isThere 4 (some .boolean) RX8 D ids) (hX : ExM s s.heap) : ∀ (h : Hp) (a1 : Int32) (a2 : Int32) (a3 : Int32) (H : Heap) (locs : List Loc) (ls : Array Slot), f_X8_isThere h a1 a2 a3 = some rv → wp D (cEM ids ad) ad 12 h H → va_S (inW ad 12) s.heap H locs → lv_has ls 4 [(0, .ref (ad 0)), (1, .int a1), (2, .int a2), (3, .int a3)] → W p l e rm_X8_isThere s m args below meth c H locs 0 0 (MQ below (QW D (cEM ids ad) ad 12 (some (.int rv.1)) rv.2) args s 0 0 (inW ad 12)) (F0 m 0 ls []) := by
  intro h a1 a2 a3 H locs ls hf hP hS hl
  unfold f_X8_isThere at hf
  refine lv_aload_n C.1 C.2.1 dX8_isThere_0 rfl (lv_at hl 0 rfl) ?_
  refine gf_X8_31 C hP dX8_isThere_1 ?_
  refine lv_iload_n C.1 C.2.1 dX8_isThere_4 rfl (lv_at hl 1 rfl) ?_
  obtain ⟨hg, hf⟩ := g_if hf
  refine al_m8 C hP hg dX8_isThere_5 ?_
  refine lv_iload_n C.1 C.2.1 dX8_isThere_6 rfl (lv_at hl 2 rfl) ?_
  refine lv_icmp_ne (tgt := 24) C.1 C.2.1 dX8_isThere_7 (by decide) (fun hc => ?_) (fun hc => ?_)
  · have hf := g_f hc hf
    refine lv_iconst (v := (0 : Int32)) C.1 C.2.1 dX8_isThere_24 (by decide) ?_
    obtain rfl := Option.some.inj hf
    exact u_zret C hP hS isb_0 dX8_isThere_25
  · have hf := g_t hc hf
    refine lv_aload_n C.1 C.2.1 dX8_isThere_10 rfl (lv_at hl 0 rfl) ?_
    refine gf_X8_34 C hP dX8_isThere_11 ?_
    refine lv_iload_n C.1 C.2.1 dX8_isThere_14 rfl (lv_at hl 1 rfl) ?_
    obtain ⟨hg, hf⟩ := g_if hf
    refine al_m9 C hP hg dX8_isThere_15 ?_
    refine lv_iload_n C.1 C.2.1 dX8_isThere_16 rfl (lv_at hl 3 rfl) ?_
    refine lv_icmp_gt (tgt := 24) C.1 C.2.1 dX8_isThere_17 (by decide) (fun hc => ?_) (fun hc => ?_)
    · have hf := g_t hc hf
      refine lv_iconst (v := (0 : Int32)) C.1 C.2.1 dX8_isThere_24 (by decide) ?_
      obtain rfl := Option.some.inj hf
      exact u_zret C hP hS isb_0 dX8_isThere_25
    · have hf := g_f hc hf
      refine lv_iconst (v := (1 : Int32)) C.1 C.2.1 dX8_isThere_20 (by decide) ?_
      refine lv_goto (tgt := 25) C.1 C.2.1 dX8_isThere_21 (by decide) ?_
      obtain rfl := Option.some.inj hf
      exact u_zret C hP hS isb_1 dX8_isThere_25
theorem c_X8_isThere (l : Launch) (D : va_G) (ids : Nat → ClassId) (ad : Nat → Nat) (hA : adOk ad 12) {a1 : Int32} {a2 : Int32} {a3 : Int32} {h : Hp} {rv : Int32 × Hp} (hf : f_X8_isThere h a1 a2 a3 = some rv) : Met l yX8_isThere (ws_ yX8_isThere cX8_isThere 4 (some .boolean)) rm_X8_isThere (va_Pc [.ref (ad 0), .int a1, .int a2, .int a3] (WB D ids (cEM ids ad) ad 12 ExM h)) (QW D (cEM ids ad) ad 12 (some (.int rv.1)) rv.2) 0 0 (inW ad 12) :=
  u_met (own := RX8) (by decide) rfl (Nat.le_of_ble_eq_true rfl) rfl (fun p e s m args below meth c H ls C hX hP hS hl => w_X8_isThere hA C hX _ _ _ _ _ _ _ hf hP hS hl)
abbrev rm_X8_bits : Room := { frames := 0, cells := 0, slots := 0, locals := 0 }
set_option maxRecDepth 100000 in
set_option maxHeartbeats 4000000 in
theorem w_X8_bits {p : Program} {l : Launch} {e : Env} {s : State} {m : MethodId} {args : Array Value} {below : List Frame} {meth : Method} {c : Code} {D : va_G} {ids : Nat → ClassId} {ad : Nat → Nat} {rv : Int32 × Hp} (hA : adOk ad 12) (C : CX p s m args meth c cX8_bits 1 (some .int) RX8 D ids) (hX : ExM s s.heap) : ∀ (h : Hp) (a1 : Int32) (H : Heap) (locs : List Loc) (ls : Array Slot), f_X8_bits h a1 = some rv → wp D (cEM ids ad) ad 12 h H → va_S (inW ad 12) s.heap H locs → lv_has ls 1 [(0, .int a1)] → W p l e rm_X8_bits s m args below meth c H locs 0 0 (MQ below (QW D (cEM ids ad) ad 12 (some (.int rv.1)) rv.2) args s 0 0 (inW ad 12)) (F0 m 0 ls []) := by
  intro h a1 H locs ls hf hP hS hl
  unfold f_X8_bits at hf
  refine lv_iload_n C.1 C.2.1 dX8_bits_0 rfl (lv_at hl 0 rfl) ?_
  refine lv_iconst (v := (1 : Int32)) C.1 C.2.1 dX8_bits_1 (by decide) ?_
  refine lv_iand C.1 C.2.1 dX8_bits_2 ?_
  refine lv_iload_n C.1 C.2.1 dX8_bits_3 rfl (lv_at hl 0 rfl) ?_
  refine lv_iconst (v := (1 : Int32)) C.1 C.2.1 dX8_bits_4 (by decide) ?_
  refine lv_ishr C.1 C.2.1 dX8_bits_5 ?_
  refine lv_iconst (v := (1 : Int32)) C.1 C.2.1 dX8_bits_6 (by decide) ?_
  refine lv_iand C.1 C.2.1 dX8_bits_7 ?_
  refine lv_iadd C.1 C.2.1 dX8_bits_8 ?_
  refine lv_iload_n C.1 C.2.1 dX8_bits_9 rfl (lv_at hl 0 rfl) ?_
  refine lv_iconst (v := (2 : Int32)) C.1 C.2.1 dX8_bits_10 (by decide) ?_
  refine lv_ishr C.1 C.2.1 dX8_bits_11 ?_
  refine lv_iconst (v := (1 : Int32)) C.1 C.2.1 dX8_bits_12 (by decide) ?_
  refine lv_iand C.1 C.2.1 dX8_bits_13 ?_
  refine lv_iadd C.1 C.2.1 dX8_bits_14 ?_
  obtain rfl := Option.some.inj hf
  exact u_iret C hP hS dX8_bits_15
theorem c_X8_bits (l : Launch) (D : va_G) (ids : Nat → ClassId) (ad : Nat → Nat) (hA : adOk ad 12) {a1 : Int32} {h : Hp} {rv : Int32 × Hp} (hf : f_X8_bits h a1 = some rv) : Met l yX8_bits (ws_ yX8_bits cX8_bits 1 (some .int)) rm_X8_bits (va_Pc [.int a1] (WB D ids (cEM ids ad) ad 12 ExM h)) (QW D (cEM ids ad) ad 12 (some (.int rv.1)) rv.2) 0 0 (inW ad 12) :=
  u_met (own := RX8) (by decide) rfl (Nat.le_of_ble_eq_true rfl) rfl (fun p e s m args below meth c H ls C hX hP hS hl => w_X8_bits hA C hX _ _ _ _ _ hf hP hS hl)
theorem cv_X8_81 {p : Program} {l : Launch} {e : Env} {R : Room} {s : State} {m : MethodId} {args : Array Value} {below : List Frame} {meth : Method} {c : Code} {H : Heap} {locs : List Loc} {Q : State → Prop} {cc : ByteArray} {nL : Nat} {ret : Option FieldType} {pc : Nat} {ls : Array Slot} {rest : List Value} {D : va_G} {ids : Nat → ClassId} {ad : Nat → Nat} {h : Hp} (hA : adOk ad 12) (C : CX p s m args meth c cc nL ret RX8 D ids) (hX : ExM s s.heap) (hP : wp D (cEM ids ad) ad 12 h H) (hS : va_S (inW ad 12) s.heap H locs) {a1 : Int32} {rv : Int32 × Hp} (hf : f_X8_bits h a1 = some rv) (hR : 0 + 1 ≤ R.frames ∧ 8 + (1 + 11) + 0 ≤ R.locals) (hsz : ls.size = nL) (hcat : (rest.map fun v => v.category).sum ≤ 8) (hdg : decode cc pc = .ok (.invokestatic 81, 3)) (kk : ∀ (H1 : Heap) (locs1 : List Loc), wp D (cEM ids ad) ad 12 rv.2 H1 → va_S (inW ad 12) s.heap H1 locs1 → W p l e R s m args below meth c H1 locs1 0 0 Q (F0 m (pc + 3) ls (.int rv.1 :: rest))) : W p l e R s m args below meth c H locs 0 0 Q (F0 m pc ls (.int a1 :: rest)) :=
  u_callS (As := [.int a1]) (rv := (some (.int rv.1))) C exM_ok hX (c_X8_bits l D ids ad hA hf) q_464 q_465 q_5 q_466 ⟨rfl, rfl⟩ (by refine ⟨by decide +kernel, by decide +kernel, ?_⟩; show _ = some 1; decide +kernel) hR hP hS hsz hcat rfl hdg kk
abbrev rm_X8_draw : Room := { frames := 1, cells := 0, slots := 0, locals := 20 }
set_option maxRecDepth 100000 in
set_option maxHeartbeats 4000000 in
theorem w_X8_draw_57 {p : Program} {l : Launch} {e : Env} {s : State} {m : MethodId} {args : Array Value} {below : List Frame} {meth : Method} {c : Code} {D : va_G} {ids : Nat → ClassId} {ad : Nat → Nat} {rv : Int32 × Hp} (hA : adOk ad 12) (C : CX p s m args meth c cX8_draw 4 (some .int) RX8 D ids) (hX : ExM s s.heap) {K45 : Hp → Int32 → Int32 → Int32 → Option (Int32 × Hp)} (hK45 : ∀ (h : Hp) (x1 : Int32) (x2 : Int32) (x3 : Int32) (H : Heap) (locs : List Loc) (ls : Array Slot), K45 h x1 x2 x3 = some rv → wp D (cEM ids ad) ad 12 h H → va_S (inW ad 12) s.heap H locs → lv_has ls 4 [(1, .int x1), (2, .int x2), (3, .int x3)] → W p l e rm_X8_draw s m args below meth c H locs 0 0 (MQ below (QW D (cEM ids ad) ad 12 (some (.int rv.1)) rv.2) args s 0 0 (inW ad 12)) (F0 m 45 ls [])) : ∀ (h : Hp) (x1 : Int32) (x2 : Int32) (x3 : Int32) (H : Heap) (locs : List Loc) (ls : Array Slot), f_X8_draw_57 K45 h x1 x2 x3 = some rv → wp D (cEM ids ad) ad 12 h H → va_S (inW ad 12) s.heap H locs → lv_has ls 4 [(1, .int x1), (2, .int x2), (3, .int x3)] → W p l e rm_X8_draw s m args below meth c H locs 0 0 (MQ below (QW D (cEM ids ad) ad 12 (some (.int rv.1)) rv.2) args s 0 0 (inW ad 12)) (F0 m 57 ls []) := by
  intro h x1 x2 x3 H locs ls hf hP hS hl
  unfold f_X8_draw_57 at hf
  refine lv_iload_n C.1 C.2.1 dX8_draw_57 rfl (lv_at hl 1 rfl) ?_
  refine lv_iload_n C.1 C.2.1 dX8_draw_58 rfl (lv_at hl 0 rfl) ?_
  refine lv_iload_n C.1 C.2.1 dX8_draw_59 rfl (lv_at hl 2 rfl) ?_
  refine lv_ishr C.1 C.2.1 dX8_draw_60 ?_
  refine lv_iconst (v := (1 : Int32)) C.1 C.2.1 dX8_draw_61 (by decide) ?_
  refine lv_iand C.1 C.2.1 dX8_draw_62 ?_
  refine lv_isub C.1 C.2.1 dX8_draw_63 ?_
  refine lv_istore_n (lv' := [(2, .int (x2 - ((x1 >>> (x3 &&& 31)) &&& (1 : Int32)))), (1, .int x1), (3, .int x3)]) C.1 C.2.1 dX8_draw_64 rfl hl (by decide) rfl (fun ls hl => ?_)
  refine lv_iinc (v := (x3 + 1)) (lv' := [(3, .int (x3 + 1)), (2, .int (x2 - ((x1 >>> (x3 &&& 31)) &&& (1 : Int32)))), (1, .int x1)]) C.1 C.2.1 dX8_draw_65 hl (k := 2) rfl (by rfl) (by decide) rfl (fun ls hl => ?_)
  refine lv_goto (tgt := 45) C.1 C.2.1 dX8_draw_68 (by decide) ?_
  exact hK45 _ _ _ _ _ _ _ hf hP hS (lv_sub hl [2, 1, 0] rfl)
set_option maxRecDepth 100000 in
set_option maxHeartbeats 4000000 in
theorem w_X8_draw_45 {p : Program} {l : Launch} {e : Env} {s : State} {m : MethodId} {args : Array Value} {below : List Frame} {meth : Method} {c : Code} {D : va_G} {ids : Nat → ClassId} {ad : Nat → Nat} {rv : Int32 × Hp} (hA : adOk ad 12) (C : CX p s m args meth c cX8_draw 4 (some .int) RX8 D ids) (hX : ExM s s.heap) : ∀ (fu : Nat), ∀ (h : Hp) (x1 : Int32) (x2 : Int32) (x3 : Int32) (H : Heap) (locs : List Loc) (ls : Array Slot), f_X8_draw_45 fu h x1 x2 x3 = some rv → wp D (cEM ids ad) ad 12 h H → va_S (inW ad 12) s.heap H locs → lv_has ls 4 [(1, .int x1), (2, .int x2), (3, .int x3)] → W p l e rm_X8_draw s m args below meth c H locs 0 0 (MQ below (QW D (cEM ids ad) ad 12 (some (.int rv.1)) rv.2) args s 0 0 (inW ad 12)) (F0 m 45 ls []) := by
  intro fu
  induction fu with
  | zero =>
    intro h x1 x2 x3 H locs ls hf hP hS hl
    cases hf
  | succ fu ih =>
    intro h x1 x2 x3 H locs ls hf hP hS hl
    rw [f_X8_draw_45_s] at hf
    refine lv_iload_n C.1 C.2.1 dX8_draw_45 rfl (lv_at hl 0 rfl) ?_
    refine lv_iload_n C.1 C.2.1 dX8_draw_46 rfl (lv_at hl 2 rfl) ?_
    refine lv_ishr C.1 C.2.1 dX8_draw_47 ?_
    refine lv_iconst (v := (1 : Int32)) C.1 C.2.1 dX8_draw_48 (by decide) ?_
    refine lv_iand C.1 C.2.1 dX8_draw_49 ?_
    refine lv_if_eq (tgt := 57) C.1 C.2.1 dX8_draw_50 (by decide) (fun hc => ?_) (fun hc => ?_)
    · have hf := g_t hc hf
      exact w_X8_draw_57 hA C hX ih _ _ _ _ _ _ _ hf hP hS (lv_sub hl [0, 1, 2] rfl)
    · have hf := g_f hc hf
      refine lv_iload_n C.1 C.2.1 dX8_draw_53 rfl (lv_at hl 1 rfl) ?_
      refine lv_if_le (tgt := 71) C.1 C.2.1 dX8_draw_54 (by decide) (fun hc => ?_) (fun hc => ?_)
      · have hf := g_t hc hf
        refine lv_iload_n C.1 C.2.1 dX8_draw_71 rfl (lv_at hl 2 rfl) ?_
        obtain rfl := Option.some.inj hf
        exact u_iret C hP hS dX8_draw_72
      · have hf := g_f hc hf
        exact w_X8_draw_57 hA C hX ih _ _ _ _ _ _ _ hf hP hS (lv_sub hl [0, 1, 2] rfl)
set_option maxRecDepth 100000 in
set_option maxHeartbeats 4000000 in
theorem w_X8_draw_31 {p : Program} {l : Launch} {e : Env} {s : State} {m : MethodId} {args : Array Value} {below : List Frame} {meth : Method} {c : Code} {D : va_G} {ids : Nat → ClassId} {ad : Nat → Nat} {rv : Int32 × Hp} (hA : adOk ad 12) (C : CX p s m args meth c cX8_draw 4 (some .int) RX8 D ids) (hX : ExM s s.heap) : ∀ (h : Hp) (x1 : Int32) (H : Heap) (locs : List Loc) (ls : Array Slot), f_X8_draw_31 h x1 = some rv → wp D (cEM ids ad) ad 12 h H → va_S (inW ad 12) s.heap H locs → lv_has ls 4 [(0, .ref (ad 0)), (1, .int x1)] → W p l e rm_X8_draw s m args below meth c H locs 0 0 (MQ below (QW D (cEM ids ad) ad 12 (some (.int rv.1)) rv.2) args s 0 0 (inW ad 12)) (F0 m 31 ls []) := by
  intro h x1 H locs ls hf hP hS hl
  unfold f_X8_draw_31 at hf
  refine lv_aload_n C.1 C.2.1 dX8_draw_31 rfl (lv_at hl 0 rfl) ?_
  refine gf_X8_7 C hP dX8_draw_32 ?_
  refine lv_iconst (v := (2 : Int32)) C.1 C.2.1 dX8_draw_35 (by decide) ?_
  obtain ⟨hg, hf⟩ := g_if hf
  refine al_m1 C hP hg dX8_draw_36 ?_
  refine lv_iload_n C.1 C.2.1 dX8_draw_37 rfl (lv_at hl 1 rfl) ?_
  obtain ⟨q1, eq1, hf⟩ := g_b hf
  refine cv_X8_81 hA C hX hP hS eq1 ⟨Nat.le_of_ble_eq_true rfl, Nat.le_of_ble_eq_true rfl⟩ hl.1 (Nat.le_of_ble_eq_true rfl) dX8_draw_38 (fun H locs hP hS => ?_)
  obtain ⟨hg, hf⟩ := g_if hf
  refine lv_irem C.1 C.2.1 dX8_draw_41 hg ?_
  refine lv_istore_n (lv' := [(2, .int ((h 1 (2 : Int32).toNatClampNeg) - (h 1 (2 : Int32).toNatClampNeg) / q1.1 * q1.1)), (0, .ref (ad 0)), (1, .int x1)]) C.1 C.2.1 dX8_draw_42 rfl hl (by decide) rfl (fun ls hl => ?_)
  refine lv_iconst (v := (0 : Int32)) C.1 C.2.1 dX8_draw_43 (by decide) ?_
  refine lv_istore_n (lv' := [(3, .int (0 : Int32)), (2, .int ((h 1 (2 : Int32).toNatClampNeg) - (h 1 (2 : Int32).toNatClampNeg) / q1.1 * q1.1)), (0, .ref (ad 0)), (1, .int x1)]) C.1 C.2.1 dX8_draw_44 rfl hl (by decide) rfl (fun ls hl => ?_)
  exact w_X8_draw_45 hA C hX _ _ _ _ _ _ _ _ hf hP hS (lv_sub hl [3, 1, 0] rfl)
set_option maxRecDepth 100000 in
set_option maxHeartbeats 4000000 in
theorem w_X8_draw {p : Program} {l : Launch} {e : Env} {s : State} {m : MethodId} {args : Array Value} {below : List Frame} {meth : Method} {c : Code} {D : va_G} {ids : Nat → ClassId} {ad : Nat → Nat} {rv : Int32 × Hp} (hA : adOk ad 12) (C : CX p s m args meth c cX8_draw 4 (some .int) RX8 D ids) (hX : ExM s s.heap) : ∀ (h : Hp) (a1 : Int32) (H : Heap) (locs : List Loc) (ls : Array Slot), f_X8_draw h a1 = some rv → wp D (cEM ids ad) ad 12 h H → va_S (inW ad 12) s.heap H locs → lv_has ls 4 [(0, .ref (ad 0)), (1, .int a1)] → W p l e rm_X8_draw s m args below meth c H locs 0 0 (MQ below (QW D (cEM ids ad) ad 12 (some (.int rv.1)) rv.2) args s 0 0 (inW ad 12)) (F0 m 0 ls []) := by
  intro h a1 H locs ls hf hP hS hl
  unfold f_X8_draw at hf
  refine lv_aload_n C.1 C.2.1 dX8_draw_0 rfl (lv_at hl 0 rfl) ?_
  refine gf_X8_7 C hP dX8_draw_1 ?_
  refine lv_iconst (v := (2 : Int32)) C.1 C.2.1 dX8_draw_4 (by decide) ?_
  refine lv_bipush (v := (75 : Int32)) C.1 C.2.1 dX8_draw_5 (by decide) ?_
  refine lv_aload_n C.1 C.2.1 dX8_draw_7 rfl (lv_at hl 0 rfl) ?_
  refine gf_X8_7 C hP dX8_draw_8 ?_
  refine lv_iconst (v := (2 : Int32)) C.1 C.2.1 dX8_draw_11 (by decide) ?_
  obtain ⟨hg, hf⟩ := g_if hf
  refine al_m1 C hP hg dX8_draw_12 ?_
  refine lv_imul C.1 C.2.1 dX8_draw_13 ?_
  refine lv_bipush (v := (74 : Int32)) C.1 C.2.1 dX8_draw_14 (by decide) ?_
  refine lv_iadd C.1 C.2.1 dX8_draw_16 ?_
  refine lv_ldc (v := (65537 : Int32)) C.1 C.2.1 C.2.2.2.2.2.1 (C.2.2.2.2.2.2.1 _ q_471) dX8_draw_17 ?_
  refine lv_irem C.1 C.2.1 dX8_draw_19 (by decide) ?_
  obtain ⟨hg, hf⟩ := g_if hf
  refine as_m1 hA C hP hS hg dX8_draw_20 (fun H locs hP hS => ?_)
  refine lv_aload_n C.1 C.2.1 dX8_draw_21 rfl (lv_at hl 0 rfl) ?_
  refine gf_X8_7 C hP dX8_draw_22 ?_
  refine lv_iconst (v := (5 : Int32)) C.1 C.2.1 dX8_draw_25 (by decide) ?_
  refine lv_dup2_11 C.1 C.2.1 dX8_draw_26 rfl rfl ?_
  obtain ⟨hg, hf⟩ := g_if hf
  refine al_m1 C hP hg dX8_draw_27 ?_
  refine lv_iconst (v := (1 : Int32)) C.1 C.2.1 dX8_draw_28 (by decide) ?_
  refine lv_iadd C.1 C.2.1 dX8_draw_29 ?_
  obtain ⟨hg, hf⟩ := g_if hf
  refine as_m1 hA C hP hS hg dX8_draw_30 (fun H locs hP hS => ?_)
  exact w_X8_draw_31 hA C hX _ _ _ _ _ hf hP hS (lv_sub hl [0, 1] rfl)
theorem c_X8_draw (l : Launch) (D : va_G) (ids : Nat → ClassId) (ad : Nat → Nat) (hA : adOk ad 12) {a1 : Int32} {h : Hp} {rv : Int32 × Hp} (hf : f_X8_draw h a1 = some rv) : Met l yX8_draw (ws_ yX8_draw cX8_draw 4 (some .int)) rm_X8_draw (va_Pc [.ref (ad 0), .int a1] (WB D ids (cEM ids ad) ad 12 ExM h)) (QW D (cEM ids ad) ad 12 (some (.int rv.1)) rv.2) 0 0 (inW ad 12) :=
  u_met (own := RX8) (by decide) rfl (Nat.le_of_ble_eq_true rfl) rfl (fun p e s m args below meth c H ls C hX hP hS hl => w_X8_draw hA C hX _ _ _ _ _ hf hP hS hl)
theorem as_m8 {p : Program} {l : Launch} {e : Env} {R : Room} {s : State} {m : MethodId} {args : Array Value} {below : List Frame} {meth : Method} {c : Code} {H : Heap} {locs : List Loc} {cells slots : Nat} {Q : State → Prop} {cc : ByteArray} {nL : Nat} {ret : Option FieldType} {own : String} {pc : Nat} {ls : Array Slot} {rest : List Value} {D : va_G} {ids : Nat → ClassId} {ad : Nat → Nat} {h : Hp} {i x : Int32} (hA : adOk ad 12) (C : CX p s m args meth c cc nL ret own D ids) (hP : wp D (cEM ids ad) ad 12 h H) (hS : va_S (inW ad 12) s.heap H locs) (hg : inb i 3 = true) (hdg : decode cc pc = .ok (.iastore, 1)) (kk : ∀ (H1 : Heap) (locs1 : List Loc), wp D (cEM ids ad) ad 12 (hs h 8 i.toNatClampNeg x) H1 → va_S (inW ad 12) s.heap H1 locs1 → W p l e R s m args below meth c H1 locs1 cells slots Q (F0 m (pc + 1) ls rest)) : W p l e R s m args below meth c H locs cells slots Q (F0 m pc ls (.int x :: .int i :: .ref (ad 8) :: rest)) :=
  u_iast hA C hP hS (by decide) cE_m8 hg hdg kk
theorem as_m9 {p : Program} {l : Launch} {e : Env} {R : Room} {s : State} {m : MethodId} {args : Array Value} {below : List Frame} {meth : Method} {c : Code} {H : Heap} {locs : List Loc} {cells slots : Nat} {Q : State → Prop} {cc : ByteArray} {nL : Nat} {ret : Option FieldType} {own : String} {pc : Nat} {ls : Array Slot} {rest : List Value} {D : va_G} {ids : Nat → ClassId} {ad : Nat → Nat} {h : Hp} {i x : Int32} (hA : adOk ad 12) (C : CX p s m args meth c cc nL ret own D ids) (hP : wp D (cEM ids ad) ad 12 h H) (hS : va_S (inW ad 12) s.heap H locs) (hg : inb i 3 = true) (hdg : decode cc pc = .ok (.iastore, 1)) (kk : ∀ (H1 : Heap) (locs1 : List Loc), wp D (cEM ids ad) ad 12 (hs h 9 i.toNatClampNeg x) H1 → va_S (inW ad 12) s.heap H1 locs1 → W p l e R s m args below meth c H1 locs1 cells slots Q (F0 m (pc + 1) ls rest)) : W p l e R s m args below meth c H locs cells slots Q (F0 m pc ls (.int x :: .int i :: .ref (ad 9) :: rest)) :=
  u_iast hA C hP hS (by decide) cE_m9 hg hdg kk
theorem as_m10 {p : Program} {l : Launch} {e : Env} {R : Room} {s : State} {m : MethodId} {args : Array Value} {below : List Frame} {meth : Method} {c : Code} {H : Heap} {locs : List Loc} {cells slots : Nat} {Q : State → Prop} {cc : ByteArray} {nL : Nat} {ret : Option FieldType} {own : String} {pc : Nat} {ls : Array Slot} {rest : List Value} {D : va_G} {ids : Nat → ClassId} {ad : Nat → Nat} {h : Hp} {i x : Int32} (hA : adOk ad 12) (C : CX p s m args meth c cc nL ret own D ids) (hP : wp D (cEM ids ad) ad 12 h H) (hS : va_S (inW ad 12) s.heap H locs) (hg : inb i 3 = true) (hdg : decode cc pc = .ok (.iastore, 1)) (kk : ∀ (H1 : Heap) (locs1 : List Loc), wp D (cEM ids ad) ad 12 (hs h 10 i.toNatClampNeg x) H1 → va_S (inW ad 12) s.heap H1 locs1 → W p l e R s m args below meth c H1 locs1 cells slots Q (F0 m (pc + 1) ls rest)) : W p l e R s m args below meth c H locs cells slots Q (F0 m pc ls (.int x :: .int i :: .ref (ad 10) :: rest)) :=
  u_iast hA C hP hS (by decide) cE_m10 hg hdg kk
theorem cv_X8_85 {p : Program} {l : Launch} {e : Env} {R : Room} {s : State} {m : MethodId} {args : Array Value} {below : List Frame} {meth : Method} {c : Code} {H : Heap} {locs : List Loc} {Q : State → Prop} {cc : ByteArray} {nL : Nat} {ret : Option FieldType} {pc : Nat} {ls : Array Slot} {rest : List Value} {D : va_G} {ids : Nat → ClassId} {ad : Nat → Nat} {h : Hp} (hA : adOk ad 12) (C : CX p s m args meth c cc nL ret RX8 D ids) (hX : ExM s s.heap) (hP : wp D (cEM ids ad) ad 12 h H) (hS : va_S (inW ad 12) s.heap H locs) {a1 : Int32} {a2 : Int32} {a3 : Int32} {rv : Hp} (hf : f_X8_more h a1 a2 a3 = some rv) (hR : 1 + 1 ≤ R.frames ∧ 8 + (4 + 11) + 23 ≤ R.locals) (hsz : ls.size = nL) (hcat : (rest.map fun v => v.category).sum ≤ 8) (hdg : decode cc pc = .ok (.invokevirtual 85, 3)) (kk : ∀ (H1 : Heap) (locs1 : List Loc), wp D (cEM ids ad) ad 12 rv H1 → va_S (inW ad 12) s.heap H1 locs1 → W p l e R s m args below meth c H1 locs1 0 0 Q (F0 m (pc + 3) ls (rest))) : W p l e R s m args below meth c H locs 0 0 Q (F0 m pc ls (.int a3 :: .int a2 :: .int a1 :: .ref (ad 0) :: rest)) :=
  u_callV (As := [.int a1, .int a2, .int a3]) (rv := none) C exM_ok hX (c_X8_more l D ids ad hA hf) q_452 q_453 q_454 q_5 q_455 ⟨rfl, rfl⟩ (by refine ⟨by decide +kernel, by decide +kernel, ?_⟩; show _ = some 3; decide +kernel) hR (by decide) (cE_X8 _) rfl hP hS hsz hcat rfl hdg kk
abbrev rm_X8_depart : Room := { frames := 2, cells := 0, slots := 0, locals := 46 }
set_option maxRecDepth 100000 in
set_option maxHeartbeats 4000000 in
theorem w_X8_depart_23 {p : Program} {l : Launch} {e : Env} {s : State} {m : MethodId} {args : Array Value} {below : List Frame} {meth : Method} {c : Code} {D : va_G} {ids : Nat → ClassId} {ad : Nat → Nat} {rv : Hp} (hA : adOk ad 12) (C : CX p s m args meth c cX8_depart 3 none RX8 D ids) (hX : ExM s s.heap) : ∀ (h : Hp) (x1 : Int32) (H : Heap) (locs : List Loc) (ls : Array Slot), f_X8_depart_23 h x1 = some rv → wp D (cEM ids ad) ad 12 h H → va_S (inW ad 12) s.heap H locs → lv_has ls 3 [(0, .ref (ad 0)), (1, .int x1)] → W p l e rm_X8_depart s m args below meth c H locs 0 0 (MQ below (QW D (cEM ids ad) ad 12 none rv) args s 0 0 (inW ad 12)) (F0 m 23 ls []) := by
  intro h x1 H locs ls hf hP hS hl
  unfold f_X8_depart_23 at hf
  refine lv_aload_n C.1 C.2.1 dX8_depart_23 rfl (lv_at hl 0 rfl) ?_
  refine gf_X8_37 C hP dX8_depart_24 ?_
  refine lv_iload_n C.1 C.2.1 dX8_depart_27 rfl (lv_at hl 1 rfl) ?_
  refine lv_dup2_11 C.1 C.2.1 dX8_depart_28 rfl rfl ?_
  obtain ⟨hg, hf⟩ := g_if hf
  refine al_m10 C hP hg dX8_depart_29 ?_
  refine lv_iconst (v := (1 : Int32)) C.1 C.2.1 dX8_depart_30 (by decide) ?_
  refine lv_iadd C.1 C.2.1 dX8_depart_31 ?_
  obtain ⟨hg, hf⟩ := g_if hf
  refine as_m10 hA C hP hS hg dX8_depart_32 (fun H locs hP hS => ?_)
  refine lv_aload_n C.1 C.2.1 dX8_depart_33 rfl (lv_at hl 0 rfl) ?_
  refine lv_iload_n C.1 C.2.1 dX8_depart_34 rfl (lv_at hl 1 rfl) ?_
  refine lv_iconst (v := (4 : Int32)) C.1 C.2.1 dX8_depart_35 (by decide) ?_
  refine lv_iconst (v := (1 : Int32)) C.1 C.2.1 dX8_depart_36 (by decide) ?_
  obtain ⟨q1, eq1, hf⟩ := g_b hf
  refine cv_X8_85 hA C hX hP hS eq1 ⟨Nat.le_of_ble_eq_true rfl, Nat.le_of_ble_eq_true rfl⟩ hl.1 (Nat.le_of_ble_eq_true rfl) dX8_depart_37 (fun H locs hP hS => ?_)
  obtain rfl := Option.some.inj hf
  exact u_vret C hP hS dX8_depart_40
set_option maxRecDepth 100000 in
set_option maxHeartbeats 4000000 in
theorem w_X8_depart {p : Program} {l : Launch} {e : Env} {s : State} {m : MethodId} {args : Array Value} {below : List Frame} {meth : Method} {c : Code} {D : va_G} {ids : Nat → ClassId} {ad : Nat → Nat} {rv : Hp} (hA : adOk ad 12) (C : CX p s m args meth c cX8_depart 3 none RX8 D ids) (hX : ExM s s.heap) : ∀ (h : Hp) (a1 : Int32) (a2 : Int32) (H : Heap) (locs : List Loc) (ls : Array Slot), f_X8_depart h a1 a2 = some rv → wp D (cEM ids ad) ad 12 h H → va_S (inW ad 12) s.heap H locs → lv_has ls 3 [(0, .ref (ad 0)), (1, .int a1), (2, .int a2)] → W p l e rm_X8_depart s m args below meth c H locs 0 0 (MQ below (QW D (cEM ids ad) ad 12 none rv) args s 0 0 (inW ad 12)) (F0 m 0 ls []) := by
  intro h a1 a2 H locs ls hf hP hS hl
  unfold f_X8_depart at hf
  refine lv_aload_n C.1 C.2.1 dX8_depart_0 rfl (lv_at hl 0 rfl) ?_
  refine gf_X8_31 C hP dX8_depart_1 ?_
  refine lv_iload_n C.1 C.2.1 dX8_depart_4 rfl (lv_at hl 1 rfl) ?_
  refine lv_iconst (v := (1 : Int32)) C.1 C.2.1 dX8_depart_5 (by decide) ?_
  refine lv_aload_n C.1 C.2.1 dX8_depart_6 rfl (lv_at hl 0 rfl) ?_
  refine gf_X8_31 C hP dX8_depart_7 ?_
  refine lv_iload_n C.1 C.2.1 dX8_depart_10 rfl (lv_at hl 1 rfl) ?_
  obtain ⟨hg, hf⟩ := g_if hf
  refine al_m8 C hP hg dX8_depart_11 ?_
  refine lv_isub C.1 C.2.1 dX8_depart_12 ?_
  obtain ⟨hg, hf⟩ := g_if hf
  refine as_m8 hA C hP hS hg dX8_depart_13 (fun H locs hP hS => ?_)
  refine lv_aload_n C.1 C.2.1 dX8_depart_14 rfl (lv_at hl 0 rfl) ?_
  refine gf_X8_34 C hP dX8_depart_15 ?_
  refine lv_iload_n C.1 C.2.1 dX8_depart_18 rfl (lv_at hl 1 rfl) ?_
  refine lv_iload_n C.1 C.2.1 dX8_depart_19 rfl (lv_at hl 2 rfl) ?_
  refine lv_iconst (v := (2 : Int32)) C.1 C.2.1 dX8_depart_20 (by decide) ?_
  refine lv_iadd C.1 C.2.1 dX8_depart_21 ?_
  obtain ⟨hg, hf⟩ := g_if hf
  refine as_m9 hA C hP hS hg dX8_depart_22 (fun H locs hP hS => ?_)
  exact w_X8_depart_23 hA C hX _ _ _ _ _ hf hP hS (lv_sub hl [0, 1] rfl)
theorem c_X8_depart (l : Launch) (D : va_G) (ids : Nat → ClassId) (ad : Nat → Nat) (hA : adOk ad 12) {a1 : Int32} {a2 : Int32} {h : Hp} {rv : Hp} (hf : f_X8_depart h a1 a2 = some rv) : Met l yX8_depart (ws_ yX8_depart cX8_depart 3 none) rm_X8_depart (va_Pc [.ref (ad 0), .int a1, .int a2] (WB D ids (cEM ids ad) ad 12 ExM h)) (QW D (cEM ids ad) ad 12 none rv) 0 0 (inW ad 12) :=
  u_met (own := RX8) (by decide) rfl (Nat.le_of_ble_eq_true rfl) rfl (fun p e s m args below meth c H ls C hX hP hS hl => w_X8_depart hA C hX _ _ _ _ _ _ hf hP hS hl)
theorem cv_X8_89 {p : Program} {l : Launch} {e : Env} {R : Room} {s : State} {m : MethodId} {args : Array Value} {below : List Frame} {meth : Method} {c : Code} {H : Heap} {locs : List Loc} {Q : State → Prop} {cc : ByteArray} {nL : Nat} {ret : Option FieldType} {pc : Nat} {ls : Array Slot} {rest : List Value} {D : va_G} {ids : Nat → ClassId} {ad : Nat → Nat} {h : Hp} (hA : adOk ad 12) (C : CX p s m args meth c cc nL ret RX8 D ids) (hX : ExM s s.heap) (hP : wp D (cEM ids ad) ad 12 h H) (hS : va_S (inW ad 12) s.heap H locs) {a1 : Int32} {rv : Int32 × Hp} (hf : f_X8_draw h a1 = some rv) (hR : 1 + 1 ≤ R.frames ∧ 8 + (4 + 11) + 20 ≤ R.locals) (hsz : ls.size = nL) (hcat : (rest.map fun v => v.category).sum ≤ 8) (hdg : decode cc pc = .ok (.invokevirtual 89, 3)) (kk : ∀ (H1 : Heap) (locs1 : List Loc), wp D (cEM ids ad) ad 12 rv.2 H1 → va_S (inW ad 12) s.heap H1 locs1 → W p l e R s m args below meth c H1 locs1 0 0 Q (F0 m (pc + 3) ls (.int rv.1 :: rest))) : W p l e R s m args below meth c H locs 0 0 Q (F0 m pc ls (.int a1 :: .ref (ad 0) :: rest)) :=
  u_callV (As := [.int a1]) (rv := (some (.int rv.1))) C exM_ok hX (c_X8_draw l D ids ad hA hf) q_467 q_468 q_469 q_5 q_470 ⟨rfl, rfl⟩ (by refine ⟨by decide +kernel, by decide +kernel, ?_⟩; show _ = some 1; decide +kernel) hR (by decide) (cE_X8 _) rfl hP hS hsz hcat rfl hdg kk
theorem cv_X8_92 {p : Program} {l : Launch} {e : Env} {R : Room} {s : State} {m : MethodId} {args : Array Value} {below : List Frame} {meth : Method} {c : Code} {H : Heap} {locs : List Loc} {Q : State → Prop} {cc : ByteArray} {nL : Nat} {ret : Option FieldType} {pc : Nat} {ls : Array Slot} {rest : List Value} {D : va_G} {ids : Nat → ClassId} {ad : Nat → Nat} {h : Hp} (hA : adOk ad 12) (C : CX p s m args meth c cc nL ret RX8 D ids) (hX : ExM s s.heap) (hP : wp D (cEM ids ad) ad 12 h H) (hS : va_S (inW ad 12) s.heap H locs) {a1 : Int32} {a2 : Int32} {rv : Hp} (hf : f_X8_depart h a1 a2 = some rv) (hR : 2 + 1 ≤ R.frames ∧ 8 + (3 + 11) + 46 ≤ R.locals) (hsz : ls.size = nL) (hcat : (rest.map fun v => v.category).sum ≤ 8) (hdg : decode cc pc = .ok (.invokevirtual 92, 3)) (kk : ∀ (H1 : Heap) (locs1 : List Loc), wp D (cEM ids ad) ad 12 rv H1 → va_S (inW ad 12) s.heap H1 locs1 → W p l e R s m args below meth c H1 locs1 0 0 Q (F0 m (pc + 3) ls (rest))) : W p l e R s m args below meth c H locs 0 0 Q (F0 m pc ls (.int a2 :: .int a1 :: .ref (ad 0) :: rest)) :=
  u_callV (As := [.int a1, .int a2]) (rv := none) C exM_ok hX (c_X8_depart l D ids ad hA hf) q_472 q_473 q_474 q_5 q_475 ⟨rfl, rfl⟩ (by refine ⟨by decide +kernel, by decide +kernel, ?_⟩; show _ = some 2; decide +kernel) hR (by decide) (cE_X8 _) rfl hP hS hsz hcat rfl hdg kk
abbrev rm_X8_givePier : Room := { frames := 3, cells := 0, slots := 0, locals := 68 }
set_option maxRecDepth 100000 in
set_option maxHeartbeats 4000000 in
theorem w_X8_givePier_115 {p : Program} {l : Launch} {e : Env} {s : State} {m : MethodId} {args : Array Value} {below : List Frame} {meth : Method} {c : Code} {D : va_G} {ids : Nat → ClassId} {ad : Nat → Nat} {rv : Hp} (hA : adOk ad 12) (C : CX p s m args meth c cX8_givePier 7 none RX8 D ids) (hX : ExM s s.heap) {K53 : Hp → Int32 → Int32 → Int32 → Int32 → Int32 → Option (Hp)} (hK53 : ∀ (h : Hp) (x1 : Int32) (x3 : Int32) (x4 : Int32) (x5 : Int32) (x6 : Int32) (H : Heap) (locs : List Loc) (ls : Array Slot), K53 h x1 x3 x4 x5 x6 = some rv → wp D (cEM ids ad) ad 12 h H → va_S (inW ad 12) s.heap H locs → lv_has ls 7 [(0, .ref (ad 0)), (1, .int x1), (3, .int x3), (4, .int x4), (5, .int x5), (6, .int x6)] → W p l e rm_X8_givePier s m args below meth c H locs 0 0 (MQ below (QW D (cEM ids ad) ad 12 none rv) args s 0 0 (inW ad 12)) (F0 m 53 ls [])) : ∀ (h : Hp) (x1 : Int32) (x3 : Int32) (x4 : Int32) (x5 : Int32) (x6 : Int32) (H : Heap) (locs : List Loc) (ls : Array Slot), f_X8_givePier_115 K53 h x1 x3 x4 x5 x6 = some rv → wp D (cEM ids ad) ad 12 h H → va_S (inW ad 12) s.heap H locs → lv_has ls 7 [(0, .ref (ad 0)), (1, .int x1), (3, .int x3), (4, .int x4), (5, .int x5), (6, .int x6)] → W p l e rm_X8_givePier s m args below meth c H locs 0 0 (MQ below (QW D (cEM ids ad) ad 12 none rv) args s 0 0 (inW ad 12)) (F0 m 115 ls []) := by
  intro h x1 x3 x4 x5 x6 H locs ls hf hP hS hl
  unfold f_X8_givePier_115 at hf
  refine lv_iinc (v := (x6 + 1)) (lv' := [(6, .int (x6 + 1)), (0, .ref (ad 0)), (1, .int x1), (3, .int x3), (4, .int x4), (5, .int x5)]) C.1 C.2.1 dX8_givePier_115 hl (k := 5) rfl (by rfl) (by decide) rfl (fun ls hl => ?_)
  refine lv_goto (tgt := 53) C.1 C.2.1 dX8_givePier_118 (by decide) ?_
  exact hK53 _ _ _ _ _ _ _ _ _ hf hP hS (lv_sub hl [1, 2, 3, 4, 5, 0] rfl)
set_option maxRecDepth 100000 in
set_option maxHeartbeats 4000000 in
theorem w_X8_givePier_112 {p : Program} {l : Launch} {e : Env} {s : State} {m : MethodId} {args : Array Value} {below : List Frame} {meth : Method} {c : Code} {D : va_G} {ids : Nat → ClassId} {ad : Nat → Nat} {rv : Hp} (hA : adOk ad 12) (C : CX p s m args meth c cX8_givePier 7 none RX8 D ids) (hX : ExM s s.heap) {K53 : Hp → Int32 → Int32 → Int32 → Int32 → Int32 → Option (Hp)} (hK53 : ∀ (h : Hp) (x1 : Int32) (x3 : Int32) (x4 : Int32) (x5 : Int32) (x6 : Int32) (H : Heap) (locs : List Loc) (ls : Array Slot), K53 h x1 x3 x4 x5 x6 = some rv → wp D (cEM ids ad) ad 12 h H → va_S (inW ad 12) s.heap H locs → lv_has ls 7 [(0, .ref (ad 0)), (1, .int x1), (3, .int x3), (4, .int x4), (5, .int x5), (6, .int x6)] → W p l e rm_X8_givePier s m args below meth c H locs 0 0 (MQ below (QW D (cEM ids ad) ad 12 none rv) args s 0 0 (inW ad 12)) (F0 m 53 ls [])) : ∀ (h : Hp) (x1 : Int32) (x3 : Int32) (x4 : Int32) (x5 : Int32) (x6 : Int32) (t1 : Int32) (t2 : Int32) (t3 : Int32) (H : Heap) (locs : List Loc) (ls : Array Slot), f_X8_givePier_112 K53 h x1 x3 x4 x5 x6 t1 t2 t3 = some rv → wp D (cEM ids ad) ad 12 h H → va_S (inW ad 12) s.heap H locs → lv_has ls 7 [(0, .ref (ad 0)), (1, .int x1), (3, .int x3), (4, .int x4), (5, .int x5), (6, .int x6)] → W p l e rm_X8_givePier s m args below meth c H locs 0 0 (MQ below (QW D (cEM ids ad) ad 12 none rv) args s 0 0 (inW ad 12)) (F0 m 112 ls [.int t3, .int t2, .int t1, .ref (ad 0)]) := by
  intro h x1 x3 x4 x5 x6 t1 t2 t3 H locs ls hf hP hS hl
  unfold f_X8_givePier_112 at hf
  obtain ⟨q1, eq1, hf⟩ := g_b hf
  refine cv_X8_85 hA C hX hP hS eq1 ⟨Nat.le_of_ble_eq_true rfl, Nat.le_of_ble_eq_true rfl⟩ hl.1 (Nat.le_of_ble_eq_true rfl) dX8_givePier_112 (fun H locs hP hS => ?_)
  exact w_X8_givePier_115 hA C hX hK53 _ _ _ _ _ _ _ _ _ hf hP hS (lv_sub hl [0, 1, 2, 3, 4, 5] rfl)
set_option maxRecDepth 100000 in
set_option maxHeartbeats 4000000 in
theorem w_X8_givePier_53 {p : Program} {l : Launch} {e : Env} {s : State} {m : MethodId} {args : Array Value} {below : List Frame} {meth : Method} {c : Code} {D : va_G} {ids : Nat → ClassId} {ad : Nat → Nat} {rv : Hp} (hA : adOk ad 12) (C : CX p s m args meth c cX8_givePier 7 none RX8 D ids) (hX : ExM s s.heap) : ∀ (fu : Nat), ∀ (h : Hp) (x1 : Int32) (x3 : Int32) (x4 : Int32) (x5 : Int32) (x6 : Int32) (H : Heap) (locs : List Loc) (ls : Array Slot), f_X8_givePier_53 fu h x1 x3 x4 x5 x6 = some rv → wp D (cEM ids ad) ad 12 h H → va_S (inW ad 12) s.heap H locs → lv_has ls 7 [(0, .ref (ad 0)), (1, .int x1), (3, .int x3), (4, .int x4), (5, .int x5), (6, .int x6)] → W p l e rm_X8_givePier s m args below meth c H locs 0 0 (MQ below (QW D (cEM ids ad) ad 12 none rv) args s 0 0 (inW ad 12)) (F0 m 53 ls []) := by
  intro fu
  induction fu with
  | zero =>
    intro h x1 x3 x4 x5 x6 H locs ls hf hP hS hl
    cases hf
  | succ fu ih =>
    intro h x1 x3 x4 x5 x6 H locs ls hf hP hS hl
    rw [f_X8_givePier_53_s] at hf
    refine lv_iload C.1 C.2.1 dX8_givePier_53 (lv_at hl 5 rfl) ?_
    refine lv_iconst (v := (3 : Int32)) C.1 C.2.1 dX8_givePier_55 (by decide) ?_
    refine lv_icmp_ge (tgt := 121) C.1 C.2.1 dX8_givePier_56 (by decide) (fun hc => ?_) (fun hc => ?_)
    · have hf := g_t hc hf
      obtain rfl := Option.some.inj hf
      exact u_vret C hP hS dX8_givePier_121
    · have hf := g_f hc hf
      refine lv_iload_n C.1 C.2.1 dX8_givePier_59 rfl (lv_at hl 1 rfl) ?_
      refine lv_iload C.1 C.2.1 dX8_givePier_60 (lv_at hl 5 rfl) ?_
      refine lv_ishr C.1 C.2.1 dX8_givePier_62 ?_
      refine lv_iconst (v := (1 : Int32)) C.1 C.2.1 dX8_givePier_63 (by decide) ?_
      refine lv_iand C.1 C.2.1 dX8_givePier_64 ?_
      refine lv_if_ne (tgt := 71) C.1 C.2.1 dX8_givePier_65 (by decide) (fun hc => ?_) (fun hc => ?_)
      · have hf := g_f hc hf
        refine lv_iload C.1 C.2.1 dX8_givePier_71 (lv_at hl 5 rfl) ?_
        refine lv_iload C.1 C.2.1 dX8_givePier_73 (lv_at hl 4 rfl) ?_
        refine lv_icmp_ne (tgt := 88) C.1 C.2.1 dX8_givePier_75 (by decide) (fun hc => ?_) (fun hc => ?_)
        · have hf := g_f hc hf
          refine lv_aload_n C.1 C.2.1 dX8_givePier_88 rfl (lv_at hl 0 rfl) ?_
          refine lv_iload C.1 C.2.1 dX8_givePier_89 (lv_at hl 5 rfl) ?_
          refine lv_bipush (v := (6 : Int32)) C.1 C.2.1 dX8_givePier_91 (by decide) ?_
          refine lv_iconst (v := (1 : Int32)) C.1 C.2.1 dX8_givePier_93 (by decide) ?_
          obtain ⟨q1, eq1, hf⟩ := g_b hf
          refine cv_X8_85 hA C hX hP hS eq1 ⟨Nat.le_of_ble_eq_true rfl, Nat.le_of_ble_eq_true rfl⟩ hl.1 (Nat.le_of_ble_eq_true rfl) dX8_givePier_94 (fun H locs hP hS => ?_)
          refine lv_aload_n C.1 C.2.1 dX8_givePier_97 rfl (lv_at hl 0 rfl) ?_
          refine lv_iload C.1 C.2.1 dX8_givePier_98 (lv_at hl 5 rfl) ?_
          refine lv_bipush (v := (7 : Int32)) C.1 C.2.1 dX8_givePier_100 (by decide) ?_
          refine lv_iload C.1 C.2.1 dX8_givePier_102 (lv_at hl 3 rfl) ?_
          refine lv_if_eq (tgt := 111) C.1 C.2.1 dX8_givePier_104 (by decide) (fun hc => ?_) (fun hc => ?_)
          · have hf := g_t hc hf
            refine lv_iconst (v := (0 : Int32)) C.1 C.2.1 dX8_givePier_111 (by decide) ?_
            exact w_X8_givePier_112 hA C hX ih _ _ _ _ _ _ _ _ _ _ _ _ hf hP hS (lv_sub hl [0, 1, 2, 3, 4, 5] rfl)
          · have hf := g_f hc hf
            refine lv_iconst (v := (1 : Int32)) C.1 C.2.1 dX8_givePier_107 (by decide) ?_
            refine lv_goto (tgt := 112) C.1 C.2.1 dX8_givePier_108 (by decide) ?_
            exact w_X8_givePier_112 hA C hX ih _ _ _ _ _ _ _ _ _ _ _ _ hf hP hS (lv_sub hl [0, 1, 2, 3, 4, 5] rfl)
        · have hf := g_t hc hf
          refine lv_aload_n C.1 C.2.1 dX8_givePier_78 rfl (lv_at hl 0 rfl) ?_
          refine lv_iload C.1 C.2.1 dX8_givePier_79 (lv_at hl 5 rfl) ?_
          refine lv_iload_n C.1 C.2.1 dX8_givePier_81 rfl (lv_at hl 2 rfl) ?_
          obtain ⟨q2, eq2, hf⟩ := g_b hf
          refine cv_X8_92 hA C hX hP hS eq2 ⟨Nat.le_of_ble_eq_true rfl, Nat.le_of_ble_eq_true rfl⟩ hl.1 (Nat.le_of_ble_eq_true rfl) dX8_givePier_82 (fun H locs hP hS => ?_)
          refine lv_goto (tgt := 115) C.1 C.2.1 dX8_givePier_85 (by decide) ?_
          exact w_X8_givePier_115 hA C hX ih _ _ _ _ _ _ _ _ _ hf hP hS (lv_sub hl [0, 1, 2, 3, 4, 5] rfl)
      · have hf := g_t hc hf
        refine lv_goto (tgt := 115) C.1 C.2.1 dX8_givePier_68 (by decide) ?_
        exact w_X8_givePier_115 hA C hX ih _ _ _ _ _ _ _ _ _ hf hP hS (lv_sub hl [0, 1, 2, 3, 4, 5] rfl)
set_option maxRecDepth 100000 in
set_option maxHeartbeats 4000000 in
theorem w_X8_givePier_48 {p : Program} {l : Launch} {e : Env} {s : State} {m : MethodId} {args : Array Value} {below : List Frame} {meth : Method} {c : Code} {D : va_G} {ids : Nat → ClassId} {ad : Nat → Nat} {rv : Hp} (hA : adOk ad 12) (C : CX p s m args meth c cX8_givePier 7 none RX8 D ids) (hX : ExM s s.heap) : ∀ (h : Hp) (x1 : Int32) (x3 : Int32) (x4 : Int32) (t0 : Int32) (H : Heap) (locs : List Loc) (ls : Array Slot), f_X8_givePier_48 h x1 x3 x4 t0 = some rv → wp D (cEM ids ad) ad 12 h H → va_S (inW ad 12) s.heap H locs → lv_has ls 7 [(0, .ref (ad 0)), (1, .int x1), (3, .int x3), (4, .int x4)] → W p l e rm_X8_givePier s m args below meth c H locs 0 0 (MQ below (QW D (cEM ids ad) ad 12 none rv) args s 0 0 (inW ad 12)) (F0 m 48 ls [.int t0]) := by
  intro h x1 x3 x4 t0 H locs ls hf hP hS hl
  unfold f_X8_givePier_48 at hf
  refine lv_istore (lv' := [(5, .int t0), (0, .ref (ad 0)), (1, .int x1), (3, .int x3), (4, .int x4)]) C.1 C.2.1 dX8_givePier_48 hl (by decide) rfl (fun ls hl => ?_)
  refine lv_iconst (v := (0 : Int32)) C.1 C.2.1 dX8_givePier_50 (by decide) ?_
  refine lv_istore (lv' := [(6, .int (0 : Int32)), (5, .int t0), (0, .ref (ad 0)), (1, .int x1), (3, .int x3), (4, .int x4)]) C.1 C.2.1 dX8_givePier_51 hl (by decide) rfl (fun ls hl => ?_)
  exact w_X8_givePier_53 hA C hX _ _ _ _ _ _ _ _ _ _ hf hP hS (lv_sub hl [2, 3, 4, 5, 1, 0] rfl)
set_option maxRecDepth 100000 in
set_option maxHeartbeats 4000000 in
theorem w_X8_givePier_27 {p : Program} {l : Launch} {e : Env} {s : State} {m : MethodId} {args : Array Value} {below : List Frame} {meth : Method} {c : Code} {D : va_G} {ids : Nat → ClassId} {ad : Nat → Nat} {rv : Hp} (hA : adOk ad 12) (C : CX p s m args meth c cX8_givePier 7 none RX8 D ids) (hX : ExM s s.heap) : ∀ (h : Hp) (x1 : Int32) (x3 : Int32) (x4 : Int32) (H : Heap) (locs : List Loc) (ls : Array Slot), f_X8_givePier_27 h x1 x3 x4 = some rv → wp D (cEM ids ad) ad 12 h H → va_S (inW ad 12) s.heap H locs → lv_has ls 7 [(0, .ref (ad 0)), (1, .int x1), (3, .int x3), (4, .int x4)] → W p l e rm_X8_givePier s m args below meth c H locs 0 0 (MQ below (QW D (cEM ids ad) ad 12 none rv) args s 0 0 (inW ad 12)) (F0 m 27 ls []) := by
  intro h x1 x3 x4 H locs ls hf hP hS hl
  unfold f_X8_givePier_27 at hf
  refine lv_bipush (v := (-5 : Int32)) C.1 C.2.1 dX8_givePier_27 (by decide) ?_
  refine lv_goto (tgt := 48) C.1 C.2.1 dX8_givePier_29 (by decide) ?_
  exact w_X8_givePier_48 hA C hX _ _ _ _ _ _ _ _ hf hP hS (lv_sub hl [0, 1, 2, 3] rfl)
set_option maxRecDepth 100000 in
set_option maxHeartbeats 4000000 in
theorem w_X8_givePier_17 {p : Program} {l : Launch} {e : Env} {s : State} {m : MethodId} {args : Array Value} {below : List Frame} {meth : Method} {c : Code} {D : va_G} {ids : Nat → ClassId} {ad : Nat → Nat} {rv : Hp} (hA : adOk ad 12) (C : CX p s m args meth c cX8_givePier 7 none RX8 D ids) (hX : ExM s s.heap) : ∀ (h : Hp) (x1 : Int32) (x2 : Int32) (x3 : Int32) (t0 : Int32) (H : Heap) (locs : List Loc) (ls : Array Slot), f_X8_givePier_17 h x1 x2 x3 t0 = some rv → wp D (cEM ids ad) ad 12 h H → va_S (inW ad 12) s.heap H locs → lv_has ls 7 [(0, .ref (ad 0)), (1, .int x1), (2, .int x2), (3, .int x3)] → W p l e rm_X8_givePier s m args below meth c H locs 0 0 (MQ below (QW D (cEM ids ad) ad 12 none rv) args s 0 0 (inW ad 12)) (F0 m 17 ls [.int t0]) := by
  intro h x1 x2 x3 t0 H locs ls hf hP hS hl
  unfold f_X8_givePier_17 at hf
  refine lv_istore (lv' := [(4, .int t0), (0, .ref (ad 0)), (1, .int x1), (2, .int x2), (3, .int x3)]) C.1 C.2.1 dX8_givePier_17 hl (by decide) rfl (fun ls hl => ?_)
  refine lv_iload_n C.1 C.2.1 dX8_givePier_19 rfl (lv_at hl 3 rfl) ?_
  refine lv_if_ne (tgt := 27) C.1 C.2.1 dX8_givePier_20 (by decide) (fun hc => ?_) (fun hc => ?_)
  · have hf := g_f hc hf
    exact w_X8_givePier_27 hA C hX _ _ _ _ _ _ _ hf hP hS (lv_sub hl [1, 2, 4, 0] rfl)
  · have hf := g_t hc hf
    refine lv_iload_n C.1 C.2.1 dX8_givePier_23 rfl (lv_at hl 2 rfl) ?_
    refine lv_if_ne (tgt := 32) C.1 C.2.1 dX8_givePier_24 (by decide) (fun hc => ?_) (fun hc => ?_)
    · have hf := g_f hc hf
      refine lv_iload C.1 C.2.1 dX8_givePier_32 (lv_at hl 0 rfl) ?_
      refine lv_if_eq (tgt := 45) C.1 C.2.1 dX8_givePier_34 (by decide) (fun hc => ?_) (fun hc => ?_)
      · have hf := g_t hc hf
        refine lv_iload_n C.1 C.2.1 dX8_givePier_45 rfl (lv_at hl 2 rfl) ?_
        refine lv_iconst (v := (2 : Int32)) C.1 C.2.1 dX8_givePier_46 (by decide) ?_
        refine lv_idiv C.1 C.2.1 dX8_givePier_47 (by decide) ?_
        exact w_X8_givePier_48 hA C hX _ _ _ _ _ _ _ _ hf hP hS (lv_sub hl [1, 2, 4, 0] rfl)
      · have hf := g_f hc hf
        refine lv_aload_n C.1 C.2.1 dX8_givePier_37 rfl (lv_at hl 1 rfl) ?_
        refine lv_iload_n C.1 C.2.1 dX8_givePier_38 rfl (lv_at hl 2 rfl) ?_
        obtain ⟨q1, eq1, hf⟩ := g_b hf
        refine cv_X8_89 hA C hX hP hS eq1 ⟨Nat.le_of_ble_eq_true rfl, Nat.le_of_ble_eq_true rfl⟩ hl.1 (Nat.le_of_ble_eq_true rfl) dX8_givePier_39 (fun H locs hP hS => ?_)
        refine lv_goto (tgt := 48) C.1 C.2.1 dX8_givePier_42 (by decide) ?_
        exact w_X8_givePier_48 hA C hX _ _ _ _ _ _ _ _ hf hP hS (lv_sub hl [1, 2, 4, 0] rfl)
    · have hf := g_t hc hf
      exact w_X8_givePier_27 hA C hX _ _ _ _ _ _ _ hf hP hS (lv_sub hl [1, 2, 4, 0] rfl)
set_option maxRecDepth 100000 in
set_option maxHeartbeats 4000000 in
theorem w_X8_givePier_16 {p : Program} {l : Launch} {e : Env} {s : State} {m : MethodId} {args : Array Value} {below : List Frame} {meth : Method} {c : Code} {D : va_G} {ids : Nat → ClassId} {ad : Nat → Nat} {rv : Hp} (hA : adOk ad 12) (C : CX p s m args meth c cX8_givePier 7 none RX8 D ids) (hX : ExM s s.heap) : ∀ (h : Hp) (x1 : Int32) (x2 : Int32) (x3 : Int32) (H : Heap) (locs : List Loc) (ls : Array Slot), f_X8_givePier_16 h x1 x2 x3 = some rv → wp D (cEM ids ad) ad 12 h H → va_S (inW ad 12) s.heap H locs → lv_has ls 7 [(0, .ref (ad 0)), (1, .int x1), (2, .int x2), (3, .int x3)] → W p l e rm_X8_givePier s m args below meth c H locs 0 0 (MQ below (QW D (cEM ids ad) ad 12 none rv) args s 0 0 (inW ad 12)) (F0 m 16 ls []) := by
  intro h x1 x2 x3 H locs ls hf hP hS hl
  unfold f_X8_givePier_16 at hf
  refine lv_iconst (v := (0 : Int32)) C.1 C.2.1 dX8_givePier_16 (by decide) ?_
  exact w_X8_givePier_17 hA C hX _ _ _ _ _ _ _ _ hf hP hS (lv_sub hl [0, 1, 2, 3] rfl)
set_option maxRecDepth 100000 in
set_option maxHeartbeats 4000000 in
theorem w_X8_givePier {p : Program} {l : Launch} {e : Env} {s : State} {m : MethodId} {args : Array Value} {below : List Frame} {meth : Method} {c : Code} {D : va_G} {ids : Nat → ClassId} {ad : Nat → Nat} {rv : Hp} (hA : adOk ad 12) (C : CX p s m args meth c cX8_givePier 7 none RX8 D ids) (hX : ExM s s.heap) : ∀ (h : Hp) (a1 : Int32) (a2 : Int32) (a3 : Int32) (H : Heap) (locs : List Loc) (ls : Array Slot), f_X8_givePier h a1 a2 a3 = some rv → wp D (cEM ids ad) ad 12 h H → va_S (inW ad 12) s.heap H locs → lv_has ls 7 [(0, .ref (ad 0)), (1, .int a1), (2, .int a2), (3, .int a3)] → W p l e rm_X8_givePier s m args below meth c H locs 0 0 (MQ below (QW D (cEM ids ad) ad 12 none rv) args s 0 0 (inW ad 12)) (F0 m 0 ls []) := by
  intro h a1 a2 a3 H locs ls hf hP hS hl
  unfold f_X8_givePier at hf
  refine lv_iload_n C.1 C.2.1 dX8_givePier_0 rfl (lv_at hl 2 rfl) ?_
  refine lv_if_ne (tgt := 16) C.1 C.2.1 dX8_givePier_1 (by decide) (fun hc => ?_) (fun hc => ?_)
  · have hf := g_f hc hf
    exact w_X8_givePier_16 hA C hX _ _ _ _ _ _ _ hf hP hS (lv_sub hl [0, 1, 2, 3] rfl)
  · have hf := g_t hc hf
    refine lv_iload_n C.1 C.2.1 dX8_givePier_4 rfl (lv_at hl 1 rfl) ?_
    obtain ⟨q1, eq1, hf⟩ := g_b hf
    refine cv_X8_81 hA C hX hP hS eq1 ⟨Nat.le_of_ble_eq_true rfl, Nat.le_of_ble_eq_true rfl⟩ hl.1 (Nat.le_of_ble_eq_true rfl) dX8_givePier_5 (fun H locs hP hS => ?_)
    refine lv_iconst (v := (1 : Int32)) C.1 C.2.1 dX8_givePier_8 (by decide) ?_
    refine lv_icmp_le (tgt := 16) C.1 C.2.1 dX8_givePier_9 (by decide) (fun hc => ?_) (fun hc => ?_)
    · have hf := g_t hc hf
      exact w_X8_givePier_16 hA C hX _ _ _ _ _ _ _ hf hP hS (lv_sub hl [0, 1, 2, 3] rfl)
    · have hf := g_f hc hf
      refine lv_iconst (v := (1 : Int32)) C.1 C.2.1 dX8_givePier_12 (by decide) ?_
      refine lv_goto (tgt := 17) C.1 C.2.1 dX8_givePier_13 (by decide) ?_
      exact w_X8_givePier_17 hA C hX _ _ _ _ _ _ _ _ hf hP hS (lv_sub hl [0, 1, 2, 3] rfl)
theorem c_X8_givePier (l : Launch) (D : va_G) (ids : Nat → ClassId) (ad : Nat → Nat) (hA : adOk ad 12) {a1 : Int32} {a2 : Int32} {a3 : Int32} {h : Hp} {rv : Hp} (hf : f_X8_givePier h a1 a2 a3 = some rv) : Met l yX8_givePier (ws_ yX8_givePier cX8_givePier 7 none) rm_X8_givePier (va_Pc [.ref (ad 0), .int a1, .int a2, .int a3] (WB D ids (cEM ids ad) ad 12 ExM h)) (QW D (cEM ids ad) ad 12 none rv) 0 0 (inW ad 12) :=
  u_met (own := RX8) (by decide) rfl (Nat.le_of_ble_eq_true rfl) rfl (fun p e s m args below meth c H ls C hX hP hS hl => w_X8_givePier hA C hX _ _ _ _ _ _ _ hf hP hS hl)
