theorem cv_X4_73 {p : Program} {l : Launch} {e : Env} {R : Room} {s : State} {m : MethodId} {args : Array Value} {below : List Frame} {meth : Method} {c : Code} {H : Heap} {locs : List Loc} {Q : State → Prop} {cc : ByteArray} {nL : Nat} {ret : Option FieldType} {pc : Nat} {ls : Array Slot} {rest : List Value} {D : va_G} {ids : Nat → ClassId} {ad tt : Nat → Nat} {h : Hp} (hA : adOk ad 59) (C : CX p s m args meth c cc nL ret RX4 D ids) (hX : (ExC tt ad) s s.heap) (hP : wp D (cEC ids ad) ad 59 h H) (hS : va_S (inW ad 59) s.heap H locs) {k : Nat} (hk : isX3 k) {a1 : Int32} {rv : Int32 × Hp} (hf : f_X3_isLesson h k a1 = some rv) (hR : 0 + 1 ≤ R.frames ∧ 8 + (2 + 11) + 0 ≤ R.locals) (hsz : ls.size = nL) (hcat : (rest.map fun v => v.category).sum ≤ 8) (hdg : decode cc pc = .ok (.invokevirtual 73, 3)) (kk : ∀ (H1 : Heap) (locs1 : List Loc), wp D (cEC ids ad) ad 59 rv.2 H1 → va_S (inW ad 59) s.heap H1 locs1 → W p l e R s m args below meth c H1 locs1 0 0 Q (F0 m (pc + 3) ls (.int rv.1 :: rest))) : W p l e R s m args below meth c H locs 0 0 Q (F0 m pc ls (.int a1 :: .ref (ad k) :: rest)) :=
  u_callV (As := [.int a1]) (rv := (some (.int rv.1))) C (exC_ok hA) hX (c_X3_isLesson l D ids ad tt hA hk hf) q_417 q_345 q_346 q_88 q_347 ⟨rfl, rfl⟩ (by refine ⟨by decide +kernel, by decide +kernel, ?_⟩; show _ = some 1; decide +kernel) hR (lt_X3 hk) (cE_X3 hk _) rfl hP hS hsz hcat rfl hdg kk
abbrev rm_X4_learners : Room := { frames := 1, cells := 0, slots := 0, locals := 21 }
set_option maxRecDepth 100000 in
set_option maxHeartbeats 4000000 in
theorem w_X4_learners_28 {p : Program} {l : Launch} {e : Env} {s : State} {m : MethodId} {args : Array Value} {below : List Frame} {meth : Method} {c : Code} {D : va_G} {ids : Nat → ClassId} {ad tt : Nat → Nat} {rv : Int32 × Hp} (hA : adOk ad 59) (C : CX p s m args meth c cX4_learners 4 (some .int) RX4 D ids) (hX : (ExC tt ad) s s.heap) {K4 : Hp → Int32 → Int32 → Int32 → Option (Int32 × Hp)} (hK4 : ∀ (h : Hp) (x1 : Int32) (x2 : Int32) (x3 : Int32) (H : Heap) (locs : List Loc) (ls : Array Slot), K4 h x1 x2 x3 = some rv → wp D (cEC ids ad) ad 59 h H → va_S (inW ad 59) s.heap H locs → lv_has ls 4 [(0, .ref (ad 48)), (1, .int x1), (2, .int x2), (3, .int x3)] → W p l e rm_X4_learners s m args below meth c H locs 0 0 (MQ below (QW D (cEC ids ad) ad 59 (some (.int rv.1)) rv.2) args s 0 0 (inW ad 59)) (F0 m 4 ls [])) : ∀ (h : Hp) (x1 : Int32) (x2 : Int32) (x3 : Int32) (H : Heap) (locs : List Loc) (ls : Array Slot), f_X4_learners_28 K4 h x1 x2 x3 = some rv → wp D (cEC ids ad) ad 59 h H → va_S (inW ad 59) s.heap H locs → lv_has ls 4 [(0, .ref (ad 48)), (1, .int x1), (2, .int x2), (3, .int x3)] → W p l e rm_X4_learners s m args below meth c H locs 0 0 (MQ below (QW D (cEC ids ad) ad 59 (some (.int rv.1)) rv.2) args s 0 0 (inW ad 59)) (F0 m 28 ls []) := by
  intro h x1 x2 x3 H locs ls hf hP hS hl
  unfold f_X4_learners_28 at hf
  refine lv_iinc (v := (x3 + 1)) (lv' := [(3, .int (x3 + 1)), (0, .ref (ad 48)), (1, .int x1), (2, .int x2)]) C.1 C.2.1 dX4_learners_28 hl (k := 3) rfl (by rfl) (by decide) rfl (fun ls hl => ?_)
  refine lv_goto (tgt := 4) C.1 C.2.1 dX4_learners_31 (by decide) ?_
  exact hK4 _ _ _ _ _ _ _ hf hP hS (lv_sub hl [1, 2, 3, 0] rfl)
set_option maxRecDepth 100000 in
set_option maxHeartbeats 4000000 in
theorem w_X4_learners_4 {p : Program} {l : Launch} {e : Env} {s : State} {m : MethodId} {args : Array Value} {below : List Frame} {meth : Method} {c : Code} {D : va_G} {ids : Nat → ClassId} {ad tt : Nat → Nat} {rv : Int32 × Hp} (hA : adOk ad 59) (C : CX p s m args meth c cX4_learners 4 (some .int) RX4 D ids) (hX : (ExC tt ad) s s.heap) : ∀ (fu : Nat), ∀ (h : Hp) (x1 : Int32) (x2 : Int32) (x3 : Int32) (H : Heap) (locs : List Loc) (ls : Array Slot), f_X4_learners_4 fu h x1 x2 x3 = some rv → wp D (cEC ids ad) ad 59 h H → va_S (inW ad 59) s.heap H locs → lv_has ls 4 [(0, .ref (ad 48)), (1, .int x1), (2, .int x2), (3, .int x3)] → W p l e rm_X4_learners s m args below meth c H locs 0 0 (MQ below (QW D (cEC ids ad) ad 59 (some (.int rv.1)) rv.2) args s 0 0 (inW ad 59)) (F0 m 4 ls []) := by
  intro fu
  induction fu with
  | zero =>
    intro h x1 x2 x3 H locs ls hf hP hS hl
    cases hf
  | succ fu ih =>
    intro h x1 x2 x3 H locs ls hf hP hS hl
    rw [f_X4_learners_4_s] at hf
    refine lv_iload_n C.1 C.2.1 dX4_learners_4 rfl (lv_at hl 3 rfl) ?_
    refine lv_iconst (v := (3 : Int32)) C.1 C.2.1 dX4_learners_5 (by decide) ?_
    refine lv_icmp_ge (tgt := 34) C.1 C.2.1 dX4_learners_6 (by decide) (fun hc => ?_) (fun hc => ?_)
    · have hf := g_t hc hf
      refine lv_iload_n C.1 C.2.1 dX4_learners_34 rfl (lv_at hl 2 rfl) ?_
      obtain rfl := Option.some.inj hf
      exact u_iret C hP hS dX4_learners_35
    · have hf := g_f hc hf
      refine lv_aload_n C.1 C.2.1 dX4_learners_9 rfl (lv_at hl 0 rfl) ?_
      refine gf_X4_12 C hP dX4_learners_10 ?_
      refine lv_iload_n C.1 C.2.1 dX4_learners_13 rfl (lv_at hl 3 rfl) ?_
      obtain ⟨hg1, hf⟩ := g_if hf
      refine rl_aFe C hP hg1 dX4_learners_14 ?_
      refine lv_iload_n C.1 C.2.1 dX4_learners_15 rfl (lv_at hl 1 rfl) ?_
      obtain ⟨q2, eq2, hf⟩ := g_b hf
      refine cv_X4_73 hA C hX hP hS (fe_el hg1) eq2 ⟨Nat.le_of_ble_eq_true rfl, Nat.le_of_ble_eq_true rfl⟩ hl.1 (Nat.le_of_ble_eq_true rfl) dX4_learners_16 (fun H locs hP hS => ?_)
      refine lv_if_eq (tgt := 28) C.1 C.2.1 dX4_learners_19 (by decide) (fun hc => ?_) (fun hc => ?_)
      · have hf := g_t hc hf
        exact w_X4_learners_28 hA C hX ih _ _ _ _ _ _ _ hf hP hS (lv_sub hl [0, 1, 2, 3] rfl)
      · have hf := g_f hc hf
        refine lv_iload_n C.1 C.2.1 dX4_learners_22 rfl (lv_at hl 2 rfl) ?_
        refine lv_iconst (v := (1 : Int32)) C.1 C.2.1 dX4_learners_23 (by decide) ?_
        refine lv_iload_n C.1 C.2.1 dX4_learners_24 rfl (lv_at hl 3 rfl) ?_
        refine lv_ishl C.1 C.2.1 dX4_learners_25 ?_
        refine lv_ior C.1 C.2.1 dX4_learners_26 ?_
        refine lv_istore_n (lv' := [(2, .int (x2 ||| ((1 : Int32) <<< (x3 &&& 31)))), (0, .ref (ad 48)), (1, .int x1), (3, .int x3)]) C.1 C.2.1 dX4_learners_27 rfl hl (by decide) rfl (fun ls hl => ?_)
        exact w_X4_learners_28 hA C hX ih _ _ _ _ _ _ _ hf hP hS (lv_sub hl [1, 2, 0, 3] rfl)
set_option maxRecDepth 100000 in
set_option maxHeartbeats 4000000 in
theorem w_X4_learners {p : Program} {l : Launch} {e : Env} {s : State} {m : MethodId} {args : Array Value} {below : List Frame} {meth : Method} {c : Code} {D : va_G} {ids : Nat → ClassId} {ad tt : Nat → Nat} {rv : Int32 × Hp} (hA : adOk ad 59) (C : CX p s m args meth c cX4_learners 4 (some .int) RX4 D ids) (hX : (ExC tt ad) s s.heap) : ∀ (h : Hp) (a1 : Int32) (H : Heap) (locs : List Loc) (ls : Array Slot), f_X4_learners h a1 = some rv → wp D (cEC ids ad) ad 59 h H → va_S (inW ad 59) s.heap H locs → lv_has ls 4 [(0, .ref (ad 48)), (1, .int a1)] → W p l e rm_X4_learners s m args below meth c H locs 0 0 (MQ below (QW D (cEC ids ad) ad 59 (some (.int rv.1)) rv.2) args s 0 0 (inW ad 59)) (F0 m 0 ls []) := by
  intro h a1 H locs ls hf hP hS hl
  unfold f_X4_learners at hf
  refine lv_iconst (v := (0 : Int32)) C.1 C.2.1 dX4_learners_0 (by decide) ?_
  refine lv_istore_n (lv' := [(2, .int (0 : Int32)), (0, .ref (ad 48)), (1, .int a1)]) C.1 C.2.1 dX4_learners_1 rfl hl (by decide) rfl (fun ls hl => ?_)
  refine lv_iconst (v := (0 : Int32)) C.1 C.2.1 dX4_learners_2 (by decide) ?_
  refine lv_istore_n (lv' := [(3, .int (0 : Int32)), (2, .int (0 : Int32)), (0, .ref (ad 48)), (1, .int a1)]) C.1 C.2.1 dX4_learners_3 rfl hl (by decide) rfl (fun ls hl => ?_)
  exact w_X4_learners_4 hA C hX _ _ _ _ _ _ _ _ hf hP hS (lv_sub hl [2, 3, 1, 0] rfl)
theorem c_X4_learners (l : Launch) (D : va_G) (ids : Nat → ClassId) (ad tt : Nat → Nat) (hA : adOk ad 59) {a1 : Int32} {h : Hp} {rv : Int32 × Hp} (hf : f_X4_learners h a1 = some rv) : Met l yX4_learners (ws_ yX4_learners cX4_learners 4 (some .int)) rm_X4_learners (va_Pc [.ref (ad 48), .int a1] (WB D ids (cEC ids ad) ad 59 (ExC tt ad) h)) (QW D (cEC ids ad) ad 59 (some (.int rv.1)) rv.2) 0 0 (inW ad 59) :=
  u_met (own := RX4) (by decide) rfl (Nat.le_of_ble_eq_true rfl) rfl (fun p e s m args below meth c H ls C hX hP hS hl => w_X4_learners (tt := tt) hA C hX _ _ _ _ _ hf hP hS hl)
theorem gf_X7_183 {p : Program} {l : Launch} {e : Env} {R : Room} {s : State} {m : MethodId} {args : Array Value} {below : List Frame} {meth : Method} {c : Code} {H : Heap} {locs : List Loc} {cells slots : Nat} {Q : State → Prop} {cc : ByteArray} {nL : Nat} {ret : Option FieldType} {pc : Nat} {ls : Array Slot} {rest : List Value} {D : va_G} {ids : Nat → ClassId} {ad : Nat → Nat} {h : Hp} (C : CX p s m args meth c cc nL ret RX7 D ids) (hP : wp D (cEC ids ad) ad 59 h H) (hdg : decode cc pc = .ok (.getfield 183, 3)) (kk : W p l e R s m args below meth c H locs cells slots Q (F0 m (pc + 3) ls (.int (h 48 2) :: rest))) : W p l e R s m args below meth c H locs cells slots Q (F0 m pc ls (.ref (ad 48) :: rest)) :=
  u_get C hP (by decide) cE_X4 rfl inX4 2 (by decide) rfl q_411 hdg kk
theorem gf_X7_184 {p : Program} {l : Launch} {e : Env} {R : Room} {s : State} {m : MethodId} {args : Array Value} {below : List Frame} {meth : Method} {c : Code} {H : Heap} {locs : List Loc} {cells slots : Nat} {Q : State → Prop} {cc : ByteArray} {nL : Nat} {ret : Option FieldType} {pc : Nat} {ls : Array Slot} {rest : List Value} {D : va_G} {ids : Nat → ClassId} {ad : Nat → Nat} {h : Hp} (C : CX p s m args meth c cc nL ret RX7 D ids) {k : Nat} (hk : isX5 k) (hP : wp D (cEC ids ad) ad 59 h H) (hdg : decode cc pc = .ok (.getfield 184, 3)) (kk : W p l e R s m args below meth c H locs cells slots Q (F0 m (pc + 3) ls (.int (h k 2) :: rest))) : W p l e R s m args below meth c H locs cells slots Q (F0 m pc ls (.ref (ad k) :: rest)) :=
  u_get C hP (lt_X5 hk) (cE_X5 hk) rfl inX5 2 (by decide) rfl q_412 hdg kk
theorem cv_X7_187 {p : Program} {l : Launch} {e : Env} {R : Room} {s : State} {m : MethodId} {args : Array Value} {below : List Frame} {meth : Method} {c : Code} {H : Heap} {locs : List Loc} {Q : State → Prop} {cc : ByteArray} {nL : Nat} {ret : Option FieldType} {pc : Nat} {ls : Array Slot} {rest : List Value} {D : va_G} {ids : Nat → ClassId} {ad tt : Nat → Nat} {h : Hp} (hA : adOk ad 59) (C : CX p s m args meth c cc nL ret RX7 D ids) (hX : (ExC tt ad) s s.heap) (hP : wp D (cEC ids ad) ad 59 h H) (hS : va_S (inW ad 59) s.heap H locs) {a1 : Int32} {rv : Int32 × Hp} (hf : f_X4_learners h a1 = some rv) (hR : 1 + 1 ≤ R.frames ∧ 8 + (4 + 11) + 21 ≤ R.locals) (hsz : ls.size = nL) (hcat : (rest.map fun v => v.category).sum ≤ 8) (hdg : decode cc pc = .ok (.invokevirtual 187, 3)) (kk : ∀ (H1 : Heap) (locs1 : List Loc), wp D (cEC ids ad) ad 59 rv.2 H1 → va_S (inW ad 59) s.heap H1 locs1 → W p l e R s m args below meth c H1 locs1 0 0 Q (F0 m (pc + 3) ls (.int rv.1 :: rest))) : W p l e R s m args below meth c H locs 0 0 Q (F0 m pc ls (.int a1 :: .ref (ad 48) :: rest)) :=
  u_callV (As := [.int a1]) (rv := (some (.int rv.1))) C (exC_ok hA) hX (c_X4_learners l D ids ad tt hA hf) q_413 q_414 q_415 q_28 q_416 ⟨rfl, rfl⟩ (by refine ⟨by decide +kernel, by decide +kernel, ?_⟩; show _ = some 1; decide +kernel) hR (by decide) (cE_X4 _) rfl hP hS hsz hcat rfl hdg kk
abbrev rm_X7_ifSailed : Room := { frames := 5, cells := 0, slots := 0, locals := 114 }
set_option maxRecDepth 100000 in
set_option maxHeartbeats 4000000 in
theorem w_X7_ifSailed {p : Program} {l : Launch} {e : Env} {s : State} {m : MethodId} {args : Array Value} {below : List Frame} {meth : Method} {c : Code} {D : va_G} {ids : Nat → ClassId} {ad tt : Nat → Nat} {rv : Int32 × Hp} (hA : adOk ad 59) (C : CX p s m args meth c cX7_ifSailed 2 (some .int) RX7 D ids) (hX : (ExC tt ad) s s.heap) : ∀ (h : Hp) (a1 : Int32) (H : Heap) (locs : List Loc) (ls : Array Slot), f_X7_ifSailed h a1 = some rv → wp D (cEC ids ad) ad 59 h H → va_S (inW ad 59) s.heap H locs → lv_has ls 2 [(0, .ref (ad 0)), (1, .int a1)] → W p l e rm_X7_ifSailed s m args below meth c H locs 0 0 (MQ below (QW D (cEC ids ad) ad 59 (some (.int rv.1)) rv.2) args s 0 0 (inW ad 59)) (F0 m 0 ls []) := by
  intro h a1 H locs ls hf hP hS hl
  unfold f_X7_ifSailed at hf
  refine lv_aload_n C.1 C.2.1 dX7_ifSailed_0 rfl (lv_at hl 0 rfl) ?_
  refine gf_X7_51 C hP dX7_ifSailed_1 ?_
  refine lv_aload_n C.1 C.2.1 dX7_ifSailed_4 rfl (lv_at hl 0 rfl) ?_
  refine gf_X7_12 C hP dX7_ifSailed_5 ?_
  obtain ⟨q1, eq1, hf⟩ := g_b hf
  refine cv_X7_110 hA C hX hP hS pX5_1 eq1 ⟨Nat.le_of_ble_eq_true rfl, Nat.le_of_ble_eq_true rfl⟩ hl.1 (Nat.le_of_ble_eq_true rfl) dX7_ifSailed_8 (fun H locs hP hS => ?_)
  refine lv_iload_n C.1 C.2.1 dX7_ifSailed_11 rfl (lv_at hl 1 rfl) ?_
  by_cases hc0 : a1 = 0
  · have hf := g_t hc0 hf
    refine lv_tableIn (off := 40) (tgt := 52) C.1 C.2.1 dX7_ifSailed_12 (by rw [hc0]; decide) (by rw [hc0]; decide) (by rw [hc0]; rfl) (by decide) ?_
    refine lv_aload_n C.1 C.2.1 dX7_ifSailed_52 rfl (lv_at hl 0 rfl) ?_
    refine gf_X7_51 C hP dX7_ifSailed_53 ?_
    refine lv_iconst (v := (5 : Int32)) C.1 C.2.1 dX7_ifSailed_56 (by decide) ?_
    obtain ⟨q2, eq2, hf⟩ := g_b hf
    refine cv_X7_117 hA C hX hP hS eq2 ⟨Nat.le_of_ble_eq_true rfl, Nat.le_of_ble_eq_true rfl⟩ hl.1 (Nat.le_of_ble_eq_true rfl) dX7_ifSailed_57 (fun H locs hP hS => ?_)
    obtain rfl := Option.some.inj hf
    exact u_iret C hP hS dX7_ifSailed_60
  · have hf := g_f hc0 hf
    by_cases hc1 : a1 = 1
    · have hf := g_t hc1 hf
      refine lv_tableIn (off := 49) (tgt := 61) C.1 C.2.1 dX7_ifSailed_12 (by rw [hc1]; decide) (by rw [hc1]; decide) (by rw [hc1]; rfl) (by decide) ?_
      refine lv_aload_n C.1 C.2.1 dX7_ifSailed_61 rfl (lv_at hl 0 rfl) ?_
      refine gf_X7_51 C hP dX7_ifSailed_62 ?_
      refine lv_bipush (v := (9 : Int32)) C.1 C.2.1 dX7_ifSailed_65 (by decide) ?_
      obtain ⟨q3, eq3, hf⟩ := g_b hf
      refine cv_X7_117 hA C hX hP hS eq3 ⟨Nat.le_of_ble_eq_true rfl, Nat.le_of_ble_eq_true rfl⟩ hl.1 (Nat.le_of_ble_eq_true rfl) dX7_ifSailed_67 (fun H locs hP hS => ?_)
      obtain rfl := Option.some.inj hf
      exact u_iret C hP hS dX7_ifSailed_70
    · have hf := g_f hc1 hf
      by_cases hc2 : a1 = 2
      · have hf := g_t hc2 hf
        refine lv_tableIn (off := 59) (tgt := 71) C.1 C.2.1 dX7_ifSailed_12 (by rw [hc2]; decide) (by rw [hc2]; decide) (by rw [hc2]; rfl) (by decide) ?_
        refine lv_aload_n C.1 C.2.1 dX7_ifSailed_71 rfl (lv_at hl 0 rfl) ?_
        refine gf_X7_51 C hP dX7_ifSailed_72 ?_
        refine lv_bipush (v := (6 : Int32)) C.1 C.2.1 dX7_ifSailed_75 (by decide) ?_
        obtain ⟨q4, eq4, hf⟩ := g_b hf
        refine cv_X7_117 hA C hX hP hS eq4 ⟨Nat.le_of_ble_eq_true rfl, Nat.le_of_ble_eq_true rfl⟩ hl.1 (Nat.le_of_ble_eq_true rfl) dX7_ifSailed_77 (fun H locs hP hS => ?_)
        obtain rfl := Option.some.inj hf
        exact u_iret C hP hS dX7_ifSailed_80
      · have hf := g_f hc2 hf
        by_cases hc3 : a1 = 3
        · have hf := g_t hc3 hf
          refine lv_tableIn (off := 69) (tgt := 81) C.1 C.2.1 dX7_ifSailed_12 (by rw [hc3]; decide) (by rw [hc3]; decide) (by rw [hc3]; rfl) (by decide) ?_
          refine lv_aload_n C.1 C.2.1 dX7_ifSailed_81 rfl (lv_at hl 0 rfl) ?_
          refine gf_X7_51 C hP dX7_ifSailed_82 ?_
          refine lv_bipush (v := (7 : Int32)) C.1 C.2.1 dX7_ifSailed_85 (by decide) ?_
          obtain ⟨q5, eq5, hf⟩ := g_b hf
          refine cv_X7_117 hA C hX hP hS eq5 ⟨Nat.le_of_ble_eq_true rfl, Nat.le_of_ble_eq_true rfl⟩ hl.1 (Nat.le_of_ble_eq_true rfl) dX7_ifSailed_87 (fun H locs hP hS => ?_)
          obtain rfl := Option.some.inj hf
          exact u_iret C hP hS dX7_ifSailed_90
        · have hf := g_f hc3 hf
          by_cases hc4 : a1 = 4
          · have hf := g_t hc4 hf
            refine lv_tableIn (off := 79) (tgt := 91) C.1 C.2.1 dX7_ifSailed_12 (by rw [hc4]; decide) (by rw [hc4]; decide) (by rw [hc4]; rfl) (by decide) ?_
            refine lv_aload_n C.1 C.2.1 dX7_ifSailed_91 rfl (lv_at hl 0 rfl) ?_
            refine gf_X7_51 C hP dX7_ifSailed_92 ?_
            refine gf_X7_183 C hP dX7_ifSailed_95 ?_
            obtain rfl := Option.some.inj hf
            exact u_iret C hP hS dX7_ifSailed_98
          · have hf := g_f hc4 hf
            by_cases hc5 : a1 = 5
            · have hf := g_t hc5 hf
              refine lv_tableIn (off := 87) (tgt := 99) C.1 C.2.1 dX7_ifSailed_12 (by rw [hc5]; decide) (by rw [hc5]; decide) (by rw [hc5]; rfl) (by decide) ?_
              refine lv_aload_n C.1 C.2.1 dX7_ifSailed_99 rfl (lv_at hl 0 rfl) ?_
              refine gf_X7_51 C hP dX7_ifSailed_100 ?_
              refine lv_aload_n C.1 C.2.1 dX7_ifSailed_103 rfl (lv_at hl 0 rfl) ?_
              refine gf_X7_12 C hP dX7_ifSailed_104 ?_
              refine gf_X7_184 C pX5_1 hP dX7_ifSailed_107 ?_
              obtain ⟨q6, eq6, hf⟩ := g_b hf
              refine cv_X7_187 hA C hX hP hS eq6 ⟨Nat.le_of_ble_eq_true rfl, Nat.le_of_ble_eq_true rfl⟩ hl.1 (Nat.le_of_ble_eq_true rfl) dX7_ifSailed_110 (fun H locs hP hS => ?_)
              obtain rfl := Option.some.inj hf
              exact u_iret C hP hS dX7_ifSailed_113
            · have hf := g_f hc5 hf
              have hsw : a1.toInt < 0 ∨ 5 < a1.toInt := by
                have zhc0 := lv_neT hc0 (show (0 : Int32).toInt = 0 by decide)
                have zhc1 := lv_neT hc1 (show (1 : Int32).toInt = 1 by decide)
                have zhc2 := lv_neT hc2 (show (2 : Int32).toInt = 2 by decide)
                have zhc3 := lv_neT hc3 (show (3 : Int32).toInt = 3 by decide)
                have zhc4 := lv_neT hc4 (show (4 : Int32).toInt = 4 by decide)
                have zhc5 := lv_neT hc5 (show (5 : Int32).toInt = 5 by decide)
                omega
              refine lv_tableOut (tgt := 114) C.1 C.2.1 dX7_ifSailed_12 hsw (by decide) ?_
              refine lv_bipush (v := (-2 : Int32)) C.1 C.2.1 dX7_ifSailed_114 (by decide) ?_
              obtain rfl := Option.some.inj hf
              exact u_iret C hP hS dX7_ifSailed_116
theorem c_X7_ifSailed (l : Launch) (D : va_G) (ids : Nat → ClassId) (ad tt : Nat → Nat) (hA : adOk ad 59) {a1 : Int32} {h : Hp} {rv : Int32 × Hp} (hf : f_X7_ifSailed h a1 = some rv) : Met l yX7_ifSailed (ws_ yX7_ifSailed cX7_ifSailed 2 (some .int)) rm_X7_ifSailed (va_Pc [.ref (ad 0), .int a1] (WB D ids (cEC ids ad) ad 59 (ExC tt ad) h)) (QW D (cEC ids ad) ad 59 (some (.int rv.1)) rv.2) 0 0 (inW ad 59) :=
  u_met (own := RX7) (by decide) rfl (Nat.le_of_ble_eq_true rfl) rfl (fun p e s m args below meth c H ls C hX hP hS hl => w_X7_ifSailed (tt := tt) hA C hX _ _ _ _ _ hf hP hS hl)
theorem gf_X7_38 {p : Program} {l : Launch} {e : Env} {R : Room} {s : State} {m : MethodId} {args : Array Value} {below : List Frame} {meth : Method} {c : Code} {H : Heap} {locs : List Loc} {cells slots : Nat} {Q : State → Prop} {cc : ByteArray} {nL : Nat} {ret : Option FieldType} {pc : Nat} {ls : Array Slot} {rest : List Value} {D : va_G} {ids : Nat → ClassId} {ad : Nat → Nat} {h : Hp} (C : CX p s m args meth c cc nL ret RX7 D ids) (hP : wp D (cEC ids ad) ad 59 h H) (hdg : decode cc pc = .ok (.getfield 38, 3)) (kk : W p l e R s m args below meth c H locs cells slots Q (F0 m (pc + 3) ls (.ref (ad 31) :: rest))) : W p l e R s m args below meth c H locs cells slots Q (F0 m pc ls (.ref (ad 0) :: rest)) :=
  u_get C hP (by decide) cE_X7 rfl inX7 6 (by decide) rfl q_21 hdg kk
theorem pf_X7_190 {p : Program} {l : Launch} {e : Env} {R : Room} {s : State} {m : MethodId} {args : Array Value} {below : List Frame} {meth : Method} {c : Code} {H : Heap} {locs : List Loc} {cells slots : Nat} {Q : State → Prop} {cc : ByteArray} {nL : Nat} {ret : Option FieldType} {pc : Nat} {ls : Array Slot} {rest : List Value} {D : va_G} {ids : Nat → ClassId} {ad : Nat → Nat} {h : Hp} {x : Int32} (hA : adOk ad 59) (C : CX p s m args meth c cc nL ret RX7 D ids) {k : Nat} (hk : isX2 k) (hP : wp D (cEC ids ad) ad 59 h H) (hS : va_S (inW ad 59) s.heap H locs) (hdg : decode cc pc = .ok (.putfield 190, 3)) (kk : ∀ (H1 : Heap) (locs1 : List Loc), wp D (cEC ids ad) ad 59 (hs h k 2 x) H1 → va_S (inW ad 59) s.heap H1 locs1 → W p l e R s m args below meth c H1 locs1 cells slots Q (F0 m (pc + 3) ls rest)) : W p l e R s m args below meth c H locs cells slots Q (F0 m pc ls (.int x :: .ref (ad k) :: rest)) :=
  u_put hA C hP hS (lt_X2 hk) (cE_X2 hk) rfl inX2 tyX2 tyX2_ok nmX2 2 (by decide) rfl q_422 rfl (ty := .int) rfl rfl rfl hdg kk
abbrev rm_X7_bestHour : Room := { frames := 4, cells := 0, slots := 0, locals := 88 }
set_option maxRecDepth 100000 in
set_option maxHeartbeats 4000000 in
theorem w_X7_bestHour_115 {p : Program} {l : Launch} {e : Env} {s : State} {m : MethodId} {args : Array Value} {below : List Frame} {meth : Method} {c : Code} {D : va_G} {ids : Nat → ClassId} {ad tt : Nat → Nat} {rv : Int32 × Hp} (hA : adOk ad 59) (C : CX p s m args meth c cX7_bestHour 8 (some .int) RX7 D ids) (hX : (ExC tt ad) s s.heap) {K31 : Hp → Int32 → Int32 → Int32 → Int32 → Int32 → Option (Int32 × Hp)} (hK31 : ∀ (h : Hp) (x1 : Int32) (x2 : Int32) (x3 : Int32) (x4 : Int32) (x5 : Int32) (H : Heap) (locs : List Loc) (ls : Array Slot), K31 h x1 x2 x3 x4 x5 = some rv → wp D (cEC ids ad) ad 59 h H → va_S (inW ad 59) s.heap H locs → lv_has ls 8 [(0, .ref (ad 0)), (1, .int x1), (2, .int x2), (3, .int x3), (4, .int x4), (5, .int x5)] → W p l e rm_X7_bestHour s m args below meth c H locs 0 0 (MQ below (QW D (cEC ids ad) ad 59 (some (.int rv.1)) rv.2) args s 0 0 (inW ad 59)) (F0 m 31 ls [])) : ∀ (h : Hp) (x1 : Int32) (x2 : Int32) (x3 : Int32) (x4 : Int32) (x5 : Int32) (H : Heap) (locs : List Loc) (ls : Array Slot), f_X7_bestHour_115 K31 h x1 x2 x3 x4 x5 = some rv → wp D (cEC ids ad) ad 59 h H → va_S (inW ad 59) s.heap H locs → lv_has ls 8 [(0, .ref (ad 0)), (1, .int x1), (2, .int x2), (3, .int x3), (4, .int x4), (5, .int x5)] → W p l e rm_X7_bestHour s m args below meth c H locs 0 0 (MQ below (QW D (cEC ids ad) ad 59 (some (.int rv.1)) rv.2) args s 0 0 (inW ad 59)) (F0 m 115 ls []) := by
  intro h x1 x2 x3 x4 x5 H locs ls hf hP hS hl
  unfold f_X7_bestHour_115 at hf
  refine lv_iinc (v := (x5 + 1)) (lv' := [(5, .int (x5 + 1)), (0, .ref (ad 0)), (1, .int x1), (2, .int x2), (3, .int x3), (4, .int x4)]) C.1 C.2.1 dX7_bestHour_115 hl (k := 5) rfl (by rfl) (by decide) rfl (fun ls hl => ?_)
  refine lv_goto (tgt := 31) C.1 C.2.1 dX7_bestHour_118 (by decide) ?_
  exact hK31 _ _ _ _ _ _ _ _ _ hf hP hS (lv_sub hl [1, 2, 3, 4, 5, 0] rfl)
set_option maxRecDepth 100000 in
set_option maxHeartbeats 4000000 in
theorem w_X7_bestHour_105 {p : Program} {l : Launch} {e : Env} {s : State} {m : MethodId} {args : Array Value} {below : List Frame} {meth : Method} {c : Code} {D : va_G} {ids : Nat → ClassId} {ad tt : Nat → Nat} {rv : Int32 × Hp} (hA : adOk ad 59) (C : CX p s m args meth c cX7_bestHour 8 (some .int) RX7 D ids) (hX : (ExC tt ad) s s.heap) {K31 : Hp → Int32 → Int32 → Int32 → Int32 → Int32 → Option (Int32 × Hp)} (hK31 : ∀ (h : Hp) (x1 : Int32) (x2 : Int32) (x3 : Int32) (x4 : Int32) (x5 : Int32) (H : Heap) (locs : List Loc) (ls : Array Slot), K31 h x1 x2 x3 x4 x5 = some rv → wp D (cEC ids ad) ad 59 h H → va_S (inW ad 59) s.heap H locs → lv_has ls 8 [(0, .ref (ad 0)), (1, .int x1), (2, .int x2), (3, .int x3), (4, .int x4), (5, .int x5)] → W p l e rm_X7_bestHour s m args below meth c H locs 0 0 (MQ below (QW D (cEC ids ad) ad 59 (some (.int rv.1)) rv.2) args s 0 0 (inW ad 59)) (F0 m 31 ls [])) : ∀ (h : Hp) (x1 : Int32) (x5 : Int32) (x6 : Int32) (x7 : Int32) (H : Heap) (locs : List Loc) (ls : Array Slot), f_X7_bestHour_105 K31 h x1 x5 x6 x7 = some rv → wp D (cEC ids ad) ad 59 h H → va_S (inW ad 59) s.heap H locs → lv_has ls 8 [(0, .ref (ad 0)), (1, .int x1), (5, .int x5), (6, .int x6), (7, .int x7)] → W p l e rm_X7_bestHour s m args below meth c H locs 0 0 (MQ below (QW D (cEC ids ad) ad 59 (some (.int rv.1)) rv.2) args s 0 0 (inW ad 59)) (F0 m 105 ls []) := by
  intro h x1 x5 x6 x7 H locs ls hf hP hS hl
  unfold f_X7_bestHour_105 at hf
  refine lv_iload C.1 C.2.1 dX7_bestHour_105 (lv_at hl 2 rfl) ?_
  refine lv_istore_n (lv' := [(2, .int x5), (0, .ref (ad 0)), (1, .int x1), (5, .int x5), (6, .int x6), (7, .int x7)]) C.1 C.2.1 dX7_bestHour_107 rfl hl (by decide) rfl (fun ls hl => ?_)
  refine lv_iload C.1 C.2.1 dX7_bestHour_108 (lv_at hl 4 rfl) ?_
  refine lv_istore_n (lv' := [(3, .int x6), (2, .int x5), (0, .ref (ad 0)), (1, .int x1), (5, .int x5), (6, .int x6), (7, .int x7)]) C.1 C.2.1 dX7_bestHour_110 rfl hl (by decide) rfl (fun ls hl => ?_)
  refine lv_iload C.1 C.2.1 dX7_bestHour_111 (lv_at hl 6 rfl) ?_
  refine lv_istore (lv' := [(4, .int x7), (3, .int x6), (2, .int x5), (0, .ref (ad 0)), (1, .int x1), (5, .int x5), (6, .int x6), (7, .int x7)]) C.1 C.2.1 dX7_bestHour_113 hl (by decide) rfl (fun ls hl => ?_)
  exact w_X7_bestHour_115 hA C hX hK31 _ _ _ _ _ _ _ _ _ hf hP hS (lv_sub hl [3, 4, 2, 1, 0, 5] rfl)
set_option maxRecDepth 100000 in
set_option maxHeartbeats 4000000 in
theorem w_X7_bestHour_31 {p : Program} {l : Launch} {e : Env} {s : State} {m : MethodId} {args : Array Value} {below : List Frame} {meth : Method} {c : Code} {D : va_G} {ids : Nat → ClassId} {ad tt : Nat → Nat} {rv : Int32 × Hp} (hA : adOk ad 59) (C : CX p s m args meth c cX7_bestHour 8 (some .int) RX7 D ids) (hX : (ExC tt ad) s s.heap) : ∀ (fu : Nat), ∀ (h : Hp) (x1 : Int32) (x2 : Int32) (x3 : Int32) (x4 : Int32) (x5 : Int32) (H : Heap) (locs : List Loc) (ls : Array Slot), f_X7_bestHour_31 fu h x1 x2 x3 x4 x5 = some rv → wp D (cEC ids ad) ad 59 h H → va_S (inW ad 59) s.heap H locs → lv_has ls 8 [(0, .ref (ad 0)), (1, .int x1), (2, .int x2), (3, .int x3), (4, .int x4), (5, .int x5)] → W p l e rm_X7_bestHour s m args below meth c H locs 0 0 (MQ below (QW D (cEC ids ad) ad 59 (some (.int rv.1)) rv.2) args s 0 0 (inW ad 59)) (F0 m 31 ls []) := by
  intro fu
  induction fu with
  | zero =>
    intro h x1 x2 x3 x4 x5 H locs ls hf hP hS hl
    cases hf
  | succ fu ih =>
    intro h x1 x2 x3 x4 x5 H locs ls hf hP hS hl
    rw [f_X7_bestHour_31_s] at hf
    refine lv_iload C.1 C.2.1 dX7_bestHour_31 (lv_at hl 5 rfl) ?_
    refine lv_bipush (v := (24 : Int32)) C.1 C.2.1 dX7_bestHour_33 (by decide) ?_
    refine lv_icmp_ge (tgt := 121) C.1 C.2.1 dX7_bestHour_35 (by decide) (fun hc => ?_) (fun hc => ?_)
    · have hf := g_t hc hf
      refine lv_iload_n C.1 C.2.1 dX7_bestHour_121 rfl (lv_at hl 2 rfl) ?_
      obtain rfl := Option.some.inj hf
      exact u_iret C hP hS dX7_bestHour_122
    · have hf := g_f hc hf
      refine lv_aload_n C.1 C.2.1 dX7_bestHour_38 rfl (lv_at hl 0 rfl) ?_
      refine gf_X7_38 C hP dX7_bestHour_39 ?_
      refine gf_X7_63 C pX5_31 hP dX7_bestHour_42 ?_
      refine lv_iload_n C.1 C.2.1 dX7_bestHour_45 rfl (lv_at hl 1 rfl) ?_
      obtain ⟨hg1, hf⟩ := g_if hf
      refine rl_aCap C (cap_of pX5_31) hP hg1 dX7_bestHour_46 ?_
      refine lv_iload C.1 C.2.1 dX7_bestHour_47 (lv_at hl 5 rfl) ?_
      refine pf_X7_190 hA C (cp_el (cap_of pX5_31) hg1) hP hS dX7_bestHour_49 (fun H locs hP hS => ?_)
      refine lv_aload_n C.1 C.2.1 dX7_bestHour_52 rfl (lv_at hl 0 rfl) ?_
      refine gf_X7_44 C hP dX7_bestHour_53 ?_
      refine lv_aload_n C.1 C.2.1 dX7_bestHour_56 rfl (lv_at hl 0 rfl) ?_
      refine gf_X7_38 C hP dX7_bestHour_57 ?_
      obtain ⟨q2, eq2, hf⟩ := g_b hf
      refine cv_X7_155 hA C hX hP hS pX5_31 eq2 ⟨Nat.le_of_ble_eq_true rfl, Nat.le_of_ble_eq_true rfl⟩ hl.1 (Nat.le_of_ble_eq_true rfl) dX7_bestHour_60 (fun H locs hP hS => ?_)
      refine lv_aload_n C.1 C.2.1 dX7_bestHour_63 rfl (lv_at hl 0 rfl) ?_
      refine gf_X7_44 C hP dX7_bestHour_64 ?_
      obtain ⟨q3, eq3, hf⟩ := g_b hf
      refine cv_X7_173 hA C hX hP hS eq3 ⟨Nat.le_of_ble_eq_true rfl, Nat.le_of_ble_eq_true rfl⟩ hl.1 (Nat.le_of_ble_eq_true rfl) dX7_bestHour_67 (fun H locs hP hS => ?_)
      refine lv_istore (lv' := [(6, .int q3.1), (0, .ref (ad 0)), (1, .int x1), (2, .int x2), (3, .int x3), (4, .int x4), (5, .int x5)]) C.1 C.2.1 dX7_bestHour_70 hl (by decide) rfl (fun ls hl => ?_)
      refine lv_aload_n C.1 C.2.1 dX7_bestHour_72 rfl (lv_at hl 1 rfl) ?_
      refine gf_X7_44 C hP dX7_bestHour_73 ?_
      refine gf_X7_193 C hP dX7_bestHour_76 ?_
      refine lv_iload_n C.1 C.2.1 dX7_bestHour_79 rfl (lv_at hl 2 rfl) ?_
      obtain ⟨hg4, hf⟩ := g_if hf
      refine rl_aTt C hP hg4 dX7_bestHour_80 ?_
      refine gf_X7_131 C (tt_el hg4) hP dX7_bestHour_81 ?_
      refine lv_istore (lv' := [(7, .int (q3.2 (42 + 2 * x1.toNatClampNeg) 1)), (6, .int q3.1), (0, .ref (ad 0)), (1, .int x1), (2, .int x2), (3, .int x3), (4, .int x4), (5, .int x5)]) C.1 C.2.1 dX7_bestHour_84 hl (by decide) rfl (fun ls hl => ?_)
      refine lv_iload C.1 C.2.1 dX7_bestHour_86 (lv_at hl 1 rfl) ?_
      refine lv_iload_n C.1 C.2.1 dX7_bestHour_88 rfl (lv_at hl 5 rfl) ?_
      refine lv_icmp_lt (tgt := 105) C.1 C.2.1 dX7_bestHour_89 (by decide) (fun hc => ?_) (fun hc => ?_)
      · have hf := g_t hc hf
        exact w_X7_bestHour_105 hA C hX ih _ _ _ _ _ _ _ _ hf hP hS (lv_sub hl [2, 3, 7, 1, 0] rfl)
      · have hf := g_f hc hf
        refine lv_iload C.1 C.2.1 dX7_bestHour_92 (lv_at hl 1 rfl) ?_
        refine lv_iload_n C.1 C.2.1 dX7_bestHour_94 rfl (lv_at hl 5 rfl) ?_
        refine lv_icmp_ne (tgt := 115) C.1 C.2.1 dX7_bestHour_95 (by decide) (fun hc => ?_) (fun hc => ?_)
        · have hf := g_f hc hf
          exact w_X7_bestHour_115 hA C hX ih _ _ _ _ _ _ _ _ _ hf hP hS (lv_sub hl [2, 3, 4, 5, 6, 7] rfl)
        · have hf := g_t hc hf
          refine lv_iload C.1 C.2.1 dX7_bestHour_98 (lv_at hl 0 rfl) ?_
          refine lv_iload C.1 C.2.1 dX7_bestHour_100 (lv_at hl 6 rfl) ?_
          refine lv_icmp_le (tgt := 115) C.1 C.2.1 dX7_bestHour_102 (by decide) (fun hc => ?_) (fun hc => ?_)
          · have hf := g_t hc hf
            exact w_X7_bestHour_115 hA C hX ih _ _ _ _ _ _ _ _ _ hf hP hS (lv_sub hl [2, 3, 4, 5, 6, 7] rfl)
          · have hf := g_f hc hf
            exact w_X7_bestHour_105 hA C hX ih _ _ _ _ _ _ _ _ hf hP hS (lv_sub hl [2, 3, 7, 1, 0] rfl)
set_option maxRecDepth 100000 in
set_option maxHeartbeats 4000000 in
theorem w_X7_bestHour {p : Program} {l : Launch} {e : Env} {s : State} {m : MethodId} {args : Array Value} {below : List Frame} {meth : Method} {c : Code} {D : va_G} {ids : Nat → ClassId} {ad tt : Nat → Nat} {rv : Int32 × Hp} (hA : adOk ad 59) (C : CX p s m args meth c cX7_bestHour 8 (some .int) RX7 D ids) (hX : (ExC tt ad) s s.heap) : ∀ (h : Hp) (a1 : Int32) (H : Heap) (locs : List Loc) (ls : Array Slot), f_X7_bestHour h a1 = some rv → wp D (cEC ids ad) ad 59 h H → va_S (inW ad 59) s.heap H locs → lv_has ls 8 [(0, .ref (ad 0)), (1, .int a1)] → W p l e rm_X7_bestHour s m args below meth c H locs 0 0 (MQ below (QW D (cEC ids ad) ad 59 (some (.int rv.1)) rv.2) args s 0 0 (inW ad 59)) (F0 m 0 ls []) := by
  intro h a1 H locs ls hf hP hS hl
  unfold f_X7_bestHour at hf
  refine lv_iload_n C.1 C.2.1 dX7_bestHour_0 rfl (lv_at hl 1 rfl) ?_
  obtain ⟨q1, eq1, hf⟩ := g_b hf
  refine cv_X7_55 hA C hX hP hS eq1 ⟨Nat.le_of_ble_eq_true rfl, Nat.le_of_ble_eq_true rfl⟩ hl.1 (Nat.le_of_ble_eq_true rfl) dX7_bestHour_1 (fun H locs hP hS => ?_)
  refine lv_if_ne (tgt := 9) C.1 C.2.1 dX7_bestHour_4 (by decide) (fun hc => ?_) (fun hc => ?_)
  · have hf := g_f hc hf
    refine lv_aload_n C.1 C.2.1 dX7_bestHour_9 rfl (lv_at hl 0 rfl) ?_
    refine gf_X7_38 C hP dX7_bestHour_10 ?_
    refine lv_aload_n C.1 C.2.1 dX7_bestHour_13 rfl (lv_at hl 0 rfl) ?_
    refine gf_X7_12 C hP dX7_bestHour_14 ?_
    obtain ⟨q2, eq2, hf⟩ := g_b hf
    refine cv_X7_80 hA C hX hP hS pX5_31 pX5_1 eq2 ⟨Nat.le_of_ble_eq_true rfl, Nat.le_of_ble_eq_true rfl⟩ hl.1 (Nat.le_of_ble_eq_true rfl) dX7_bestHour_17 (fun H locs hP hS => ?_)
    refine lv_iconst (v := (0 : Int32)) C.1 C.2.1 dX7_bestHour_20 (by decide) ?_
    refine lv_istore_n (lv' := [(2, .int (0 : Int32)), (0, .ref (ad 0)), (1, .int a1)]) C.1 C.2.1 dX7_bestHour_21 rfl hl (by decide) rfl (fun ls hl => ?_)
    refine lv_bipush (v := (49 : Int32)) C.1 C.2.1 dX7_bestHour_22 (by decide) ?_
    refine lv_istore_n (lv' := [(3, .int (49 : Int32)), (2, .int (0 : Int32)), (0, .ref (ad 0)), (1, .int a1)]) C.1 C.2.1 dX7_bestHour_24 rfl hl (by decide) rfl (fun ls hl => ?_)
    refine lv_iconst (v := (0 : Int32)) C.1 C.2.1 dX7_bestHour_25 (by decide) ?_
    refine lv_istore (lv' := [(4, .int (0 : Int32)), (3, .int (49 : Int32)), (2, .int (0 : Int32)), (0, .ref (ad 0)), (1, .int a1)]) C.1 C.2.1 dX7_bestHour_26 hl (by decide) rfl (fun ls hl => ?_)
    refine lv_iconst (v := (0 : Int32)) C.1 C.2.1 dX7_bestHour_28 (by decide) ?_
    refine lv_istore (lv' := [(5, .int (0 : Int32)), (4, .int (0 : Int32)), (3, .int (49 : Int32)), (2, .int (0 : Int32)), (0, .ref (ad 0)), (1, .int a1)]) C.1 C.2.1 dX7_bestHour_29 hl (by decide) rfl (fun ls hl => ?_)
    exact w_X7_bestHour_31 hA C hX _ _ _ _ _ _ _ _ _ _ hf hP hS (lv_sub hl [4, 5, 3, 2, 1, 0] rfl)
  · have hf := g_t hc hf
    refine lv_iconst (v := (-1 : Int32)) C.1 C.2.1 dX7_bestHour_7 (by decide) ?_
    obtain rfl := Option.some.inj hf
    exact u_iret C hP hS dX7_bestHour_8
theorem c_X7_bestHour (l : Launch) (D : va_G) (ids : Nat → ClassId) (ad tt : Nat → Nat) (hA : adOk ad 59) {a1 : Int32} {h : Hp} {rv : Int32 × Hp} (hf : f_X7_bestHour h a1 = some rv) : Met l yX7_bestHour (ws_ yX7_bestHour cX7_bestHour 8 (some .int)) rm_X7_bestHour (va_Pc [.ref (ad 0), .int a1] (WB D ids (cEC ids ad) ad 59 (ExC tt ad) h)) (QW D (cEC ids ad) ad 59 (some (.int rv.1)) rv.2) 0 0 (inW ad 59) :=
  u_met (own := RX7) (by decide) rfl (Nat.le_of_ble_eq_true rfl) rfl (fun p e s m args below meth c H ls C hX hP hS hl => w_X7_bestHour (tt := tt) hA C hX _ _ _ _ _ hf hP hS hl)
