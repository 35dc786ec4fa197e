abbrev rm_X8_level : Room := { frames := 1, cells := 0, slots := 0, locals := 22 }
set_option maxRecDepth 100000 in
set_option maxHeartbeats 4000000 in
theorem w_X8_level_50 {p : Program} {l : Launch} {e : Env} {s : State} {m : MethodId} {args : Array Value} {below : List Frame} {meth : Method} {c : Code} {D : va_G} {ids : Nat → ClassId} {ad : Nat → Nat} {rv : Int32 × Hp} (hA : adOk ad 12) (C : CX p s m args meth c cX8_level 4 (some .int) RX8 D ids) (hX : ExM s s.heap) : ∀ (h : Hp) (x2 : Int32) (t0 : Int32) (H : Heap) (locs : List Loc) (ls : Array Slot), f_X8_level_50 h x2 t0 = some rv → wp D (cEM ids ad) ad 12 h H → va_S (inW ad 12) s.heap H locs → lv_has ls 4 [(2, .int x2)] → W p l e rm_X8_level s m args below meth c H locs 0 0 (MQ below (QW D (cEM ids ad) ad 12 (some (.int rv.1)) rv.2) args s 0 0 (inW ad 12)) (F0 m 50 ls [.int t0]) := by
  intro h x2 t0 H locs ls hf hP hS hl
  unfold f_X8_level_50 at hf
  refine lv_iload_n C.1 C.2.1 dX8_level_50 rfl (lv_at hl 0 rfl) ?_
  obtain ⟨q1, eq1, hf⟩ := g_b hf
  refine cv_X8_59 hA C hX hP hS eq1 ⟨Nat.le_of_ble_eq_true rfl, Nat.le_of_ble_eq_true rfl⟩ hl.1 (Nat.le_of_ble_eq_true rfl) dX8_level_51 (fun H locs hP hS => ?_)
  refine lv_goto (tgt := 59) C.1 C.2.1 dX8_level_54 (by decide) ?_
  obtain rfl := Option.some.inj hf
  exact u_iret C hP hS dX8_level_59
set_option maxRecDepth 100000 in
set_option maxHeartbeats 4000000 in
theorem w_X8_level {p : Program} {l : Launch} {e : Env} {s : State} {m : MethodId} {args : Array Value} {below : List Frame} {meth : Method} {c : Code} {D : va_G} {ids : Nat → ClassId} {ad : Nat → Nat} {rv : Int32 × Hp} (hA : adOk ad 12) (C : CX p s m args meth c cX8_level 4 (some .int) RX8 D ids) (hX : ExM s s.heap) : ∀ (h : Hp) (a1 : Int32) (a2 : Int32) (a3 : Int32) (H : Heap) (locs : List Loc) (ls : Array Slot), f_X8_level h a1 a2 a3 = some rv → wp D (cEM ids ad) ad 12 h H → va_S (inW ad 12) s.heap H locs → lv_has ls 4 [(0, .ref (ad 0)), (1, .int a1), (2, .int a2), (3, .int a3)] → W p l e rm_X8_level s m args below meth c H locs 0 0 (MQ below (QW D (cEM ids ad) ad 12 (some (.int rv.1)) rv.2) args s 0 0 (inW ad 12)) (F0 m 0 ls []) := by
  intro h a1 a2 a3 H locs ls hf hP hS hl
  unfold f_X8_level at hf
  refine lv_iload_n C.1 C.2.1 dX8_level_0 rfl (lv_at hl 1 rfl) ?_
  refine lv_iconst (v := (0 : Int32)) C.1 C.2.1 dX8_level_1 (by decide) ?_
  refine lv_iconst (v := (3 : Int32)) C.1 C.2.1 dX8_level_2 (by decide) ?_
  obtain ⟨q1, eq1, hf⟩ := g_b hf
  refine cv_X8_51 hA C hX hP hS eq1 ⟨Nat.le_of_ble_eq_true rfl, Nat.le_of_ble_eq_true rfl⟩ hl.1 (Nat.le_of_ble_eq_true rfl) dX8_level_3 (fun H locs hP hS => ?_)
  refine lv_if_eq (tgt := 19) C.1 C.2.1 dX8_level_6 (by decide) (fun hc => ?_) (fun hc => ?_)
  · have hf := g_t hc hf
    refine lv_iconst (v := (-1 : Int32)) C.1 C.2.1 dX8_level_19 (by decide) ?_
    obtain rfl := Option.some.inj hf
    exact u_iret C hP hS dX8_level_20
  · have hf := g_f hc hf
    refine lv_iload_n C.1 C.2.1 dX8_level_9 rfl (lv_at hl 2 rfl) ?_
    refine lv_iconst (v := (0 : Int32)) C.1 C.2.1 dX8_level_10 (by decide) ?_
    refine lv_bipush (v := (23 : Int32)) C.1 C.2.1 dX8_level_11 (by decide) ?_
    obtain ⟨q2, eq2, hf⟩ := g_b hf
    refine cv_X8_51 hA C hX hP hS eq2 ⟨Nat.le_of_ble_eq_true rfl, Nat.le_of_ble_eq_true rfl⟩ hl.1 (Nat.le_of_ble_eq_true rfl) dX8_level_13 (fun H locs hP hS => ?_)
    refine lv_if_ne (tgt := 21) C.1 C.2.1 dX8_level_16 (by decide) (fun hc => ?_) (fun hc => ?_)
    · have hf := g_f hc hf
      refine lv_iload_n C.1 C.2.1 dX8_level_21 rfl (lv_at hl 3 rfl) ?_
      refine lv_iconst (v := (0 : Int32)) C.1 C.2.1 dX8_level_22 (by decide) ?_
      refine lv_iconst (v := (1 : Int32)) C.1 C.2.1 dX8_level_23 (by decide) ?_
      obtain ⟨q3, eq3, hf⟩ := g_b hf
      refine cv_X8_51 hA C hX hP hS eq3 ⟨Nat.le_of_ble_eq_true rfl, Nat.le_of_ble_eq_true rfl⟩ hl.1 (Nat.le_of_ble_eq_true rfl) dX8_level_24 (fun H locs hP hS => ?_)
      refine lv_if_eq (tgt := 57) C.1 C.2.1 dX8_level_27 (by decide) (fun hc => ?_) (fun hc => ?_)
      · have hf := g_t hc hf
        refine lv_bipush (v := (-2 : Int32)) C.1 C.2.1 dX8_level_57 (by decide) ?_
        obtain rfl := Option.some.inj hf
        exact u_iret C hP hS dX8_level_59
      · have hf := g_f hc hf
        refine lv_iload_n C.1 C.2.1 dX8_level_30 rfl (lv_at hl 1 rfl) ?_
        refine lv_iconst (v := (3 : Int32)) C.1 C.2.1 dX8_level_31 (by decide) ?_
        refine lv_icmp_ne (tgt := 44) C.1 C.2.1 dX8_level_32 (by decide) (fun hc => ?_) (fun hc => ?_)
        · have hf := g_f hc hf
          refine lv_aload_n C.1 C.2.1 dX8_level_44 rfl (lv_at hl 0 rfl) ?_
          refine lv_iload_n C.1 C.2.1 dX8_level_45 rfl (lv_at hl 1 rfl) ?_
          refine lv_iconst (v := (0 : Int32)) C.1 C.2.1 dX8_level_46 (by decide) ?_
          obtain ⟨q4, eq4, hf⟩ := g_b hf
          refine cv_X8_55 hA C hX hP hS eq4 ⟨Nat.le_of_ble_eq_true rfl, Nat.le_of_ble_eq_true rfl⟩ hl.1 (Nat.le_of_ble_eq_true rfl) dX8_level_47 (fun H locs hP hS => ?_)
          exact w_X8_level_50 hA C hX _ _ _ _ _ _ hf hP hS (lv_sub hl [2] rfl)
        · have hf := g_t hc hf
          refine lv_aload_n C.1 C.2.1 dX8_level_35 rfl (lv_at hl 0 rfl) ?_
          refine gf_X8_7 C hP dX8_level_36 ?_
          refine lv_iconst (v := (1 : Int32)) C.1 C.2.1 dX8_level_39 (by decide) ?_
          obtain ⟨hg, hf⟩ := g_if hf
          refine al_m1 C hP hg dX8_level_40 ?_
          refine lv_goto (tgt := 50) C.1 C.2.1 dX8_level_41 (by decide) ?_
          exact w_X8_level_50 hA C hX _ _ _ _ _ _ hf hP hS (lv_sub hl [2] rfl)
    · have hf := g_t hc hf
      refine lv_iconst (v := (-1 : Int32)) C.1 C.2.1 dX8_level_19 (by decide) ?_
      obtain rfl := Option.some.inj hf
      exact u_iret C hP hS dX8_level_20
theorem c_X8_level (l : Launch) (D : va_G) (ids : Nat → ClassId) (ad : Nat → Nat) (hA : adOk ad 12) {a1 : Int32} {a2 : Int32} {a3 : Int32} {h : Hp} {rv : Int32 × Hp} (hf : f_X8_level h a1 a2 a3 = some rv) : Met l yX8_level (ws_ yX8_level cX8_level 4 (some .int)) rm_X8_level (va_Pc [.ref (ad 0), .int a1, .int a2, .int a3] (WB D ids (cEM ids ad) ad 12 ExM h)) (QW D (cEM ids ad) ad 12 (some (.int rv.1)) rv.2) 0 0 (inW ad 12) :=
  u_met (own := RX8) (by decide) rfl (Nat.le_of_ble_eq_true rfl) rfl (fun p e s m args below meth c H ls C hX hP hS hl => w_X8_level hA C hX _ _ _ _ _ _ _ hf hP hS hl)
abbrev rm_X8_usesPier : Room := { frames := 2, cells := 0, slots := 0, locals := 44 }
set_option maxRecDepth 100000 in
set_option maxHeartbeats 4000000 in
theorem w_X8_usesPier_72 {p : Program} {l : Launch} {e : Env} {s : State} {m : MethodId} {args : Array Value} {below : List Frame} {meth : Method} {c : Code} {D : va_G} {ids : Nat → ClassId} {ad : Nat → Nat} {rv : Int32 × Hp} (hA : adOk ad 12) (C : CX p s m args meth c cX8_usesPier 7 (some .boolean) RX8 D ids) (hX : ExM s s.heap) {K3 : Hp → Int32 → Int32 → Int32 → Int32 → Option (Int32 × Hp)} (hK3 : ∀ (h : Hp) (x1 : Int32) (x2 : Int32) (x3 : Int32) (x4 : Int32) (H : Heap) (locs : List Loc) (ls : Array Slot), K3 h x1 x2 x3 x4 = some rv → wp D (cEM ids ad) ad 12 h H → va_S (inW ad 12) s.heap H locs → lv_has ls 7 [(0, .ref (ad 0)), (1, .int x1), (2, .int x2), (3, .int x3), (4, .int x4)] → W p l e rm_X8_usesPier s m args below meth c H locs 0 0 (MQ below (QW D (cEM ids ad) ad 12 (some (.int rv.1)) rv.2) args s 0 0 (inW ad 12)) (F0 m 3 ls [])) : ∀ (h : Hp) (x1 : Int32) (x2 : Int32) (x3 : Int32) (x4 : Int32) (x5 : Int32) (t0 : Int32) (H : Heap) (locs : List Loc) (ls : Array Slot), f_X8_usesPier_72 K3 h x1 x2 x3 x4 x5 t0 = some rv → wp D (cEM ids ad) ad 12 h H → va_S (inW ad 12) s.heap H locs → lv_has ls 7 [(0, .ref (ad 0)), (1, .int x1), (2, .int x2), (3, .int x3), (4, .int x4), (5, .int x5)] → W p l e rm_X8_usesPier s m args below meth c H locs 0 0 (MQ below (QW D (cEM ids ad) ad 12 (some (.int rv.1)) rv.2) args s 0 0 (inW ad 12)) (F0 m 72 ls [.int t0]) := by
  intro h x1 x2 x3 x4 x5 t0 H locs ls hf hP hS hl
  unfold f_X8_usesPier_72 at hf
  refine lv_istore (lv' := [(6, .int t0), (0, .ref (ad 0)), (1, .int x1), (2, .int x2), (3, .int x3), (4, .int x4), (5, .int x5)]) C.1 C.2.1 dX8_usesPier_72 hl (by decide) rfl (fun ls hl => ?_)
  refine lv_iload C.1 C.2.1 dX8_usesPier_74 (lv_at hl 6 rfl) ?_
  refine lv_if_ne (tgt := 84) C.1 C.2.1 dX8_usesPier_76 (by decide) (fun hc => ?_) (fun hc => ?_)
  · have hf := g_f hc hf
    refine lv_iconst (v := (1 : Int32)) C.1 C.2.1 dX8_usesPier_84 (by decide) ?_
    obtain rfl := Option.some.inj hf
    exact u_zret C hP hS isb_1 dX8_usesPier_85
  · have hf := g_t hc hf
    refine lv_iload C.1 C.2.1 dX8_usesPier_79 (lv_at hl 0 rfl) ?_
    refine lv_if_eq (tgt := 86) C.1 C.2.1 dX8_usesPier_81 (by decide) (fun hc => ?_) (fun hc => ?_)
    · have hf := g_t hc hf
      refine lv_iinc (v := (x4 + 1)) (lv' := [(4, .int (x4 + 1)), (6, .int t0), (0, .ref (ad 0)), (1, .int x1), (2, .int x2), (3, .int x3), (5, .int x5)]) C.1 C.2.1 dX8_usesPier_86 hl (k := 5) rfl (by rfl) (by decide) rfl (fun ls hl => ?_)
      refine lv_goto (tgt := 3) C.1 C.2.1 dX8_usesPier_89 (by decide) ?_
      exact hK3 _ _ _ _ _ _ _ _ hf hP hS (lv_sub hl [2, 3, 4, 5, 0] rfl)
    · have hf := g_f hc hf
      refine lv_iconst (v := (1 : Int32)) C.1 C.2.1 dX8_usesPier_84 (by decide) ?_
      obtain rfl := Option.some.inj hf
      exact u_zret C hP hS isb_1 dX8_usesPier_85
set_option maxRecDepth 100000 in
set_option maxHeartbeats 4000000 in
theorem w_X8_usesPier_71 {p : Program} {l : Launch} {e : Env} {s : State} {m : MethodId} {args : Array Value} {below : List Frame} {meth : Method} {c : Code} {D : va_G} {ids : Nat → ClassId} {ad : Nat → Nat} {rv : Int32 × Hp} (hA : adOk ad 12) (C : CX p s m args meth c cX8_usesPier 7 (some .boolean) RX8 D ids) (hX : ExM s s.heap) {K3 : Hp → Int32 → Int32 → Int32 → Int32 → Option (Int32 × Hp)} (hK3 : ∀ (h : Hp) (x1 : Int32) (x2 : Int32) (x3 : Int32) (x4 : Int32) (H : Heap) (locs : List Loc) (ls : Array Slot), K3 h x1 x2 x3 x4 = some rv → wp D (cEM ids ad) ad 12 h H → va_S (inW ad 12) s.heap H locs → lv_has ls 7 [(0, .ref (ad 0)), (1, .int x1), (2, .int x2), (3, .int x3), (4, .int x4)] → W p l e rm_X8_usesPier s m args below meth c H locs 0 0 (MQ below (QW D (cEM ids ad) ad 12 (some (.int rv.1)) rv.2) args s 0 0 (inW ad 12)) (F0 m 3 ls [])) : ∀ (h : Hp) (x1 : Int32) (x2 : Int32) (x3 : Int32) (x4 : Int32) (x5 : Int32) (H : Heap) (locs : List Loc) (ls : Array Slot), f_X8_usesPier_71 K3 h x1 x2 x3 x4 x5 = some rv → wp D (cEM ids ad) ad 12 h H → va_S (inW ad 12) s.heap H locs → lv_has ls 7 [(0, .ref (ad 0)), (1, .int x1), (2, .int x2), (3, .int x3), (4, .int x4), (5, .int x5)] → W p l e rm_X8_usesPier s m args below meth c H locs 0 0 (MQ below (QW D (cEM ids ad) ad 12 (some (.int rv.1)) rv.2) args s 0 0 (inW ad 12)) (F0 m 71 ls []) := by
  intro h x1 x2 x3 x4 x5 H locs ls hf hP hS hl
  unfold f_X8_usesPier_71 at hf
  refine lv_iconst (v := (0 : Int32)) C.1 C.2.1 dX8_usesPier_71 (by decide) ?_
  exact w_X8_usesPier_72 hA C hX hK3 _ _ _ _ _ _ _ _ _ _ hf hP hS (lv_sub hl [0, 1, 2, 3, 4, 5] rfl)
set_option maxRecDepth 100000 in
set_option maxHeartbeats 4000000 in
theorem w_X8_usesPier_41 {p : Program} {l : Launch} {e : Env} {s : State} {m : MethodId} {args : Array Value} {below : List Frame} {meth : Method} {c : Code} {D : va_G} {ids : Nat → ClassId} {ad : Nat → Nat} {rv : Int32 × Hp} (hA : adOk ad 12) (C : CX p s m args meth c cX8_usesPier 7 (some .boolean) RX8 D ids) (hX : ExM s s.heap) {K3 : Hp → Int32 → Int32 → Int32 → Int32 → Option (Int32 × Hp)} (hK3 : ∀ (h : Hp) (x1 : Int32) (x2 : Int32) (x3 : Int32) (x4 : Int32) (H : Heap) (locs : List Loc) (ls : Array Slot), K3 h x1 x2 x3 x4 = some rv → wp D (cEM ids ad) ad 12 h H → va_S (inW ad 12) s.heap H locs → lv_has ls 7 [(0, .ref (ad 0)), (1, .int x1), (2, .int x2), (3, .int x3), (4, .int x4)] → W p l e rm_X8_usesPier s m args below meth c H locs 0 0 (MQ below (QW D (cEM ids ad) ad 12 (some (.int rv.1)) rv.2) args s 0 0 (inW ad 12)) (F0 m 3 ls [])) : ∀ (h : Hp) (x1 : Int32) (x2 : Int32) (x3 : Int32) (x4 : Int32) (t0 : Int32) (H : Heap) (locs : List Loc) (ls : Array Slot), f_X8_usesPier_41 K3 h x1 x2 x3 x4 t0 = some rv → wp D (cEM ids ad) ad 12 h H → va_S (inW ad 12) s.heap H locs → lv_has ls 7 [(0, .ref (ad 0)), (1, .int x1), (2, .int x2), (3, .int x3), (4, .int x4)] → W p l e rm_X8_usesPier s m args below meth c H locs 0 0 (MQ below (QW D (cEM ids ad) ad 12 (some (.int rv.1)) rv.2) args s 0 0 (inW ad 12)) (F0 m 41 ls [.int t0]) := by
  intro h x1 x2 x3 x4 t0 H locs ls hf hP hS hl
  unfold f_X8_usesPier_41 at hf
  refine lv_istore (lv' := [(5, .int t0), (0, .ref (ad 0)), (1, .int x1), (2, .int x2), (3, .int x3), (4, .int x4)]) C.1 C.2.1 dX8_usesPier_41 hl (by decide) rfl (fun ls hl => ?_)
  refine lv_aload_n C.1 C.2.1 dX8_usesPier_43 rfl (lv_at hl 1 rfl) ?_
  refine lv_iload_n C.1 C.2.1 dX8_usesPier_44 rfl (lv_at hl 2 rfl) ?_
  refine lv_iload C.1 C.2.1 dX8_usesPier_45 (lv_at hl 5 rfl) ?_
  obtain ⟨q1, eq1, hf⟩ := g_b hf
  refine cv_X8_69 hA C hX hP hS eq1 ⟨Nat.le_of_ble_eq_true rfl, Nat.le_of_ble_eq_true rfl⟩ hl.1 (Nat.le_of_ble_eq_true rfl) dX8_usesPier_47 (fun H locs hP hS => ?_)
  refine lv_iconst (v := (2 : Int32)) C.1 C.2.1 dX8_usesPier_50 (by decide) ?_
  refine lv_iadd C.1 C.2.1 dX8_usesPier_51 ?_
  refine lv_iload_n C.1 C.2.1 dX8_usesPier_52 rfl (lv_at hl 4 rfl) ?_
  refine lv_icmp_ne (tgt := 71) C.1 C.2.1 dX8_usesPier_53 (by decide) (fun hc => ?_) (fun hc => ?_)
  · have hf := g_f hc hf
    exact w_X8_usesPier_71 hA C hX hK3 _ _ _ _ _ _ _ _ _ hf hP hS (lv_sub hl [1, 2, 3, 4, 5, 0] rfl)
  · have hf := g_t hc hf
    refine lv_aload_n C.1 C.2.1 dX8_usesPier_56 rfl (lv_at hl 1 rfl) ?_
    refine lv_iload_n C.1 C.2.1 dX8_usesPier_57 rfl (lv_at hl 2 rfl) ?_
    refine lv_iload C.1 C.2.1 dX8_usesPier_58 (lv_at hl 5 rfl) ?_
    obtain ⟨q2, eq2, hf⟩ := g_b hf
    refine cv_X8_72 hA C hX hP hS eq2 ⟨Nat.le_of_ble_eq_true rfl, Nat.le_of_ble_eq_true rfl⟩ hl.1 (Nat.le_of_ble_eq_true rfl) dX8_usesPier_60 (fun H locs hP hS => ?_)
    refine lv_iload_n C.1 C.2.1 dX8_usesPier_63 rfl (lv_at hl 3 rfl) ?_
    refine lv_icmp_eq (tgt := 71) C.1 C.2.1 dX8_usesPier_64 (by decide) (fun hc => ?_) (fun hc => ?_)
    · have hf := g_t hc hf
      exact w_X8_usesPier_71 hA C hX hK3 _ _ _ _ _ _ _ _ _ hf hP hS (lv_sub hl [1, 2, 3, 4, 5, 0] rfl)
    · have hf := g_f hc hf
      refine lv_iconst (v := (1 : Int32)) C.1 C.2.1 dX8_usesPier_67 (by decide) ?_
      refine lv_goto (tgt := 72) C.1 C.2.1 dX8_usesPier_68 (by decide) ?_
      exact w_X8_usesPier_72 hA C hX hK3 _ _ _ _ _ _ _ _ _ _ hf hP hS (lv_sub hl [1, 2, 3, 4, 5, 0] rfl)
set_option maxRecDepth 100000 in
set_option maxHeartbeats 4000000 in
theorem w_X8_usesPier_40 {p : Program} {l : Launch} {e : Env} {s : State} {m : MethodId} {args : Array Value} {below : List Frame} {meth : Method} {c : Code} {D : va_G} {ids : Nat → ClassId} {ad : Nat → Nat} {rv : Int32 × Hp} (hA : adOk ad 12) (C : CX p s m args meth c cX8_usesPier 7 (some .boolean) RX8 D ids) (hX : ExM s s.heap) {K3 : Hp → Int32 → Int32 → Int32 → Int32 → Option (Int32 × Hp)} (hK3 : ∀ (h : Hp) (x1 : Int32) (x2 : Int32) (x3 : Int32) (x4 : Int32) (H : Heap) (locs : List Loc) (ls : Array Slot), K3 h x1 x2 x3 x4 = some rv → wp D (cEM ids ad) ad 12 h H → va_S (inW ad 12) s.heap H locs → lv_has ls 7 [(0, .ref (ad 0)), (1, .int x1), (2, .int x2), (3, .int x3), (4, .int x4)] → W p l e rm_X8_usesPier s m args below meth c H locs 0 0 (MQ below (QW D (cEM ids ad) ad 12 (some (.int rv.1)) rv.2) args s 0 0 (inW ad 12)) (F0 m 3 ls [])) : ∀ (h : Hp) (x1 : Int32) (x2 : Int32) (x3 : Int32) (x4 : Int32) (H : Heap) (locs : List Loc) (ls : Array Slot), f_X8_usesPier_40 K3 h x1 x2 x3 x4 = some rv → wp D (cEM ids ad) ad 12 h H → va_S (inW ad 12) s.heap H locs → lv_has ls 7 [(0, .ref (ad 0)), (1, .int x1), (2, .int x2), (3, .int x3), (4, .int x4)] → W p l e rm_X8_usesPier s m args below meth c H locs 0 0 (MQ below (QW D (cEM ids ad) ad 12 (some (.int rv.1)) rv.2) args s 0 0 (inW ad 12)) (F0 m 40 ls []) := by
  intro h x1 x2 x3 x4 H locs ls hf hP hS hl
  unfold f_X8_usesPier_40 at hf
  refine lv_iconst (v := (0 : Int32)) C.1 C.2.1 dX8_usesPier_40 (by decide) ?_
  exact w_X8_usesPier_41 hA C hX hK3 _ _ _ _ _ _ _ _ _ hf hP hS (lv_sub hl [0, 1, 2, 3, 4] rfl)
set_option maxRecDepth 100000 in
set_option maxHeartbeats 4000000 in
theorem w_X8_usesPier_3 {p : Program} {l : Launch} {e : Env} {s : State} {m : MethodId} {args : Array Value} {below : List Frame} {meth : Method} {c : Code} {D : va_G} {ids : Nat → ClassId} {ad : Nat → Nat} {rv : Int32 × Hp} (hA : adOk ad 12) (C : CX p s m args meth c cX8_usesPier 7 (some .boolean) RX8 D ids) (hX : ExM s s.heap) : ∀ (fu : Nat), ∀ (h : Hp) (x1 : Int32) (x2 : Int32) (x3 : Int32) (x4 : Int32) (H : Heap) (locs : List Loc) (ls : Array Slot), f_X8_usesPier_3 fu h x1 x2 x3 x4 = some rv → wp D (cEM ids ad) ad 12 h H → va_S (inW ad 12) s.heap H locs → lv_has ls 7 [(0, .ref (ad 0)), (1, .int x1), (2, .int x2), (3, .int x3), (4, .int x4)] → W p l e rm_X8_usesPier s m args below meth c H locs 0 0 (MQ below (QW D (cEM ids ad) ad 12 (some (.int rv.1)) rv.2) args s 0 0 (inW ad 12)) (F0 m 3 ls []) := by
  intro fu
  induction fu with
  | zero =>
    intro h x1 x2 x3 x4 H locs ls hf hP hS hl
    cases hf
  | succ fu ih =>
    intro h x1 x2 x3 x4 H locs ls hf hP hS hl
    rw [f_X8_usesPier_3_s] at hf
    refine lv_iload C.1 C.2.1 dX8_usesPier_3 (lv_at hl 4 rfl) ?_
    refine lv_aload_n C.1 C.2.1 dX8_usesPier_5 rfl (lv_at hl 0 rfl) ?_
    refine gf_X8_28 C hP dX8_usesPier_6 ?_
    refine lv_iload_n C.1 C.2.1 dX8_usesPier_9 rfl (lv_at hl 1 rfl) ?_
    obtain ⟨hg, hf⟩ := g_if hf
    refine al_m7 C hP hg dX8_usesPier_10 ?_
    refine lv_icmp_ge (tgt := 92) C.1 C.2.1 dX8_usesPier_11 (by decide) (fun hc => ?_) (fun hc => ?_)
    · have hf := g_t hc hf
      refine lv_iconst (v := (0 : Int32)) C.1 C.2.1 dX8_usesPier_92 (by decide) ?_
      obtain rfl := Option.some.inj hf
      exact u_zret C hP hS isb_0 dX8_usesPier_93
    · have hf := g_f hc hf
      refine lv_aload_n C.1 C.2.1 dX8_usesPier_14 rfl (lv_at hl 0 rfl) ?_
      refine lv_iload_n C.1 C.2.1 dX8_usesPier_15 rfl (lv_at hl 1 rfl) ?_
      refine lv_iload C.1 C.2.1 dX8_usesPier_16 (lv_at hl 4 rfl) ?_
      obtain ⟨q1, eq1, hf⟩ := g_b hf
      refine cv_X8_69 hA C hX hP hS eq1 ⟨Nat.le_of_ble_eq_true rfl, Nat.le_of_ble_eq_true rfl⟩ hl.1 (Nat.le_of_ble_eq_true rfl) dX8_usesPier_18 (fun H locs hP hS => ?_)
      refine lv_iload_n C.1 C.2.1 dX8_usesPier_21 rfl (lv_at hl 3 rfl) ?_
      refine lv_icmp_ne (tgt := 40) C.1 C.2.1 dX8_usesPier_22 (by decide) (fun hc => ?_) (fun hc => ?_)
      · have hf := g_f hc hf
        exact w_X8_usesPier_40 hA C hX ih _ _ _ _ _ _ _ _ hf hP hS (lv_sub hl [0, 1, 2, 3, 4] rfl)
      · have hf := g_t hc hf
        refine lv_aload_n C.1 C.2.1 dX8_usesPier_25 rfl (lv_at hl 0 rfl) ?_
        refine lv_iload_n C.1 C.2.1 dX8_usesPier_26 rfl (lv_at hl 1 rfl) ?_
        refine lv_iload C.1 C.2.1 dX8_usesPier_27 (lv_at hl 4 rfl) ?_
        obtain ⟨q2, eq2, hf⟩ := g_b hf
        refine cv_X8_72 hA C hX hP hS eq2 ⟨Nat.le_of_ble_eq_true rfl, Nat.le_of_ble_eq_true rfl⟩ hl.1 (Nat.le_of_ble_eq_true rfl) dX8_usesPier_29 (fun H locs hP hS => ?_)
        refine lv_iload_n C.1 C.2.1 dX8_usesPier_32 rfl (lv_at hl 2 rfl) ?_
        refine lv_icmp_ne (tgt := 40) C.1 C.2.1 dX8_usesPier_33 (by decide) (fun hc => ?_) (fun hc => ?_)
        · have hf := g_f hc hf
          exact w_X8_usesPier_40 hA C hX ih _ _ _ _ _ _ _ _ hf hP hS (lv_sub hl [0, 1, 2, 3, 4] rfl)
        · have hf := g_t hc hf
          refine lv_iconst (v := (1 : Int32)) C.1 C.2.1 dX8_usesPier_36 (by decide) ?_
          refine lv_goto (tgt := 41) C.1 C.2.1 dX8_usesPier_37 (by decide) ?_
          exact w_X8_usesPier_41 hA C hX ih _ _ _ _ _ _ _ _ _ hf hP hS (lv_sub hl [0, 1, 2, 3, 4] rfl)
set_option maxRecDepth 100000 in
set_option maxHeartbeats 4000000 in
theorem w_X8_usesPier {p : Program} {l : Launch} {e : Env} {s : State} {m : MethodId} {args : Array Value} {below : List Frame} {meth : Method} {c : Code} {D : va_G} {ids : Nat → ClassId} {ad : Nat → Nat} {rv : Int32 × Hp} (hA : adOk ad 12) (C : CX p s m args meth c cX8_usesPier 7 (some .boolean) RX8 D ids) (hX : ExM s s.heap) : ∀ (h : Hp) (a1 : Int32) (a2 : Int32) (a3 : Int32) (H : Heap) (locs : List Loc) (ls : Array Slot), f_X8_usesPier h a1 a2 a3 = some rv → wp D (cEM ids ad) ad 12 h H → va_S (inW ad 12) s.heap H locs → lv_has ls 7 [(0, .ref (ad 0)), (1, .int a1), (2, .int a2), (3, .int a3)] → W p l e rm_X8_usesPier s m args below meth c H locs 0 0 (MQ below (QW D (cEM ids ad) ad 12 (some (.int rv.1)) rv.2) args s 0 0 (inW ad 12)) (F0 m 0 ls []) := by
  intro h a1 a2 a3 H locs ls hf hP hS hl
  unfold f_X8_usesPier at hf
  refine lv_iconst (v := (0 : Int32)) C.1 C.2.1 dX8_usesPier_0 (by decide) ?_
  refine lv_istore (lv' := [(4, .int (0 : Int32)), (0, .ref (ad 0)), (1, .int a1), (2, .int a2), (3, .int a3)]) C.1 C.2.1 dX8_usesPier_1 hl (by decide) rfl (fun ls hl => ?_)
  exact w_X8_usesPier_3 hA C hX _ _ _ _ _ _ _ _ _ hf hP hS (lv_sub hl [1, 2, 3, 4, 0] rfl)
theorem c_X8_usesPier (l : Launch) (D : va_G) (ids : Nat → ClassId) (ad : Nat → Nat) (hA : adOk ad 12) {a1 : Int32} {a2 : Int32} {a3 : Int32} {h : Hp} {rv : Int32 × Hp} (hf : f_X8_usesPier h a1 a2 a3 = some rv) : Met l yX8_usesPier (ws_ yX8_usesPier cX8_usesPier 7 (some .boolean)) rm_X8_usesPier (va_Pc [.ref (ad 0), .int a1, .int a2, .int a3] (WB D ids (cEM ids ad) ad 12 ExM h)) (QW D (cEM ids ad) ad 12 (some (.int rv.1)) rv.2) 0 0 (inW ad 12) :=
  u_met (own := RX8) (by decide) rfl (Nat.le_of_ble_eq_true rfl) rfl (fun p e s m args below meth c H ls C hX hP hS hl => w_X8_usesPier hA C hX _ _ _ _ _ _ _ hf hP hS hl)
theorem cv_X8_75 {p : Program} {l : Launch} {e : Env} {R : Room} {s : State} {m : MethodId} {args : Array Value} {below : List Frame} {meth : Method} {c : Code} {H : Heap} {locs : List Loc} {Q : State → Prop} {cc : ByteArray} {nL : Nat} {ret : Option FieldType} {pc : Nat} {ls : Array Slot} {rest : List Value} {D : va_G} {ids : Nat → ClassId} {ad : Nat → Nat} {h : Hp} (hA : adOk ad 12) (C : CX p s m args meth c cc nL ret RX8 D ids) (hX : ExM s s.heap) (hP : wp D (cEM ids ad) ad 12 h H) (hS : va_S (inW ad 12) s.heap H locs) {a1 : Int32} {a2 : Int32} {a3 : Int32} {rv : Int32 × Hp} (hf : f_X8_usesPier h a1 a2 a3 = some rv) (hR : 2 + 1 ≤ R.frames ∧ 8 + (7 + 11) + 44 ≤ R.locals) (hsz : ls.size = nL) (hcat : (rest.map fun v => v.category).sum ≤ 8) (hdg : decode cc pc = .ok (.invokevirtual 75, 3)) (kk : ∀ (H1 : Heap) (locs1 : List Loc), wp D (cEM ids ad) ad 12 rv.2 H1 → va_S (inW ad 12) s.heap H1 locs1 → W p l e R s m args below meth c H1 locs1 0 0 Q (F0 m (pc + 3) ls (.int rv.1 :: rest))) : W p l e R s m args below meth c H locs 0 0 Q (F0 m pc ls (.int a3 :: .int a2 :: .int a1 :: .ref (ad 0) :: rest)) :=
  u_callV (As := [.int a1, .int a2, .int a3]) (rv := (some (.int rv.1))) C exM_ok hX (c_X8_usesPier l D ids ad hA hf) q_617 q_618 q_619 q_5 q_620 ⟨rfl, rfl⟩ (by refine ⟨by decide +kernel, by decide +kernel, ?_⟩; show _ = some 3; decide +kernel) hR (by decide) (cE_X8 _) rfl hP hS hsz hcat rfl hdg kk
abbrev rm_X8_usesSet : Room := { frames := 3, cells := 0, slots := 0, locals := 70 }
set_option maxRecDepth 100000 in
set_option maxHeartbeats 4000000 in
theorem w_X8_usesSet_31 {p : Program} {l : Launch} {e : Env} {s : State} {m : MethodId} {args : Array Value} {below : List Frame} {meth : Method} {c : Code} {D : va_G} {ids : Nat → ClassId} {ad : Nat → Nat} {rv : Int32 × Hp} (hA : adOk ad 12) (C : CX p s m args meth c cX8_usesSet 5 (some .int) RX8 D ids) (hX : ExM s s.heap) {K5 : Hp → Int32 → Int32 → Int32 → Int32 → Option (Int32 × Hp)} (hK5 : ∀ (h : Hp) (x1 : Int32) (x2 : Int32) (x3 : Int32) (x4 : Int32) (H : Heap) (locs : List Loc) (ls : Array Slot), K5 h x1 x2 x3 x4 = some rv → wp D (cEM ids ad) ad 12 h H → va_S (inW ad 12) s.heap H locs → lv_has ls 5 [(0, .ref (ad 0)), (1, .int x1), (2, .int x2), (3, .int x3), (4, .int x4)] → W p l e rm_X8_usesSet s m args below meth c H locs 0 0 (MQ below (QW D (cEM ids ad) ad 12 (some (.int rv.1)) rv.2) args s 0 0 (inW ad 12)) (F0 m 5 ls [])) : ∀ (h : Hp) (x1 : Int32) (x2 : Int32) (x4 : Int32) (t0 : Int32) (t1 : Int32) (H : Heap) (locs : List Loc) (ls : Array Slot), f_X8_usesSet_31 K5 h x1 x2 x4 t0 t1 = some rv → wp D (cEM ids ad) ad 12 h H → va_S (inW ad 12) s.heap H locs → lv_has ls 5 [(0, .ref (ad 0)), (1, .int x1), (2, .int x2), (4, .int x4)] → W p l e rm_X8_usesSet s m args below meth c H locs 0 0 (MQ below (QW D (cEM ids ad) ad 12 (some (.int rv.1)) rv.2) args s 0 0 (inW ad 12)) (F0 m 31 ls [.int t1, .int t0]) := by
  intro h x1 x2 x4 t0 t1 H locs ls hf hP hS hl
  unfold f_X8_usesSet_31 at hf
  refine lv_ior C.1 C.2.1 dX8_usesSet_31 ?_
  refine lv_istore_n (lv' := [(3, .int (t0 ||| t1)), (0, .ref (ad 0)), (1, .int x1), (2, .int x2), (4, .int x4)]) C.1 C.2.1 dX8_usesSet_32 rfl hl (by decide) rfl (fun ls hl => ?_)
  refine lv_iinc (v := (x4 + 1)) (lv' := [(4, .int (x4 + 1)), (3, .int (t0 ||| t1)), (0, .ref (ad 0)), (1, .int x1), (2, .int x2)]) C.1 C.2.1 dX8_usesSet_33 hl (k := 4) rfl (by rfl) (by decide) rfl (fun ls hl => ?_)
  refine lv_goto (tgt := 5) C.1 C.2.1 dX8_usesSet_36 (by decide) ?_
  exact hK5 _ _ _ _ _ _ _ _ hf hP hS (lv_sub hl [2, 3, 4, 1, 0] rfl)
set_option maxRecDepth 100000 in
set_option maxHeartbeats 4000000 in
theorem w_X8_usesSet_5 {p : Program} {l : Launch} {e : Env} {s : State} {m : MethodId} {args : Array Value} {below : List Frame} {meth : Method} {c : Code} {D : va_G} {ids : Nat → ClassId} {ad : Nat → Nat} {rv : Int32 × Hp} (hA : adOk ad 12) (C : CX p s m args meth c cX8_usesSet 5 (some .int) RX8 D ids) (hX : ExM s s.heap) : ∀ (fu : Nat), ∀ (h : Hp) (x1 : Int32) (x2 : Int32) (x3 : Int32) (x4 : Int32) (H : Heap) (locs : List Loc) (ls : Array Slot), f_X8_usesSet_5 fu h x1 x2 x3 x4 = some rv → wp D (cEM ids ad) ad 12 h H → va_S (inW ad 12) s.heap H locs → lv_has ls 5 [(0, .ref (ad 0)), (1, .int x1), (2, .int x2), (3, .int x3), (4, .int x4)] → W p l e rm_X8_usesSet s m args below meth c H locs 0 0 (MQ below (QW D (cEM ids ad) ad 12 (some (.int rv.1)) rv.2) args s 0 0 (inW ad 12)) (F0 m 5 ls []) := by
  intro fu
  induction fu with
  | zero =>
    intro h x1 x2 x3 x4 H locs ls hf hP hS hl
    cases hf
  | succ fu ih =>
    intro h x1 x2 x3 x4 H locs ls hf hP hS hl
    rw [f_X8_usesSet_5_s] at hf
    refine lv_iload C.1 C.2.1 dX8_usesSet_5 (lv_at hl 4 rfl) ?_
    refine lv_iconst (v := (3 : Int32)) C.1 C.2.1 dX8_usesSet_7 (by decide) ?_
    refine lv_icmp_ge (tgt := 39) C.1 C.2.1 dX8_usesSet_8 (by decide) (fun hc => ?_) (fun hc => ?_)
    · have hf := g_t hc hf
      refine lv_iload_n C.1 C.2.1 dX8_usesSet_39 rfl (lv_at hl 3 rfl) ?_
      obtain rfl := Option.some.inj hf
      exact u_iret C hP hS dX8_usesSet_40
    · have hf := g_f hc hf
      refine lv_iload_n C.1 C.2.1 dX8_usesSet_11 rfl (lv_at hl 3 rfl) ?_
      refine lv_aload_n C.1 C.2.1 dX8_usesSet_12 rfl (lv_at hl 0 rfl) ?_
      refine lv_iload C.1 C.2.1 dX8_usesSet_13 (lv_at hl 4 rfl) ?_
      refine lv_iload_n C.1 C.2.1 dX8_usesSet_15 rfl (lv_at hl 1 rfl) ?_
      refine lv_iload_n C.1 C.2.1 dX8_usesSet_16 rfl (lv_at hl 2 rfl) ?_
      obtain ⟨q1, eq1, hf⟩ := g_b hf
      refine cv_X8_75 hA C hX hP hS eq1 ⟨Nat.le_of_ble_eq_true rfl, Nat.le_of_ble_eq_true rfl⟩ hl.1 (Nat.le_of_ble_eq_true rfl) dX8_usesSet_17 (fun H locs hP hS => ?_)
      refine lv_if_eq (tgt := 30) C.1 C.2.1 dX8_usesSet_20 (by decide) (fun hc => ?_) (fun hc => ?_)
      · have hf := g_t hc hf
        refine lv_iconst (v := (0 : Int32)) C.1 C.2.1 dX8_usesSet_30 (by decide) ?_
        exact w_X8_usesSet_31 hA C hX ih _ _ _ _ _ _ _ _ _ hf hP hS (lv_sub hl [0, 1, 2, 4] rfl)
      · have hf := g_f hc hf
        refine lv_iconst (v := (1 : Int32)) C.1 C.2.1 dX8_usesSet_23 (by decide) ?_
        refine lv_iload C.1 C.2.1 dX8_usesSet_24 (lv_at hl 4 rfl) ?_
        refine lv_ishl C.1 C.2.1 dX8_usesSet_26 ?_
        refine lv_goto (tgt := 31) C.1 C.2.1 dX8_usesSet_27 (by decide) ?_
        exact w_X8_usesSet_31 hA C hX ih _ _ _ _ _ _ _ _ _ hf hP hS (lv_sub hl [0, 1, 2, 4] rfl)
set_option maxRecDepth 100000 in
set_option maxHeartbeats 4000000 in
theorem w_X8_usesSet {p : Program} {l : Launch} {e : Env} {s : State} {m : MethodId} {args : Array Value} {below : List Frame} {meth : Method} {c : Code} {D : va_G} {ids : Nat → ClassId} {ad : Nat → Nat} {rv : Int32 × Hp} (hA : adOk ad 12) (C : CX p s m args meth c cX8_usesSet 5 (some .int) RX8 D ids) (hX : ExM s s.heap) : ∀ (h : Hp) (a1 : Int32) (a2 : Int32) (H : Heap) (locs : List Loc) (ls : Array Slot), f_X8_usesSet h a1 a2 = some rv → wp D (cEM ids ad) ad 12 h H → va_S (inW ad 12) s.heap H locs → lv_has ls 5 [(0, .ref (ad 0)), (1, .int a1), (2, .int a2)] → W p l e rm_X8_usesSet s m args below meth c H locs 0 0 (MQ below (QW D (cEM ids ad) ad 12 (some (.int rv.1)) rv.2) args s 0 0 (inW ad 12)) (F0 m 0 ls []) := by
  intro h a1 a2 H locs ls hf hP hS hl
  unfold f_X8_usesSet at hf
  refine lv_iconst (v := (0 : Int32)) C.1 C.2.1 dX8_usesSet_0 (by decide) ?_
  refine lv_istore_n (lv' := [(3, .int (0 : Int32)), (0, .ref (ad 0)), (1, .int a1), (2, .int a2)]) C.1 C.2.1 dX8_usesSet_1 rfl hl (by decide) rfl (fun ls hl => ?_)
  refine lv_iconst (v := (0 : Int32)) C.1 C.2.1 dX8_usesSet_2 (by decide) ?_
  refine lv_istore (lv' := [(4, .int (0 : Int32)), (3, .int (0 : Int32)), (0, .ref (ad 0)), (1, .int a1), (2, .int a2)]) C.1 C.2.1 dX8_usesSet_3 hl (by decide) rfl (fun ls hl => ?_)
  exact w_X8_usesSet_5 hA C hX _ _ _ _ _ _ _ _ _ hf hP hS (lv_sub hl [2, 3, 4, 1, 0] rfl)
theorem c_X8_usesSet (l : Launch) (D : va_G) (ids : Nat → ClassId) (ad : Nat → Nat) (hA : adOk ad 12) {a1 : Int32} {a2 : Int32} {h : Hp} {rv : Int32 × Hp} (hf : f_X8_usesSet h a1 a2 = some rv) : Met l yX8_usesSet (ws_ yX8_usesSet cX8_usesSet 5 (some .int)) rm_X8_usesSet (va_Pc [.ref (ad 0), .int a1, .int a2] (WB D ids (cEM ids ad) ad 12 ExM h)) (QW D (cEM ids ad) ad 12 (some (.int rv.1)) rv.2) 0 0 (inW ad 12) :=
  u_met (own := RX8) (by decide) rfl (Nat.le_of_ble_eq_true rfl) rfl (fun p e s m args below meth c H ls C hX hP hS hl => w_X8_usesSet hA C hX _ _ _ _ _ _ hf hP hS hl)
theorem cv_X8_78 {p : Program} {l : Launch} {e : Env} {R : Room} {s : State} {m : MethodId} {args : Array Value} {below : List Frame} {meth : Method} {c : Code} {H : Heap} {locs : List Loc} {Q : State → Prop} {cc : ByteArray} {nL : Nat} {ret : Option FieldType} {pc : Nat} {ls : Array Slot} {rest : List Value} {D : va_G} {ids : Nat → ClassId} {ad : Nat → Nat} {h : Hp} (hA : adOk ad 12) (C : CX p s m args meth c cc nL ret RX8 D ids) (hX : ExM s s.heap) (hP : wp D (cEM ids ad) ad 12 h H) (hS : va_S (inW ad 12) s.heap H locs) {a1 : Int32} {a2 : Int32} {rv : Int32 × Hp} (hf : f_X8_usesSet h a1 a2 = some rv) (hR : 3 + 1 ≤ R.frames ∧ 8 + (5 + 11) + 70 ≤ R.locals) (hsz : ls.size = nL) (hcat : (rest.map fun v => v.category).sum ≤ 8) (hdg : decode cc pc = .ok (.invokevirtual 78, 3)) (kk : ∀ (H1 : Heap) (locs1 : List Loc), wp D (cEM ids ad) ad 12 rv.2 H1 → va_S (inW ad 12) s.heap H1 locs1 → W p l e R s m args below meth c H1 locs1 0 0 Q (F0 m (pc + 3) ls (.int rv.1 :: rest))) : W p l e R s m args below meth c H locs 0 0 Q (F0 m pc ls (.int a2 :: .int a1 :: .ref (ad 0) :: rest)) :=
  u_callV (As := [.int a1, .int a2]) (rv := (some (.int rv.1))) C exM_ok hX (c_X8_usesSet l D ids ad hA hf) q_613 q_614 q_615 q_5 q_616 ⟨rfl, rfl⟩ (by refine ⟨by decide +kernel, by decide +kernel, ?_⟩; show _ = some 2; decide +kernel) hR (by decide) (cE_X8 _) rfl hP hS hsz hcat rfl hdg kk
abbrev rm_X8_uses : Room := { frames := 4, cells := 0, slots := 0, locals := 94 }
set_option maxRecDepth 100000 in
set_option maxHeartbeats 4000000 in
theorem w_X8_uses {p : Program} {l : Launch} {e : Env} {s : State} {m : MethodId} {args : Array Value} {below : List Frame} {meth : Method} {c : Code} {D : va_G} {ids : Nat → ClassId} {ad : Nat → Nat} {rv : Int32 × Hp} (hA : adOk ad 12) (C : CX p s m args meth c cX8_uses 3 (some .int) RX8 D ids) (hX : ExM s s.heap) : ∀ (h : Hp) (a1 : Int32) (a2 : Int32) (H : Heap) (locs : List Loc) (ls : Array Slot), f_X8_uses h a1 a2 = some rv → wp D (cEM ids ad) ad 12 h H → va_S (inW ad 12) s.heap H locs → lv_has ls 3 [(0, .ref (ad 0)), (1, .int a1), (2, .int a2)] → W p l e rm_X8_uses s m args below meth c H locs 0 0 (MQ below (QW D (cEM ids ad) ad 12 (some (.int rv.1)) rv.2) args s 0 0 (inW ad 12)) (F0 m 0 ls []) := by
  intro h a1 a2 H locs ls hf hP hS hl
  unfold f_X8_uses at hf
  refine lv_iload_n C.1 C.2.1 dX8_uses_0 rfl (lv_at hl 1 rfl) ?_
  refine lv_iconst (v := (0 : Int32)) C.1 C.2.1 dX8_uses_1 (by decide) ?_
  refine lv_iconst (v := (1 : Int32)) C.1 C.2.1 dX8_uses_2 (by decide) ?_
  obtain ⟨q1, eq1, hf⟩ := g_b hf
  refine cv_X8_51 hA C hX hP hS eq1 ⟨Nat.le_of_ble_eq_true rfl, Nat.le_of_ble_eq_true rfl⟩ hl.1 (Nat.le_of_ble_eq_true rfl) dX8_uses_3 (fun H locs hP hS => ?_)
  refine lv_if_eq (tgt := 19) C.1 C.2.1 dX8_uses_6 (by decide) (fun hc => ?_) (fun hc => ?_)
  · have hf := g_t hc hf
    refine lv_iconst (v := (-1 : Int32)) C.1 C.2.1 dX8_uses_19 (by decide) ?_
    obtain rfl := Option.some.inj hf
    exact u_iret C hP hS dX8_uses_20
  · have hf := g_f hc hf
    refine lv_iload_n C.1 C.2.1 dX8_uses_9 rfl (lv_at hl 2 rfl) ?_
    refine lv_iconst (v := (0 : Int32)) C.1 C.2.1 dX8_uses_10 (by decide) ?_
    refine lv_bipush (v := (23 : Int32)) C.1 C.2.1 dX8_uses_11 (by decide) ?_
    obtain ⟨q2, eq2, hf⟩ := g_b hf
    refine cv_X8_51 hA C hX hP hS eq2 ⟨Nat.le_of_ble_eq_true rfl, Nat.le_of_ble_eq_true rfl⟩ hl.1 (Nat.le_of_ble_eq_true rfl) dX8_uses_13 (fun H locs hP hS => ?_)
    refine lv_if_ne (tgt := 21) C.1 C.2.1 dX8_uses_16 (by decide) (fun hc => ?_) (fun hc => ?_)
    · have hf := g_f hc hf
      refine lv_aload_n C.1 C.2.1 dX8_uses_21 rfl (lv_at hl 0 rfl) ?_
      obtain ⟨q3, eq3, hf⟩ := g_b hf
      refine cv_X8_110 hA C hX hP hS eq3 ⟨Nat.le_of_ble_eq_true rfl, Nat.le_of_ble_eq_true rfl⟩ hl.1 (Nat.le_of_ble_eq_true rfl) dX8_uses_22 (fun H locs hP hS => ?_)
      refine lv_aload_n C.1 C.2.1 dX8_uses_25 rfl (lv_at hl 0 rfl) ?_
      refine lv_iload_n C.1 C.2.1 dX8_uses_26 rfl (lv_at hl 1 rfl) ?_
      refine lv_iload_n C.1 C.2.1 dX8_uses_27 rfl (lv_at hl 2 rfl) ?_
      obtain ⟨q4, eq4, hf⟩ := g_b hf
      refine cv_X8_78 hA C hX hP hS eq4 ⟨Nat.le_of_ble_eq_true rfl, Nat.le_of_ble_eq_true rfl⟩ hl.1 (Nat.le_of_ble_eq_true rfl) dX8_uses_28 (fun H locs hP hS => ?_)
      obtain rfl := Option.some.inj hf
      exact u_iret C hP hS dX8_uses_31
    · have hf := g_t hc hf
      refine lv_iconst (v := (-1 : Int32)) C.1 C.2.1 dX8_uses_19 (by decide) ?_
      obtain rfl := Option.some.inj hf
      exact u_iret C hP hS dX8_uses_20
theorem c_X8_uses (l : Launch) (D : va_G) (ids : Nat → ClassId) (ad : Nat → Nat) (hA : adOk ad 12) {a1 : Int32} {a2 : Int32} {h : Hp} {rv : Int32 × Hp} (hf : f_X8_uses h a1 a2 = some rv) : Met l yX8_uses (ws_ yX8_uses cX8_uses 3 (some .int)) rm_X8_uses (va_Pc [.ref (ad 0), .int a1, .int a2] (WB D ids (cEM ids ad) ad 12 ExM h)) (QW D (cEM ids ad) ad 12 (some (.int rv.1)) rv.2) 0 0 (inW ad 12) :=
  u_met (own := RX8) (by decide) rfl (Nat.le_of_ble_eq_true rfl) rfl (fun p e s m args below meth c H ls C hX hP hS hl => w_X8_uses hA C hX _ _ _ _ _ _ hf hP hS hl)
abbrev rm_X8_clash : Room := { frames := 4, cells := 0, slots := 0, locals := 94 }
set_option maxRecDepth 100000 in
set_option maxHeartbeats 4000000 in
theorem w_X8_clash_49 {p : Program} {l : Launch} {e : Env} {s : State} {m : MethodId} {args : Array Value} {below : List Frame} {meth : Method} {c : Code} {D : va_G} {ids : Nat → ClassId} {ad : Nat → Nat} {rv : Int32 × Hp} (hA : adOk ad 12) (C : CX p s m args meth c cX8_clash 6 (some .int) RX8 D ids) (hX : ExM s s.heap) {K9 : Hp → Int32 → Int32 → Int32 → Option (Int32 × Hp)} (hK9 : ∀ (h : Hp) (x2 : Int32) (x3 : Int32) (x4 : Int32) (H : Heap) (locs : List Loc) (ls : Array Slot), K9 h x2 x3 x4 = some rv → wp D (cEM ids ad) ad 12 h H → va_S (inW ad 12) s.heap H locs → lv_has ls 6 [(0, .ref (ad 0)), (2, .int x2), (3, .int x3), (4, .int x4)] → W p l e rm_X8_clash s m args below meth c H locs 0 0 (MQ below (QW D (cEM ids ad) ad 12 (some (.int rv.1)) rv.2) args s 0 0 (inW ad 12)) (F0 m 9 ls [])) : ∀ (h : Hp) (x2 : Int32) (x4 : Int32) (x5 : Int32) (t0 : Int32) (t1 : Int32) (H : Heap) (locs : List Loc) (ls : Array Slot), f_X8_clash_49 K9 h x2 x4 x5 t0 t1 = some rv → wp D (cEM ids ad) ad 12 h H → va_S (inW ad 12) s.heap H locs → lv_has ls 6 [(0, .ref (ad 0)), (2, .int x2), (4, .int x4), (5, .int x5)] → W p l e rm_X8_clash s m args below meth c H locs 0 0 (MQ below (QW D (cEM ids ad) ad 12 (some (.int rv.1)) rv.2) args s 0 0 (inW ad 12)) (F0 m 49 ls [.int t1, .int t0]) := by
  intro h x2 x4 x5 t0 t1 H locs ls hf hP hS hl
  unfold f_X8_clash_49 at hf
  refine lv_isub C.1 C.2.1 dX8_clash_49 ?_
  refine lv_istore_n (lv' := [(3, .int (t0 - t1)), (0, .ref (ad 0)), (2, .int x2), (4, .int x4), (5, .int x5)]) C.1 C.2.1 dX8_clash_50 rfl hl (by decide) rfl (fun ls hl => ?_)
  refine lv_iload_n C.1 C.2.1 dX8_clash_51 rfl (lv_at hl 0 rfl) ?_
  refine lv_if_ge (tgt := 91) C.1 C.2.1 dX8_clash_52 (by decide) (fun hc => ?_) (fun hc => ?_)
  · have hf := g_t hc hf
    refine lv_iinc (v := (x4 + 1)) (lv' := [(4, .int (x4 + 1)), (3, .int (t0 - t1)), (0, .ref (ad 0)), (2, .int x2), (5, .int x5)]) C.1 C.2.1 dX8_clash_91 hl (k := 3) rfl (by rfl) (by decide) rfl (fun ls hl => ?_)
    refine lv_goto (tgt := 9) C.1 C.2.1 dX8_clash_94 (by decide) ?_
    exact hK9 _ _ _ _ _ _ _ hf hP hS (lv_sub hl [2, 3, 1, 0] rfl)
  · have hf := g_f hc hf
    refine lv_iload_n C.1 C.2.1 dX8_clash_55 rfl (lv_at hl 2 rfl) ?_
    refine lv_if_ne (tgt := 66) C.1 C.2.1 dX8_clash_56 (by decide) (fun hc => ?_) (fun hc => ?_)
    · have hf := g_f hc hf
      refine lv_iload_n C.1 C.2.1 dX8_clash_66 rfl (lv_at hl 2 rfl) ?_
      refine lv_iconst (v := (1 : Int32)) C.1 C.2.1 dX8_clash_67 (by decide) ?_
      refine lv_icmp_ne (tgt := 78) C.1 C.2.1 dX8_clash_68 (by decide) (fun hc => ?_) (fun hc => ?_)
      · have hf := g_f hc hf
        refine lv_iload_n C.1 C.2.1 dX8_clash_78 rfl (lv_at hl 2 rfl) ?_
        refine lv_iconst (v := (2 : Int32)) C.1 C.2.1 dX8_clash_79 (by decide) ?_
        refine lv_icmp_ne (tgt := 88) C.1 C.2.1 dX8_clash_80 (by decide) (fun hc => ?_) (fun hc => ?_)
        · have hf := g_f hc hf
          refine lv_bipush (v := (-2 : Int32)) C.1 C.2.1 dX8_clash_88 (by decide) ?_
          obtain rfl := Option.some.inj hf
          exact u_iret C hP hS dX8_clash_90
        · have hf := g_t hc hf
          refine lv_iload C.1 C.2.1 dX8_clash_83 (lv_at hl 4 rfl) ?_
          refine lv_goto (tgt := 90) C.1 C.2.1 dX8_clash_85 (by decide) ?_
          obtain rfl := Option.some.inj hf
          exact u_iret C hP hS dX8_clash_90
      · have hf := g_t hc hf
        refine lv_iload C.1 C.2.1 dX8_clash_71 (lv_at hl 3 rfl) ?_
        refine lv_iconst (v := (2 : Int32)) C.1 C.2.1 dX8_clash_73 (by decide) ?_
        refine lv_irem C.1 C.2.1 dX8_clash_74 (by decide) ?_
        refine lv_goto (tgt := 90) C.1 C.2.1 dX8_clash_75 (by decide) ?_
        obtain rfl := Option.some.inj hf
        exact u_iret C hP hS dX8_clash_90
    · have hf := g_t hc hf
      refine lv_iload C.1 C.2.1 dX8_clash_59 (lv_at hl 3 rfl) ?_
      refine lv_iconst (v := (2 : Int32)) C.1 C.2.1 dX8_clash_61 (by decide) ?_
      refine lv_idiv C.1 C.2.1 dX8_clash_62 (by decide) ?_
      refine lv_goto (tgt := 90) C.1 C.2.1 dX8_clash_63 (by decide) ?_
      obtain rfl := Option.some.inj hf
      exact u_iret C hP hS dX8_clash_90
set_option maxRecDepth 100000 in
set_option maxHeartbeats 4000000 in
theorem w_X8_clash_9 {p : Program} {l : Launch} {e : Env} {s : State} {m : MethodId} {args : Array Value} {below : List Frame} {meth : Method} {c : Code} {D : va_G} {ids : Nat → ClassId} {ad : Nat → Nat} {rv : Int32 × Hp} (hA : adOk ad 12) (C : CX p s m args meth c cX8_clash 6 (some .int) RX8 D ids) (hX : ExM s s.heap) : ∀ (fu : Nat), ∀ (h : Hp) (x2 : Int32) (x3 : Int32) (x4 : Int32) (H : Heap) (locs : List Loc) (ls : Array Slot), f_X8_clash_9 fu h x2 x3 x4 = some rv → wp D (cEM ids ad) ad 12 h H → va_S (inW ad 12) s.heap H locs → lv_has ls 6 [(0, .ref (ad 0)), (2, .int x2), (3, .int x3), (4, .int x4)] → W p l e rm_X8_clash s m args below meth c H locs 0 0 (MQ below (QW D (cEM ids ad) ad 12 (some (.int rv.1)) rv.2) args s 0 0 (inW ad 12)) (F0 m 9 ls []) := by
  intro fu
  induction fu with
  | zero =>
    intro h x2 x3 x4 H locs ls hf hP hS hl
    cases hf
  | succ fu ih =>
    intro h x2 x3 x4 H locs ls hf hP hS hl
    rw [f_X8_clash_9_s] at hf
    refine lv_iload C.1 C.2.1 dX8_clash_9 (lv_at hl 3 rfl) ?_
    refine lv_bipush (v := (48 : Int32)) C.1 C.2.1 dX8_clash_11 (by decide) ?_
    refine lv_icmp_ge (tgt := 97) C.1 C.2.1 dX8_clash_13 (by decide) (fun hc => ?_) (fun hc => ?_)
    · have hf := g_t hc hf
      refine lv_iconst (v := (-1 : Int32)) C.1 C.2.1 dX8_clash_97 (by decide) ?_
      obtain rfl := Option.some.inj hf
      exact u_iret C hP hS dX8_clash_98
    · have hf := g_f hc hf
      refine lv_iload_n C.1 C.2.1 dX8_clash_16 rfl (lv_at hl 2 rfl) ?_
      refine lv_if_lt (tgt := 97) C.1 C.2.1 dX8_clash_17 (by decide) (fun hc => ?_) (fun hc => ?_)
      · have hf := g_t hc hf
        refine lv_iconst (v := (-1 : Int32)) C.1 C.2.1 dX8_clash_97 (by decide) ?_
        obtain rfl := Option.some.inj hf
        exact u_iret C hP hS dX8_clash_98
      · have hf := g_f hc hf
        refine lv_aload_n C.1 C.2.1 dX8_clash_20 rfl (lv_at hl 0 rfl) ?_
        refine lv_iload C.1 C.2.1 dX8_clash_21 (lv_at hl 3 rfl) ?_
        refine lv_iconst (v := (2 : Int32)) C.1 C.2.1 dX8_clash_23 (by decide) ?_
        refine lv_irem C.1 C.2.1 dX8_clash_24 (by decide) ?_
        refine lv_iload C.1 C.2.1 dX8_clash_25 (lv_at hl 3 rfl) ?_
        refine lv_iconst (v := (2 : Int32)) C.1 C.2.1 dX8_clash_27 (by decide) ?_
        refine lv_idiv C.1 C.2.1 dX8_clash_28 (by decide) ?_
        obtain ⟨q1, eq1, hf⟩ := g_b hf
        refine cv_X8_78 hA C hX hP hS eq1 ⟨Nat.le_of_ble_eq_true rfl, Nat.le_of_ble_eq_true rfl⟩ hl.1 (Nat.le_of_ble_eq_true rfl) dX8_clash_29 (fun H locs hP hS => ?_)
        refine lv_istore (lv' := [(5, .int q1.1), (0, .ref (ad 0)), (2, .int x2), (3, .int x3), (4, .int x4)]) C.1 C.2.1 dX8_clash_32 hl (by decide) rfl (fun ls hl => ?_)
        refine lv_iload_n C.1 C.2.1 dX8_clash_34 rfl (lv_at hl 3 rfl) ?_
        refine lv_iload C.1 C.2.1 dX8_clash_35 (lv_at hl 0 rfl) ?_
        obtain ⟨q2, eq2, hf⟩ := g_b hf
        refine cv_X8_81 hA C hX hP hS eq2 ⟨Nat.le_of_ble_eq_true rfl, Nat.le_of_ble_eq_true rfl⟩ hl.1 (Nat.le_of_ble_eq_true rfl) dX8_clash_37 (fun H locs hP hS => ?_)
        refine lv_iconst (v := (1 : Int32)) C.1 C.2.1 dX8_clash_40 (by decide) ?_
        refine lv_icmp_le (tgt := 48) C.1 C.2.1 dX8_clash_41 (by decide) (fun hc => ?_) (fun hc => ?_)
        · have hf := g_t hc hf
          refine lv_iconst (v := (0 : Int32)) C.1 C.2.1 dX8_clash_48 (by decide) ?_
          exact w_X8_clash_49 hA C hX ih _ _ _ _ _ _ _ _ _ hf hP hS (lv_sub hl [1, 2, 4, 0] rfl)
        · have hf := g_f hc hf
          refine lv_iconst (v := (1 : Int32)) C.1 C.2.1 dX8_clash_44 (by decide) ?_
          refine lv_goto (tgt := 49) C.1 C.2.1 dX8_clash_45 (by decide) ?_
          exact w_X8_clash_49 hA C hX ih _ _ _ _ _ _ _ _ _ hf hP hS (lv_sub hl [1, 2, 4, 0] rfl)
set_option maxRecDepth 100000 in
set_option maxHeartbeats 4000000 in
theorem w_X8_clash {p : Program} {l : Launch} {e : Env} {s : State} {m : MethodId} {args : Array Value} {below : List Frame} {meth : Method} {c : Code} {D : va_G} {ids : Nat → ClassId} {ad : Nat → Nat} {rv : Int32 × Hp} (hA : adOk ad 12) (C : CX p s m args meth c cX8_clash 6 (some .int) RX8 D ids) (hX : ExM s s.heap) : ∀ (h : Hp) (a1 : Int32) (a2 : Int32) (H : Heap) (locs : List Loc) (ls : Array Slot), f_X8_clash h a1 a2 = some rv → wp D (cEM ids ad) ad 12 h H → va_S (inW ad 12) s.heap H locs → lv_has ls 6 [(0, .ref (ad 0)), (1, .int a1), (2, .int a2)] → W p l e rm_X8_clash s m args below meth c H locs 0 0 (MQ below (QW D (cEM ids ad) ad 12 (some (.int rv.1)) rv.2) args s 0 0 (inW ad 12)) (F0 m 0 ls []) := by
  intro h a1 a2 H locs ls hf hP hS hl
  unfold f_X8_clash at hf
  refine lv_aload_n C.1 C.2.1 dX8_clash_0 rfl (lv_at hl 0 rfl) ?_
  obtain ⟨q1, eq1, hf⟩ := g_b hf
  refine cv_X8_110 hA C hX hP hS eq1 ⟨Nat.le_of_ble_eq_true rfl, Nat.le_of_ble_eq_true rfl⟩ hl.1 (Nat.le_of_ble_eq_true rfl) dX8_clash_1 (fun H locs hP hS => ?_)
  refine lv_iload_n C.1 C.2.1 dX8_clash_4 rfl (lv_at hl 1 rfl) ?_
  refine lv_istore_n (lv' := [(3, .int a1), (0, .ref (ad 0)), (1, .int a1), (2, .int a2)]) C.1 C.2.1 dX8_clash_5 rfl hl (by decide) rfl (fun ls hl => ?_)
  refine lv_iconst (v := (0 : Int32)) C.1 C.2.1 dX8_clash_6 (by decide) ?_
  refine lv_istore (lv' := [(4, .int (0 : Int32)), (3, .int a1), (0, .ref (ad 0)), (1, .int a1), (2, .int a2)]) C.1 C.2.1 dX8_clash_7 hl (by decide) rfl (fun ls hl => ?_)
  exact w_X8_clash_9 hA C hX _ _ _ _ _ _ _ _ hf hP hS (lv_sub hl [2, 4, 1, 0] rfl)
theorem c_X8_clash (l : Launch) (D : va_G) (ids : Nat → ClassId) (ad : Nat → Nat) (hA : adOk ad 12) {a1 : Int32} {a2 : Int32} {h : Hp} {rv : Int32 × Hp} (hf : f_X8_clash h a1 a2 = some rv) : Met l yX8_clash (ws_ yX8_clash cX8_clash 6 (some .int)) rm_X8_clash (va_Pc [.ref (ad 0), .int a1, .int a2] (WB D ids (cEM ids ad) ad 12 ExM h)) (QW D (cEM ids ad) ad 12 (some (.int rv.1)) rv.2) 0 0 (inW ad 12) :=
  u_met (own := RX8) (by decide) rfl (Nat.le_of_ble_eq_true rfl) rfl (fun p e s m args below meth c H ls C hX hP hS hl => w_X8_clash hA C hX _ _ _ _ _ _ hf hP hS hl)
abbrev rm_X8_hours : Room := { frames := 2, cells := 0, slots := 0, locals := 45 }
set_option maxRecDepth 100000 in
set_option maxHeartbeats 4000000 in
theorem w_X8_hours_89 {p : Program} {l : Launch} {e : Env} {s : State} {m : MethodId} {args : Array Value} {below : List Frame} {meth : Method} {c : Code} {D : va_G} {ids : Nat → ClassId} {ad : Nat → Nat} {rv : Int32 × Hp} (hA : adOk ad 12) (C : CX p s m args meth c cX8_hours 6 (some .int) RX8 D ids) (hX : ExM s s.heap) {K29 : Hp → Int32 → Int32 → Int32 → Int32 → Int32 → Option (Int32 × Hp)} (hK29 : ∀ (h : Hp) (x1 : Int32) (x2 : Int32) (x3 : Int32) (x4 : Int32) (x5 : Int32) (H : Heap) (locs : List Loc) (ls : Array Slot), K29 h x1 x2 x3 x4 x5 = some rv → wp D (cEM ids ad) ad 12 h H → va_S (inW ad 12) s.heap H locs → lv_has ls 6 [(0, .ref (ad 0)), (1, .int x1), (2, .int x2), (3, .int x3), (4, .int x4), (5, .int x5)] → W p l e rm_X8_hours s m args below meth c H locs 0 0 (MQ below (QW D (cEM ids ad) ad 12 (some (.int rv.1)) rv.2) args s 0 0 (inW ad 12)) (F0 m 29 ls [])) : ∀ (h : Hp) (x1 : Int32) (x2 : Int32) (x3 : Int32) (x5 : Int32) (t0 : Int32) (t1 : Int32) (H : Heap) (locs : List Loc) (ls : Array Slot), f_X8_hours_89 K29 h x1 x2 x3 x5 t0 t1 = some rv → wp D (cEM ids ad) ad 12 h H → va_S (inW ad 12) s.heap H locs → lv_has ls 6 [(0, .ref (ad 0)), (1, .int x1), (2, .int x2), (3, .int x3), (5, .int x5)] → W p l e rm_X8_hours s m args below meth c H locs 0 0 (MQ below (QW D (cEM ids ad) ad 12 (some (.int rv.1)) rv.2) args s 0 0 (inW ad 12)) (F0 m 89 ls [.int t1, .int t0]) := by
  intro h x1 x2 x3 x5 t0 t1 H locs ls hf hP hS hl
  unfold f_X8_hours_89 at hf
  refine lv_ior C.1 C.2.1 dX8_hours_89 ?_
  refine lv_istore (lv' := [(4, .int (t0 ||| t1)), (0, .ref (ad 0)), (1, .int x1), (2, .int x2), (3, .int x3), (5, .int x5)]) C.1 C.2.1 dX8_hours_90 hl (by decide) rfl (fun ls hl => ?_)
  refine lv_iinc (v := (x5 + 1)) (lv' := [(5, .int (x5 + 1)), (4, .int (t0 ||| t1)), (0, .ref (ad 0)), (1, .int x1), (2, .int x2), (3, .int x3)]) C.1 C.2.1 dX8_hours_92 hl (k := 5) rfl (by rfl) (by decide) rfl (fun ls hl => ?_)
  refine lv_goto (tgt := 29) C.1 C.2.1 dX8_hours_95 (by decide) ?_
  exact hK29 _ _ _ _ _ _ _ _ _ hf hP hS (lv_sub hl [2, 3, 4, 5, 1, 0] rfl)
set_option maxRecDepth 100000 in
set_option maxHeartbeats 4000000 in
theorem w_X8_hours_61 {p : Program} {l : Launch} {e : Env} {s : State} {m : MethodId} {args : Array Value} {below : List Frame} {meth : Method} {c : Code} {D : va_G} {ids : Nat → ClassId} {ad : Nat → Nat} {rv : Int32 × Hp} (hA : adOk ad 12) (C : CX p s m args meth c cX8_hours 6 (some .int) RX8 D ids) (hX : ExM s s.heap) {K29 : Hp → Int32 → Int32 → Int32 → Int32 → Int32 → Option (Int32 × Hp)} (hK29 : ∀ (h : Hp) (x1 : Int32) (x2 : Int32) (x3 : Int32) (x4 : Int32) (x5 : Int32) (H : Heap) (locs : List Loc) (ls : Array Slot), K29 h x1 x2 x3 x4 x5 = some rv → wp D (cEM ids ad) ad 12 h H → va_S (inW ad 12) s.heap H locs → lv_has ls 6 [(0, .ref (ad 0)), (1, .int x1), (2, .int x2), (3, .int x3), (4, .int x4), (5, .int x5)] → W p l e rm_X8_hours s m args below meth c H locs 0 0 (MQ below (QW D (cEM ids ad) ad 12 (some (.int rv.1)) rv.2) args s 0 0 (inW ad 12)) (F0 m 29 ls [])) : ∀ (h : Hp) (x1 : Int32) (x2 : Int32) (x4 : Int32) (x5 : Int32) (t0 : Int32) (t1 : Int32) (H : Heap) (locs : List Loc) (ls : Array Slot), f_X8_hours_61 K29 h x1 x2 x4 x5 t0 t1 = some rv → wp D (cEM ids ad) ad 12 h H → va_S (inW ad 12) s.heap H locs → lv_has ls 6 [(0, .ref (ad 0)), (1, .int x1), (2, .int x2), (4, .int x4), (5, .int x5)] → W p l e rm_X8_hours s m args below meth c H locs 0 0 (MQ below (QW D (cEM ids ad) ad 12 (some (.int rv.1)) rv.2) args s 0 0 (inW ad 12)) (F0 m 61 ls [.int t1, .int t0]) := by
  intro h x1 x2 x4 x5 t0 t1 H locs ls hf hP hS hl
  unfold f_X8_hours_61 at hf
  refine lv_ior C.1 C.2.1 dX8_hours_61 ?_
  refine lv_istore_n (lv' := [(3, .int (t0 ||| t1)), (0, .ref (ad 0)), (1, .int x1), (2, .int x2), (4, .int x4), (5, .int x5)]) C.1 C.2.1 dX8_hours_62 rfl hl (by decide) rfl (fun ls hl => ?_)
  refine lv_iload C.1 C.2.1 dX8_hours_63 (lv_at hl 4 rfl) ?_
  refine lv_aload_n C.1 C.2.1 dX8_hours_65 rfl (lv_at hl 1 rfl) ?_
  refine lv_iload_n C.1 C.2.1 dX8_hours_66 rfl (lv_at hl 2 rfl) ?_
  refine lv_aload_n C.1 C.2.1 dX8_hours_67 rfl (lv_at hl 1 rfl) ?_
  refine gf_X8_7 C hP dX8_hours_68 ?_
  refine lv_iconst (v := (1 : Int32)) C.1 C.2.1 dX8_hours_71 (by decide) ?_
  obtain ⟨hg, hf⟩ := g_if hf
  refine al_m1 C hP hg dX8_hours_72 ?_
  refine lv_iload C.1 C.2.1 dX8_hours_73 (lv_at hl 5 rfl) ?_
  obtain ⟨q1, eq1, hf⟩ := g_b hf
  refine cv_X8_62 hA C hX hP hS eq1 ⟨Nat.le_of_ble_eq_true rfl, Nat.le_of_ble_eq_true rfl⟩ hl.1 (Nat.le_of_ble_eq_true rfl) dX8_hours_75 (fun H locs hP hS => ?_)
  refine lv_if_eq (tgt := 88) C.1 C.2.1 dX8_hours_78 (by decide) (fun hc => ?_) (fun hc => ?_)
  · have hf := g_t hc hf
    refine lv_iconst (v := (0 : Int32)) C.1 C.2.1 dX8_hours_88 (by decide) ?_
    exact w_X8_hours_89 hA C hX hK29 _ _ _ _ _ _ _ _ _ _ hf hP hS (lv_sub hl [1, 2, 3, 0, 5] rfl)
  · have hf := g_f hc hf
    refine lv_iconst (v := (1 : Int32)) C.1 C.2.1 dX8_hours_81 (by decide) ?_
    refine lv_iload C.1 C.2.1 dX8_hours_82 (lv_at hl 5 rfl) ?_
    refine lv_ishl C.1 C.2.1 dX8_hours_84 ?_
    refine lv_goto (tgt := 89) C.1 C.2.1 dX8_hours_85 (by decide) ?_
    exact w_X8_hours_89 hA C hX hK29 _ _ _ _ _ _ _ _ _ _ hf hP hS (lv_sub hl [1, 2, 3, 0, 5] rfl)
set_option maxRecDepth 100000 in
set_option maxHeartbeats 4000000 in
theorem w_X8_hours_29 {p : Program} {l : Launch} {e : Env} {s : State} {m : MethodId} {args : Array Value} {below : List Frame} {meth : Method} {c : Code} {D : va_G} {ids : Nat → ClassId} {ad : Nat → Nat} {rv : Int32 × Hp} (hA : adOk ad 12) (C : CX p s m args meth c cX8_hours 6 (some .int) RX8 D ids) (hX : ExM s s.heap) : ∀ (fu : Nat), ∀ (h : Hp) (x1 : Int32) (x2 : Int32) (x3 : Int32) (x4 : Int32) (x5 : Int32) (H : Heap) (locs : List Loc) (ls : Array Slot), f_X8_hours_29 fu h x1 x2 x3 x4 x5 = some rv → wp D (cEM ids ad) ad 12 h H → va_S (inW ad 12) s.heap H locs → lv_has ls 6 [(0, .ref (ad 0)), (1, .int x1), (2, .int x2), (3, .int x3), (4, .int x4), (5, .int x5)] → W p l e rm_X8_hours s m args below meth c H locs 0 0 (MQ below (QW D (cEM ids ad) ad 12 (some (.int rv.1)) rv.2) args s 0 0 (inW ad 12)) (F0 m 29 ls []) := by
  intro fu
  induction fu with
  | zero =>
    intro h x1 x2 x3 x4 x5 H locs ls hf hP hS hl
    cases hf
  | succ fu ih =>
    intro h x1 x2 x3 x4 x5 H locs ls hf hP hS hl
    rw [f_X8_hours_29_s] at hf
    refine lv_iload C.1 C.2.1 dX8_hours_29 (lv_at hl 5 rfl) ?_
    refine lv_bipush (v := (24 : Int32)) C.1 C.2.1 dX8_hours_31 (by decide) ?_
    refine lv_icmp_ge (tgt := 98) C.1 C.2.1 dX8_hours_33 (by decide) (fun hc => ?_) (fun hc => ?_)
    · have hf := g_t hc hf
      refine lv_iload_n C.1 C.2.1 dX8_hours_98 rfl (lv_at hl 2 rfl) ?_
      refine lv_if_ne (tgt := 106) C.1 C.2.1 dX8_hours_99 (by decide) (fun hc => ?_) (fun hc => ?_)
      · have hf := g_f hc hf
        refine lv_iload_n C.1 C.2.1 dX8_hours_106 rfl (lv_at hl 2 rfl) ?_
        refine lv_iconst (v := (1 : Int32)) C.1 C.2.1 dX8_hours_107 (by decide) ?_
        refine lv_icmp_ne (tgt := 116) C.1 C.2.1 dX8_hours_108 (by decide) (fun hc => ?_) (fun hc => ?_)
        · have hf := g_f hc hf
          refine lv_iload_n C.1 C.2.1 dX8_hours_116 rfl (lv_at hl 3 rfl) ?_
          refine lv_iload C.1 C.2.1 dX8_hours_117 (lv_at hl 4 rfl) ?_
          refine lv_ixor C.1 C.2.1 dX8_hours_119 ?_
          obtain rfl := Option.some.inj hf
          exact u_iret C hP hS dX8_hours_120
        · have hf := g_t hc hf
          refine lv_iload C.1 C.2.1 dX8_hours_111 (lv_at hl 4 rfl) ?_
          refine lv_goto (tgt := 120) C.1 C.2.1 dX8_hours_113 (by decide) ?_
          obtain rfl := Option.some.inj hf
          exact u_iret C hP hS dX8_hours_120
      · have hf := g_t hc hf
        refine lv_iload_n C.1 C.2.1 dX8_hours_102 rfl (lv_at hl 3 rfl) ?_
        refine lv_goto (tgt := 120) C.1 C.2.1 dX8_hours_103 (by decide) ?_
        obtain rfl := Option.some.inj hf
        exact u_iret C hP hS dX8_hours_120
    · have hf := g_f hc hf
      refine lv_iload_n C.1 C.2.1 dX8_hours_36 rfl (lv_at hl 3 rfl) ?_
      refine lv_aload_n C.1 C.2.1 dX8_hours_37 rfl (lv_at hl 0 rfl) ?_
      refine lv_iload_n C.1 C.2.1 dX8_hours_38 rfl (lv_at hl 1 rfl) ?_
      refine lv_aload_n C.1 C.2.1 dX8_hours_39 rfl (lv_at hl 0 rfl) ?_
      refine lv_iload_n C.1 C.2.1 dX8_hours_40 rfl (lv_at hl 1 rfl) ?_
      refine lv_iconst (v := (0 : Int32)) C.1 C.2.1 dX8_hours_41 (by decide) ?_
      obtain ⟨q1, eq1, hf⟩ := g_b hf
      refine cv_X8_55 hA C hX hP hS eq1 ⟨Nat.le_of_ble_eq_true rfl, Nat.le_of_ble_eq_true rfl⟩ hl.1 (Nat.le_of_ble_eq_true rfl) dX8_hours_42 (fun H locs hP hS => ?_)
      refine lv_iload C.1 C.2.1 dX8_hours_45 (lv_at hl 5 rfl) ?_
      obtain ⟨q2, eq2, hf⟩ := g_b hf
      refine cv_X8_62 hA C hX hP hS eq2 ⟨Nat.le_of_ble_eq_true rfl, Nat.le_of_ble_eq_true rfl⟩ hl.1 (Nat.le_of_ble_eq_true rfl) dX8_hours_47 (fun H locs hP hS => ?_)
      refine lv_if_eq (tgt := 60) C.1 C.2.1 dX8_hours_50 (by decide) (fun hc => ?_) (fun hc => ?_)
      · have hf := g_t hc hf
        refine lv_iconst (v := (0 : Int32)) C.1 C.2.1 dX8_hours_60 (by decide) ?_
        exact w_X8_hours_61 hA C hX ih _ _ _ _ _ _ _ _ _ _ hf hP hS (lv_sub hl [0, 1, 2, 4, 5] rfl)
      · have hf := g_f hc hf
        refine lv_iconst (v := (1 : Int32)) C.1 C.2.1 dX8_hours_53 (by decide) ?_
        refine lv_iload C.1 C.2.1 dX8_hours_54 (lv_at hl 5 rfl) ?_
        refine lv_ishl C.1 C.2.1 dX8_hours_56 ?_
        refine lv_goto (tgt := 61) C.1 C.2.1 dX8_hours_57 (by decide) ?_
        exact w_X8_hours_61 hA C hX ih _ _ _ _ _ _ _ _ _ _ hf hP hS (lv_sub hl [0, 1, 2, 4, 5] rfl)
set_option maxRecDepth 100000 in
set_option maxHeartbeats 4000000 in
theorem w_X8_hours {p : Program} {l : Launch} {e : Env} {s : State} {m : MethodId} {args : Array Value} {below : List Frame} {meth : Method} {c : Code} {D : va_G} {ids : Nat → ClassId} {ad : Nat → Nat} {rv : Int32 × Hp} (hA : adOk ad 12) (C : CX p s m args meth c cX8_hours 6 (some .int) RX8 D ids) (hX : ExM s s.heap) : ∀ (h : Hp) (a1 : Int32) (a2 : Int32) (H : Heap) (locs : List Loc) (ls : Array Slot), f_X8_hours h a1 a2 = some rv → wp D (cEM ids ad) ad 12 h H → va_S (inW ad 12) s.heap H locs → lv_has ls 6 [(0, .ref (ad 0)), (1, .int a1), (2, .int a2)] → W p l e rm_X8_hours s m args below meth c H locs 0 0 (MQ below (QW D (cEM ids ad) ad 12 (some (.int rv.1)) rv.2) args s 0 0 (inW ad 12)) (F0 m 0 ls []) := by
  intro h a1 a2 H locs ls hf hP hS hl
  unfold f_X8_hours at hf
  refine lv_iload_n C.1 C.2.1 dX8_hours_0 rfl (lv_at hl 1 rfl) ?_
  obtain ⟨q1, eq1, hf⟩ := g_b hf
  refine cv_X8_119 hA C hX hP hS eq1 ⟨Nat.le_of_ble_eq_true rfl, Nat.le_of_ble_eq_true rfl⟩ hl.1 (Nat.le_of_ble_eq_true rfl) dX8_hours_1 (fun H locs hP hS => ?_)
  refine lv_if_ne (tgt := 9) C.1 C.2.1 dX8_hours_4 (by decide) (fun hc => ?_) (fun hc => ?_)
  · have hf := g_f hc hf
    refine lv_iload_n C.1 C.2.1 dX8_hours_9 rfl (lv_at hl 2 rfl) ?_
    refine lv_iconst (v := (0 : Int32)) C.1 C.2.1 dX8_hours_10 (by decide) ?_
    refine lv_iconst (v := (2 : Int32)) C.1 C.2.1 dX8_hours_11 (by decide) ?_
    obtain ⟨q2, eq2, hf⟩ := g_b hf
    refine cv_X8_51 hA C hX hP hS eq2 ⟨Nat.le_of_ble_eq_true rfl, Nat.le_of_ble_eq_true rfl⟩ hl.1 (Nat.le_of_ble_eq_true rfl) dX8_hours_12 (fun H locs hP hS => ?_)
    refine lv_if_ne (tgt := 21) C.1 C.2.1 dX8_hours_15 (by decide) (fun hc => ?_) (fun hc => ?_)
    · have hf := g_f hc hf
      refine lv_iconst (v := (0 : Int32)) C.1 C.2.1 dX8_hours_21 (by decide) ?_
      refine lv_istore_n (lv' := [(3, .int (0 : Int32)), (0, .ref (ad 0)), (1, .int a1), (2, .int a2)]) C.1 C.2.1 dX8_hours_22 rfl hl (by decide) rfl (fun ls hl => ?_)
      refine lv_iconst (v := (0 : Int32)) C.1 C.2.1 dX8_hours_23 (by decide) ?_
      refine lv_istore (lv' := [(4, .int (0 : Int32)), (3, .int (0 : Int32)), (0, .ref (ad 0)), (1, .int a1), (2, .int a2)]) C.1 C.2.1 dX8_hours_24 hl (by decide) rfl (fun ls hl => ?_)
      refine lv_iconst (v := (0 : Int32)) C.1 C.2.1 dX8_hours_26 (by decide) ?_
      refine lv_istore (lv' := [(5, .int (0 : Int32)), (4, .int (0 : Int32)), (3, .int (0 : Int32)), (0, .ref (ad 0)), (1, .int a1), (2, .int a2)]) C.1 C.2.1 dX8_hours_27 hl (by decide) rfl (fun ls hl => ?_)
      exact w_X8_hours_29 hA C hX _ _ _ _ _ _ _ _ _ _ hf hP hS (lv_sub hl [3, 4, 5, 2, 1, 0] rfl)
    · have hf := g_t hc hf
      refine lv_bipush (v := (-2 : Int32)) C.1 C.2.1 dX8_hours_18 (by decide) ?_
      obtain rfl := Option.some.inj hf
      exact u_iret C hP hS dX8_hours_20
  · have hf := g_t hc hf
    refine lv_iconst (v := (-1 : Int32)) C.1 C.2.1 dX8_hours_7 (by decide) ?_
    obtain rfl := Option.some.inj hf
    exact u_iret C hP hS dX8_hours_8
theorem c_X8_hours (l : Launch) (D : va_G) (ids : Nat → ClassId) (ad : Nat → Nat) (hA : adOk ad 12) {a1 : Int32} {a2 : Int32} {h : Hp} {rv : Int32 × Hp} (hf : f_X8_hours h a1 a2 = some rv) : Met l yX8_hours (ws_ yX8_hours cX8_hours 6 (some .int)) rm_X8_hours (va_Pc [.ref (ad 0), .int a1, .int a2] (WB D ids (cEM ids ad) ad 12 ExM h)) (QW D (cEM ids ad) ad 12 (some (.int rv.1)) rv.2) 0 0 (inW ad 12) :=
  u_met (own := RX8) (by decide) rfl (Nat.le_of_ble_eq_true rfl) rfl (fun p e s m args below meth c H ls C hX hP hS hl => w_X8_hours hA C hX _ _ _ _ _ _ hf hP hS hl)
abbrev rm_X8_clashes : Room := { frames := 4, cells := 0, slots := 0, locals := 94 }
set_option maxRecDepth 100000 in
set_option maxHeartbeats 4000000 in
theorem w_X8_clashes_33 {p : Program} {l : Launch} {e : Env} {s : State} {m : MethodId} {args : Array Value} {below : List Frame} {meth : Method} {c : Code} {D : va_G} {ids : Nat → ClassId} {ad : Nat → Nat} {rv : Int32 × Hp} (hA : adOk ad 12) (C : CX p s m args meth c cX8_clashes 3 (some .int) RX8 D ids) (hX : ExM s s.heap) {K4 : Hp → Int32 → Int32 → Option (Int32 × Hp)} (hK4 : ∀ (h : Hp) (x1 : Int32) (x2 : Int32) (H : Heap) (locs : List Loc) (ls : Array Slot), K4 h x1 x2 = some rv → wp D (cEM ids ad) ad 12 h H → va_S (inW ad 12) s.heap H locs → lv_has ls 3 [(0, .ref (ad 0)), (1, .int x1), (2, .int x2)] → W p l e rm_X8_clashes s m args below meth c H locs 0 0 (MQ below (QW D (cEM ids ad) ad 12 (some (.int rv.1)) rv.2) args s 0 0 (inW ad 12)) (F0 m 4 ls [])) : ∀ (h : Hp) (x2 : Int32) (t0 : Int32) (t1 : Int32) (H : Heap) (locs : List Loc) (ls : Array Slot), f_X8_clashes_33 K4 h x2 t0 t1 = some rv → wp D (cEM ids ad) ad 12 h H → va_S (inW ad 12) s.heap H locs → lv_has ls 3 [(0, .ref (ad 0)), (2, .int x2)] → W p l e rm_X8_clashes s m args below meth c H locs 0 0 (MQ below (QW D (cEM ids ad) ad 12 (some (.int rv.1)) rv.2) args s 0 0 (inW ad 12)) (F0 m 33 ls [.int t1, .int t0]) := by
  intro h x2 t0 t1 H locs ls hf hP hS hl
  unfold f_X8_clashes_33 at hf
  refine lv_iadd C.1 C.2.1 dX8_clashes_33 ?_
  refine lv_istore_n (lv' := [(1, .int (t0 + t1)), (0, .ref (ad 0)), (2, .int x2)]) C.1 C.2.1 dX8_clashes_34 rfl hl (by decide) rfl (fun ls hl => ?_)
  refine lv_iinc (v := (x2 + 1)) (lv' := [(2, .int (x2 + 1)), (1, .int (t0 + t1)), (0, .ref (ad 0))]) C.1 C.2.1 dX8_clashes_35 hl (k := 2) rfl (by rfl) (by decide) rfl (fun ls hl => ?_)
  refine lv_goto (tgt := 4) C.1 C.2.1 dX8_clashes_38 (by decide) ?_
  exact hK4 _ _ _ _ _ _ hf hP hS (lv_sub hl [2, 1, 0] rfl)
set_option maxRecDepth 100000 in
set_option maxHeartbeats 4000000 in
theorem w_X8_clashes_4 {p : Program} {l : Launch} {e : Env} {s : State} {m : MethodId} {args : Array Value} {below : List Frame} {meth : Method} {c : Code} {D : va_G} {ids : Nat → ClassId} {ad : Nat → Nat} {rv : Int32 × Hp} (hA : adOk ad 12) (C : CX p s m args meth c cX8_clashes 3 (some .int) RX8 D ids) (hX : ExM s s.heap) : ∀ (fu : Nat), ∀ (h : Hp) (x1 : Int32) (x2 : Int32) (H : Heap) (locs : List Loc) (ls : Array Slot), f_X8_clashes_4 fu h x1 x2 = some rv → wp D (cEM ids ad) ad 12 h H → va_S (inW ad 12) s.heap H locs → lv_has ls 3 [(0, .ref (ad 0)), (1, .int x1), (2, .int x2)] → W p l e rm_X8_clashes s m args below meth c H locs 0 0 (MQ below (QW D (cEM ids ad) ad 12 (some (.int rv.1)) rv.2) args s 0 0 (inW ad 12)) (F0 m 4 ls []) := by
  intro fu
  induction fu with
  | zero =>
    intro h x1 x2 H locs ls hf hP hS hl
    cases hf
  | succ fu ih =>
    intro h x1 x2 H locs ls hf hP hS hl
    rw [f_X8_clashes_4_s] at hf
    refine lv_iload_n C.1 C.2.1 dX8_clashes_4 rfl (lv_at hl 2 rfl) ?_
    refine lv_bipush (v := (48 : Int32)) C.1 C.2.1 dX8_clashes_5 (by decide) ?_
    refine lv_icmp_ge (tgt := 41) C.1 C.2.1 dX8_clashes_7 (by decide) (fun hc => ?_) (fun hc => ?_)
    · have hf := g_t hc hf
      refine lv_iload_n C.1 C.2.1 dX8_clashes_41 rfl (lv_at hl 1 rfl) ?_
      obtain rfl := Option.some.inj hf
      exact u_iret C hP hS dX8_clashes_42
    · have hf := g_f hc hf
      refine lv_iload_n C.1 C.2.1 dX8_clashes_10 rfl (lv_at hl 1 rfl) ?_
      refine lv_aload_n C.1 C.2.1 dX8_clashes_11 rfl (lv_at hl 0 rfl) ?_
      refine lv_iload_n C.1 C.2.1 dX8_clashes_12 rfl (lv_at hl 2 rfl) ?_
      refine lv_iconst (v := (2 : Int32)) C.1 C.2.1 dX8_clashes_13 (by decide) ?_
      refine lv_irem C.1 C.2.1 dX8_clashes_14 (by decide) ?_
      refine lv_iload_n C.1 C.2.1 dX8_clashes_15 rfl (lv_at hl 2 rfl) ?_
      refine lv_iconst (v := (2 : Int32)) C.1 C.2.1 dX8_clashes_16 (by decide) ?_
      refine lv_idiv C.1 C.2.1 dX8_clashes_17 (by decide) ?_
      obtain ⟨q1, eq1, hf⟩ := g_b hf
      refine cv_X8_78 hA C hX hP hS eq1 ⟨Nat.le_of_ble_eq_true rfl, Nat.le_of_ble_eq_true rfl⟩ hl.1 (Nat.le_of_ble_eq_true rfl) dX8_clashes_18 (fun H locs hP hS => ?_)
      obtain ⟨q2, eq2, hf⟩ := g_b hf
      refine cv_X8_81 hA C hX hP hS eq2 ⟨Nat.le_of_ble_eq_true rfl, Nat.le_of_ble_eq_true rfl⟩ hl.1 (Nat.le_of_ble_eq_true rfl) dX8_clashes_21 (fun H locs hP hS => ?_)
      refine lv_iconst (v := (1 : Int32)) C.1 C.2.1 dX8_clashes_24 (by decide) ?_
      refine lv_icmp_le (tgt := 32) C.1 C.2.1 dX8_clashes_25 (by decide) (fun hc => ?_) (fun hc => ?_)
      · have hf := g_t hc hf
        refine lv_iconst (v := (0 : Int32)) C.1 C.2.1 dX8_clashes_32 (by decide) ?_
        exact w_X8_clashes_33 hA C hX ih _ _ _ _ _ _ _ hf hP hS (lv_sub hl [0, 2] rfl)
      · have hf := g_f hc hf
        refine lv_iconst (v := (1 : Int32)) C.1 C.2.1 dX8_clashes_28 (by decide) ?_
        refine lv_goto (tgt := 33) C.1 C.2.1 dX8_clashes_29 (by decide) ?_
        exact w_X8_clashes_33 hA C hX ih _ _ _ _ _ _ _ hf hP hS (lv_sub hl [0, 2] rfl)
set_option maxRecDepth 100000 in
set_option maxHeartbeats 4000000 in
theorem w_X8_clashes {p : Program} {l : Launch} {e : Env} {s : State} {m : MethodId} {args : Array Value} {below : List Frame} {meth : Method} {c : Code} {D : va_G} {ids : Nat → ClassId} {ad : Nat → Nat} {rv : Int32 × Hp} (hA : adOk ad 12) (C : CX p s m args meth c cX8_clashes 3 (some .int) RX8 D ids) (hX : ExM s s.heap) : ∀ (h : Hp) (H : Heap) (locs : List Loc) (ls : Array Slot), f_X8_clashes h = some rv → wp D (cEM ids ad) ad 12 h H → va_S (inW ad 12) s.heap H locs → lv_has ls 3 [(0, .ref (ad 0))] → W p l e rm_X8_clashes s m args below meth c H locs 0 0 (MQ below (QW D (cEM ids ad) ad 12 (some (.int rv.1)) rv.2) args s 0 0 (inW ad 12)) (F0 m 0 ls []) := by
  intro h H locs ls hf hP hS hl
  unfold f_X8_clashes at hf
  refine lv_iconst (v := (0 : Int32)) C.1 C.2.1 dX8_clashes_0 (by decide) ?_
  refine lv_istore_n (lv' := [(1, .int (0 : Int32)), (0, .ref (ad 0))]) C.1 C.2.1 dX8_clashes_1 rfl hl (by decide) rfl (fun ls hl => ?_)
  refine lv_iconst (v := (0 : Int32)) C.1 C.2.1 dX8_clashes_2 (by decide) ?_
  refine lv_istore_n (lv' := [(2, .int (0 : Int32)), (1, .int (0 : Int32)), (0, .ref (ad 0))]) C.1 C.2.1 dX8_clashes_3 rfl hl (by decide) rfl (fun ls hl => ?_)
  exact w_X8_clashes_4 hA C hX _ _ _ _ _ _ _ hf hP hS (lv_sub hl [2, 1, 0] rfl)
theorem c_X8_clashes (l : Launch) (D : va_G) (ids : Nat → ClassId) (ad : Nat → Nat) (hA : adOk ad 12) {h : Hp} {rv : Int32 × Hp} (hf : f_X8_clashes h = some rv) : Met l yX8_clashes (ws_ yX8_clashes cX8_clashes 3 (some .int)) rm_X8_clashes (va_Pc [.ref (ad 0)] (WB D ids (cEM ids ad) ad 12 ExM h)) (QW D (cEM ids ad) ad 12 (some (.int rv.1)) rv.2) 0 0 (inW ad 12) :=
  u_met (own := RX8) (by decide) rfl (Nat.le_of_ble_eq_true rfl) rfl (fun p e s m args below meth c H ls C hX hP hS hl => w_X8_clashes hA C hX _ _ _ _ hf hP hS hl)
theorem cv_X8_172 {p : Program} {l : Launch} {e : Env} {R : Room} {s : State} {m : MethodId} {args : Array Value} {below : List Frame} {meth : Method} {c : Code} {H : Heap} {locs : List Loc} {Q : State → Prop} {cc : ByteArray} {nL : Nat} {ret : Option FieldType} {pc : Nat} {ls : Array Slot} {rest : List Value} {D : va_G} {ids : Nat → ClassId} {ad : Nat → Nat} {h : Hp} (hA : adOk ad 12) (C : CX p s m args meth c cc nL ret RX8 D ids) (hX : ExM s s.heap) (hP : wp D (cEM ids ad) ad 12 h H) (hS : va_S (inW ad 12) s.heap H locs) {rv : Int32 × Hp} (hf : f_X8_clashes h = some rv) (hR : 4 + 1 ≤ R.frames ∧ 8 + (3 + 11) + 94 ≤ R.locals) (hsz : ls.size = nL) (hcat : (rest.map fun v => v.category).sum ≤ 8) (hdg : decode cc pc = .ok (.invokevirtual 172, 3)) (kk : ∀ (H1 : Heap) (locs1 : List Loc), wp D (cEM ids ad) ad 12 rv.2 H1 → va_S (inW ad 12) s.heap H1 locs1 → W p l e R s m args below meth c H1 locs1 0 0 Q (F0 m (pc + 3) ls (.int rv.1 :: rest))) : W p l e R s m args below meth c H locs 0 0 Q (F0 m pc ls (.ref (ad 0) :: rest)) :=
  u_callV (As := []) (rv := (some (.int rv.1))) C exM_ok hX (c_X8_clashes l D ids ad hA hf) q_679 q_680 q_681 q_5 q_682 ⟨rfl, rfl⟩ (by refine ⟨by decide +kernel, by decide +kernel, ?_⟩; show _ = some 0; decide +kernel) hR (by decide) (cE_X8 _) rfl hP hS hsz hcat rfl hdg kk
abbrev rm_X8_count : Room := { frames := 5, cells := 0, slots := 0, locals := 116 }
set_option maxRecDepth 100000 in
set_option maxHeartbeats 4000000 in
theorem w_X8_count_166 {p : Program} {l : Launch} {e : Env} {s : State} {m : MethodId} {args : Array Value} {below : List Frame} {meth : Method} {c : Code} {D : va_G} {ids : Nat → ClassId} {ad : Nat → Nat} {rv : Int32 × Hp} (hA : adOk ad 12) (C : CX p s m args meth c cX8_count 2 (some .int) RX8 D ids) (hX : ExM s s.heap) : ∀ (h : Hp) (x1 : Int32) (H : Heap) (locs : List Loc) (ls : Array Slot), f_X8_count_166 h x1 = some rv → wp D (cEM ids ad) ad 12 h H → va_S (inW ad 12) s.heap H locs → lv_has ls 2 [(0, .ref (ad 0)), (1, .int x1)] → W p l e rm_X8_count s m args below meth c H locs 0 0 (MQ below (QW D (cEM ids ad) ad 12 (some (.int rv.1)) rv.2) args s 0 0 (inW ad 12)) (F0 m 166 ls []) := by
  intro h x1 H locs ls hf hP hS hl
  unfold f_X8_count_166 at hf
  refine lv_aload_n C.1 C.2.1 dX8_count_166 rfl (lv_at hl 0 rfl) ?_
  refine gf_X8_7 C hP dX8_count_167 ?_
  refine lv_iconst (v := (3 : Int32)) C.1 C.2.1 dX8_count_170 (by decide) ?_
  refine lv_iload_n C.1 C.2.1 dX8_count_171 rfl (lv_at hl 1 rfl) ?_
  refine lv_iadd C.1 C.2.1 dX8_count_172 ?_
  refine lv_bipush (v := (12 : Int32)) C.1 C.2.1 dX8_count_173 (by decide) ?_
  refine lv_isub C.1 C.2.1 dX8_count_175 ?_
  obtain ⟨hg, hf⟩ := g_if hf
  refine al_m1 C hP hg dX8_count_176 ?_
  obtain rfl := Option.some.inj hf
  exact u_iret C hP hS dX8_count_177
set_option maxRecDepth 100000 in
set_option maxHeartbeats 4000000 in
theorem w_X8_count {p : Program} {l : Launch} {e : Env} {s : State} {m : MethodId} {args : Array Value} {below : List Frame} {meth : Method} {c : Code} {D : va_G} {ids : Nat → ClassId} {ad : Nat → Nat} {rv : Int32 × Hp} (hA : adOk ad 12) (C : CX p s m args meth c cX8_count 2 (some .int) RX8 D ids) (hX : ExM s s.heap) : ∀ (h : Hp) (a1 : Int32) (H : Heap) (locs : List Loc) (ls : Array Slot), f_X8_count h a1 = some rv → wp D (cEM ids ad) ad 12 h H → va_S (inW ad 12) s.heap H locs → lv_has ls 2 [(0, .ref (ad 0)), (1, .int a1)] → W p l e rm_X8_count s m args below meth c H locs 0 0 (MQ below (QW D (cEM ids ad) ad 12 (some (.int rv.1)) rv.2) args s 0 0 (inW ad 12)) (F0 m 0 ls []) := by
  intro h a1 H locs ls hf hP hS hl
  unfold f_X8_count at hf
  refine lv_aload_n C.1 C.2.1 dX8_count_0 rfl (lv_at hl 0 rfl) ?_
  obtain ⟨q1, eq1, hf⟩ := g_b hf
  refine cv_X8_110 hA C hX hP hS eq1 ⟨Nat.le_of_ble_eq_true rfl, Nat.le_of_ble_eq_true rfl⟩ hl.1 (Nat.le_of_ble_eq_true rfl) dX8_count_1 (fun H locs hP hS => ?_)
  refine lv_iload_n C.1 C.2.1 dX8_count_4 rfl (lv_at hl 1 rfl) ?_
  by_cases hc0 : a1 = 0
  · have hf := g_t hc0 hf
    refine lv_tableIn (off := 71) (tgt := 76) C.1 C.2.1 dX8_count_5 (by rw [hc0]; decide) (by rw [hc0]; decide) (by rw [hc0]; rfl) (by decide) ?_
    refine lv_aload_n C.1 C.2.1 dX8_count_76 rfl (lv_at hl 0 rfl) ?_
    refine gf_X8_7 C hP dX8_count_77 ?_
    refine lv_iconst (v := (0 : Int32)) C.1 C.2.1 dX8_count_80 (by decide) ?_
    obtain ⟨hg, hf⟩ := g_if hf
    refine al_m1 C hP hg dX8_count_81 ?_
    obtain rfl := Option.some.inj hf
    exact u_iret C hP hS dX8_count_82
  · have hf := g_f hc0 hf
    by_cases hc1 : a1 = 1
    · have hf := g_t hc1 hf
      refine lv_tableIn (off := 78) (tgt := 83) C.1 C.2.1 dX8_count_5 (by rw [hc1]; decide) (by rw [hc1]; decide) (by rw [hc1]; rfl) (by decide) ?_
      refine lv_aload_n C.1 C.2.1 dX8_count_83 rfl (lv_at hl 0 rfl) ?_
      refine gf_X8_7 C hP dX8_count_84 ?_
      refine lv_iconst (v := (1 : Int32)) C.1 C.2.1 dX8_count_87 (by decide) ?_
      obtain ⟨hg, hf⟩ := g_if hf
      refine al_m1 C hP hg dX8_count_88 ?_
      obtain rfl := Option.some.inj hf
      exact u_iret C hP hS dX8_count_89
    · have hf := g_f hc1 hf
      by_cases hc2 : a1 = 2
      · have hf := g_t hc2 hf
        refine lv_tableIn (off := 85) (tgt := 90) C.1 C.2.1 dX8_count_5 (by rw [hc2]; decide) (by rw [hc2]; decide) (by rw [hc2]; rfl) (by decide) ?_
        refine lv_aload_n C.1 C.2.1 dX8_count_90 rfl (lv_at hl 0 rfl) ?_
        refine gf_X8_7 C hP dX8_count_91 ?_
        refine lv_iconst (v := (2 : Int32)) C.1 C.2.1 dX8_count_94 (by decide) ?_
        obtain ⟨hg, hf⟩ := g_if hf
        refine al_m1 C hP hg dX8_count_95 ?_
        obtain rfl := Option.some.inj hf
        exact u_iret C hP hS dX8_count_96
      · have hf := g_f hc2 hf
        by_cases hc3 : a1 = 3
        · have hf := g_t hc3 hf
          refine lv_tableIn (off := 92) (tgt := 97) C.1 C.2.1 dX8_count_5 (by rw [hc3]; decide) (by rw [hc3]; decide) (by rw [hc3]; rfl) (by decide) ?_
          refine lv_aload_n C.1 C.2.1 dX8_count_97 rfl (lv_at hl 0 rfl) ?_
          obtain ⟨q2, eq2, hf⟩ := g_b hf
          refine cv_X8_172 hA C hX hP hS eq2 ⟨Nat.le_of_ble_eq_true rfl, Nat.le_of_ble_eq_true rfl⟩ hl.1 (Nat.le_of_ble_eq_true rfl) dX8_count_98 (fun H locs hP hS => ?_)
          obtain rfl := Option.some.inj hf
          exact u_iret C hP hS dX8_count_101
        · have hf := g_f hc3 hf
          by_cases hc4 : a1 = 4
          · have hf := g_t hc4 hf
            refine lv_tableIn (off := 97) (tgt := 102) C.1 C.2.1 dX8_count_5 (by rw [hc4]; decide) (by rw [hc4]; decide) (by rw [hc4]; rfl) (by decide) ?_
            refine lv_aload_n C.1 C.2.1 dX8_count_102 rfl (lv_at hl 0 rfl) ?_
            refine gf_X8_28 C hP dX8_count_103 ?_
            refine lv_iconst (v := (0 : Int32)) C.1 C.2.1 dX8_count_106 (by decide) ?_
            obtain ⟨hg, hf⟩ := g_if hf
            refine al_m7 C hP hg dX8_count_107 ?_
            refine lv_aload_n C.1 C.2.1 dX8_count_108 rfl (lv_at hl 0 rfl) ?_
            refine gf_X8_28 C hP dX8_count_109 ?_
            refine lv_iconst (v := (1 : Int32)) C.1 C.2.1 dX8_count_112 (by decide) ?_
            obtain ⟨hg, hf⟩ := g_if hf
            refine al_m7 C hP hg dX8_count_113 ?_
            refine lv_iadd C.1 C.2.1 dX8_count_114 ?_
            refine lv_aload_n C.1 C.2.1 dX8_count_115 rfl (lv_at hl 0 rfl) ?_
            refine gf_X8_28 C hP dX8_count_116 ?_
            refine lv_iconst (v := (2 : Int32)) C.1 C.2.1 dX8_count_119 (by decide) ?_
            obtain ⟨hg, hf⟩ := g_if hf
            refine al_m7 C hP hg dX8_count_120 ?_
            refine lv_iadd C.1 C.2.1 dX8_count_121 ?_
            obtain rfl := Option.some.inj hf
            exact u_iret C hP hS dX8_count_122
          · have hf := g_f hc4 hf
            by_cases hc5 : a1 = 5
            · have hf := g_t hc5 hf
              refine lv_tableIn (off := 118) (tgt := 123) C.1 C.2.1 dX8_count_5 (by rw [hc5]; decide) (by rw [hc5]; decide) (by rw [hc5]; rfl) (by decide) ?_
              refine lv_aload_n C.1 C.2.1 dX8_count_123 rfl (lv_at hl 0 rfl) ?_
              refine lv_iconst (v := (4 : Int32)) C.1 C.2.1 dX8_count_124 (by decide) ?_
              obtain ⟨q3, eq3, hf⟩ := g_b hf
              refine cv_X8_136 hA C hX hP hS eq3 ⟨Nat.le_of_ble_eq_true rfl, Nat.le_of_ble_eq_true rfl⟩ hl.1 (Nat.le_of_ble_eq_true rfl) dX8_count_125 (fun H locs hP hS => ?_)
              obtain rfl := Option.some.inj hf
              exact u_iret C hP hS dX8_count_128
            · have hf := g_f hc5 hf
              by_cases hc6 : a1 = 6
              · have hf := g_t hc6 hf
                refine lv_tableIn (off := 124) (tgt := 129) C.1 C.2.1 dX8_count_5 (by rw [hc6]; decide) (by rw [hc6]; decide) (by rw [hc6]; rfl) (by decide) ?_
                refine lv_aload_n C.1 C.2.1 dX8_count_129 rfl (lv_at hl 0 rfl) ?_
                refine lv_bipush (v := (8 : Int32)) C.1 C.2.1 dX8_count_130 (by decide) ?_
                obtain ⟨q4, eq4, hf⟩ := g_b hf
                refine cv_X8_136 hA C hX hP hS eq4 ⟨Nat.le_of_ble_eq_true rfl, Nat.le_of_ble_eq_true rfl⟩ hl.1 (Nat.le_of_ble_eq_true rfl) dX8_count_132 (fun H locs hP hS => ?_)
                obtain rfl := Option.some.inj hf
                exact u_iret C hP hS dX8_count_135
              · have hf := g_f hc6 hf
                by_cases hc7 : a1 = 7
                · have hf := g_t hc7 hf
                  refine lv_tableIn (off := 131) (tgt := 136) C.1 C.2.1 dX8_count_5 (by rw [hc7]; decide) (by rw [hc7]; decide) (by rw [hc7]; rfl) (by decide) ?_
                  refine lv_aload_n C.1 C.2.1 dX8_count_136 rfl (lv_at hl 0 rfl) ?_
                  refine gf_X8_7 C hP dX8_count_137 ?_
                  refine lv_iconst (v := (5 : Int32)) C.1 C.2.1 dX8_count_140 (by decide) ?_
                  obtain ⟨hg, hf⟩ := g_if hf
                  refine al_m1 C hP hg dX8_count_141 ?_
                  obtain rfl := Option.some.inj hf
                  exact u_iret C hP hS dX8_count_142
                · have hf := g_f hc7 hf
                  by_cases hc8 : a1 = 8
                  · have hf := g_t hc8 hf
                    refine lv_tableIn (off := 138) (tgt := 143) C.1 C.2.1 dX8_count_5 (by rw [hc8]; decide) (by rw [hc8]; decide) (by rw [hc8]; rfl) (by decide) ?_
                    refine lv_aload_n C.1 C.2.1 dX8_count_143 rfl (lv_at hl 0 rfl) ?_
                    refine lv_iconst (v := (5 : Int32)) C.1 C.2.1 dX8_count_144 (by decide) ?_
                    obtain ⟨q5, eq5, hf⟩ := g_b hf
                    refine cv_X8_136 hA C hX hP hS eq5 ⟨Nat.le_of_ble_eq_true rfl, Nat.le_of_ble_eq_true rfl⟩ hl.1 (Nat.le_of_ble_eq_true rfl) dX8_count_145 (fun H locs hP hS => ?_)
                    obtain rfl := Option.some.inj hf
                    exact u_iret C hP hS dX8_count_148
                  · have hf := g_f hc8 hf
                    by_cases hc9 : a1 = 9
                    · have hf := g_t hc9 hf
                      refine lv_tableIn (off := 144) (tgt := 149) C.1 C.2.1 dX8_count_5 (by rw [hc9]; decide) (by rw [hc9]; decide) (by rw [hc9]; rfl) (by decide) ?_
                      refine lv_aload_n C.1 C.2.1 dX8_count_149 rfl (lv_at hl 0 rfl) ?_
                      refine lv_bipush (v := (6 : Int32)) C.1 C.2.1 dX8_count_150 (by decide) ?_
                      obtain ⟨q6, eq6, hf⟩ := g_b hf
                      refine cv_X8_136 hA C hX hP hS eq6 ⟨Nat.le_of_ble_eq_true rfl, Nat.le_of_ble_eq_true rfl⟩ hl.1 (Nat.le_of_ble_eq_true rfl) dX8_count_152 (fun H locs hP hS => ?_)
                      obtain rfl := Option.some.inj hf
                      exact u_iret C hP hS dX8_count_155
                    · have hf := g_f hc9 hf
                      by_cases hc10 : a1 = 10
                      · have hf := g_t hc10 hf
                        refine lv_tableIn (off := 151) (tgt := 156) C.1 C.2.1 dX8_count_5 (by rw [hc10]; decide) (by rw [hc10]; decide) (by rw [hc10]; rfl) (by decide) ?_
                        refine lv_aload_n C.1 C.2.1 dX8_count_156 rfl (lv_at hl 0 rfl) ?_
                        refine gf_X8_47 C hP dX8_count_157 ?_
                        obtain rfl := Option.some.inj hf
                        exact u_iret C hP hS dX8_count_160
                      · have hf := g_f hc10 hf
                        by_cases hc11 : a1 = 11
                        · have hf := g_t hc11 hf
                          refine lv_tableIn (off := 156) (tgt := 161) C.1 C.2.1 dX8_count_5 (by rw [hc11]; decide) (by rw [hc11]; decide) (by rw [hc11]; rfl) (by decide) ?_
                          refine lv_aload_n C.1 C.2.1 dX8_count_161 rfl (lv_at hl 0 rfl) ?_
                          refine gf_X8_142 C hP dX8_count_162 ?_
                          obtain rfl := Option.some.inj hf
                          exact u_iret C hP hS dX8_count_165
                        · have hf := g_f hc11 hf
                          by_cases hc12 : a1 = 12
                          · have hf := g_t hc12 hf
                            refine lv_tableIn (off := 161) (tgt := 166) C.1 C.2.1 dX8_count_5 (by rw [hc12]; decide) (by rw [hc12]; decide) (by rw [hc12]; rfl) (by decide) ?_
                            exact w_X8_count_166 hA C hX _ _ _ _ _ hf hP hS (lv_sub hl [0, 1] rfl)
                          · have hf := g_f hc12 hf
                            by_cases hc13 : a1 = 13
                            · have hf := g_t hc13 hf
                              refine lv_tableIn (off := 161) (tgt := 166) C.1 C.2.1 dX8_count_5 (by rw [hc13]; decide) (by rw [hc13]; decide) (by rw [hc13]; rfl) (by decide) ?_
                              exact w_X8_count_166 hA C hX _ _ _ _ _ hf hP hS (lv_sub hl [0, 1] rfl)
                            · have hf := g_f hc13 hf
                              have hsw : a1.toInt < 0 ∨ 13 < a1.toInt := by
                                have zhc0 := lv_neT hc0 (show (0 : Int32).toInt = 0 by decide)
                                have zhc1 := lv_neT hc1 (show (1 : Int32).toInt = 1 by decide)
                                have zhc2 := lv_neT hc2 (show (2 : Int32).toInt = 2 by decide)
                                have zhc3 := lv_neT hc3 (show (3 : Int32).toInt = 3 by decide)
                                have zhc4 := lv_neT hc4 (show (4 : Int32).toInt = 4 by decide)
                                have zhc5 := lv_neT hc5 (show (5 : Int32).toInt = 5 by decide)
                                have zhc6 := lv_neT hc6 (show (6 : Int32).toInt = 6 by decide)
                                have zhc7 := lv_neT hc7 (show (7 : Int32).toInt = 7 by decide)
                                have zhc8 := lv_neT hc8 (show (8 : Int32).toInt = 8 by decide)
                                have zhc9 := lv_neT hc9 (show (9 : Int32).toInt = 9 by decide)
                                have zhc10 := lv_neT hc10 (show (10 : Int32).toInt = 10 by decide)
                                have zhc11 := lv_neT hc11 (show (11 : Int32).toInt = 11 by decide)
                                have zhc12 := lv_neT hc12 (show (12 : Int32).toInt = 12 by decide)
                                have zhc13 := lv_neT hc13 (show (13 : Int32).toInt = 13 by decide)
                                omega
                              refine lv_tableOut (tgt := 178) C.1 C.2.1 dX8_count_5 hsw (by decide) ?_
                              refine lv_bipush (v := (-2 : Int32)) C.1 C.2.1 dX8_count_178 (by decide) ?_
                              obtain rfl := Option.some.inj hf
                              exact u_iret C hP hS dX8_count_180
theorem c_X8_count (l : Launch) (D : va_G) (ids : Nat → ClassId) (ad : Nat → Nat) (hA : adOk ad 12) {a1 : Int32} {h : Hp} {rv : Int32 × Hp} (hf : f_X8_count h a1 = some rv) : Met l yX8_count (ws_ yX8_count cX8_count 2 (some .int)) rm_X8_count (va_Pc [.ref (ad 0), .int a1] (WB D ids (cEM ids ad) ad 12 ExM h)) (QW D (cEM ids ad) ad 12 (some (.int rv.1)) rv.2) 0 0 (inW ad 12) :=
  u_met (own := RX8) (by decide) rfl (Nat.le_of_ble_eq_true rfl) rfl (fun p e s m args below meth c H ls C hX hP hS hl => w_X8_count hA C hX _ _ _ _ _ hf hP hS hl)
abbrev rm_X8_made : Room := { frames := 2, cells := 0, slots := 0, locals := 43 }
set_option maxRecDepth 100000 in
set_option maxHeartbeats 4000000 in
theorem w_X8_made {p : Program} {l : Launch} {e : Env} {s : State} {m : MethodId} {args : Array Value} {below : List Frame} {meth : Method} {c : Code} {D : va_G} {ids : Nat → ClassId} {ad : Nat → Nat} {rv : UInt32 × Hp} (hA : adOk ad 12) (C : CX p s m args meth c cX8_made 2 (some .float) RX8 D ids) (hX : ExM s s.heap) : ∀ (h : Hp) (H : Heap) (locs : List Loc) (ls : Array Slot), f_X8_made h = some rv → wp D (cEM ids ad) ad 12 h H → va_S (inW ad 12) s.heap H locs → lv_has ls 2 [(0, .ref (ad 0))] → W p l e rm_X8_made s m args below meth c H locs 0 0 (MQ below (QW D (cEM ids ad) ad 12 (some (.float rv.1)) rv.2) args s 0 0 (inW ad 12)) (F0 m 0 ls []) := by
  intro h H locs ls hf hP hS hl
  unfold f_X8_made at hf
  refine lv_aload_n C.1 C.2.1 dX8_made_0 rfl (lv_at hl 0 rfl) ?_
  refine lv_iconst (v := (4 : Int32)) C.1 C.2.1 dX8_made_1 (by decide) ?_
  obtain ⟨q1, eq1, hf⟩ := g_b hf
  refine cv_X8_136 hA C hX hP hS eq1 ⟨Nat.le_of_ble_eq_true rfl, Nat.le_of_ble_eq_true rfl⟩ hl.1 (Nat.le_of_ble_eq_true rfl) dX8_made_2 (fun H locs hP hS => ?_)
  refine lv_aload_n C.1 C.2.1 dX8_made_5 rfl (lv_at hl 0 rfl) ?_
  refine lv_bipush (v := (8 : Int32)) C.1 C.2.1 dX8_made_6 (by decide) ?_
  obtain ⟨q2, eq2, hf⟩ := g_b hf
  refine cv_X8_136 hA C hX hP hS eq2 ⟨Nat.le_of_ble_eq_true rfl, Nat.le_of_ble_eq_true rfl⟩ hl.1 (Nat.le_of_ble_eq_true rfl) dX8_made_8 (fun H locs hP hS => ?_)
  refine lv_iadd C.1 C.2.1 dX8_made_11 ?_
  refine lv_istore_n (lv' := [(1, .int (q1.1 + q2.1)), (0, .ref (ad 0))]) C.1 C.2.1 dX8_made_12 rfl hl (by decide) rfl (fun ls hl => ?_)
  refine lv_iload_n C.1 C.2.1 dX8_made_13 rfl (lv_at hl 0 rfl) ?_
  refine lv_if_ne (tgt := 21) C.1 C.2.1 dX8_made_14 (by decide) (fun hc => ?_) (fun hc => ?_)
  · have hf := g_f hc hf
    refine lv_aload_n C.1 C.2.1 dX8_made_21 rfl (lv_at hl 1 rfl) ?_
    refine lv_iconst (v := (4 : Int32)) C.1 C.2.1 dX8_made_22 (by decide) ?_
    obtain ⟨q3, eq3, hf⟩ := g_b hf
    refine cv_X8_136 hA C hX hP hS eq3 ⟨Nat.le_of_ble_eq_true rfl, Nat.le_of_ble_eq_true rfl⟩ hl.1 (Nat.le_of_ble_eq_true rfl) dX8_made_23 (fun H locs hP hS => ?_)
    refine lv_i2f C.1 C.2.1 dX8_made_26 ?_
    refine lv_iload_n C.1 C.2.1 dX8_made_27 rfl (lv_at hl 0 rfl) ?_
    refine lv_i2f C.1 C.2.1 dX8_made_28 ?_
    obtain ⟨hg, hf⟩ := g_if hf
    refine lv_fdiv C.1 C.2.1 dX8_made_29 (fdiv_n32 hg) ?_
    obtain rfl := Option.some.inj hf
    exact u_fret C hP hS dX8_made_30
  · have hf := g_t hc hf
    refine lv_fconst1 C.1 C.2.1 dX8_made_17 ?_
    refine lv_goto (tgt := 30) C.1 C.2.1 dX8_made_18 (by decide) ?_
    obtain rfl := Option.some.inj hf
    exact u_fret C hP hS dX8_made_30
theorem c_X8_made (l : Launch) (D : va_G) (ids : Nat → ClassId) (ad : Nat → Nat) (hA : adOk ad 12) {h : Hp} {rv : UInt32 × Hp} (hf : f_X8_made h = some rv) : Met l yX8_made (ws_ yX8_made cX8_made 2 (some .float)) rm_X8_made (va_Pc [.ref (ad 0)] (WB D ids (cEM ids ad) ad 12 ExM h)) (QW D (cEM ids ad) ad 12 (some (.float rv.1)) rv.2) 0 0 (inW ad 12) :=
  u_met (own := RX8) (by decide) rfl (Nat.le_of_ble_eq_true rfl) rfl (fun p e s m args below meth c H ls C hX hP hS hl => w_X8_made hA C hX _ _ _ _ hf hP hS hl)
theorem gf_X8_16 {p : Program} {l : Launch} {e : Env} {R : Room} {s : State} {m : MethodId} {args : Array Value} {below : List Frame} {meth : Method} {c : Code} {H : Heap} {locs : List Loc} {cells slots : Nat} {Q : State → Prop} {cc : ByteArray} {nL : Nat} {ret : Option FieldType} {pc : Nat} {ls : Array Slot} {rest : List Value} {D : va_G} {ids : Nat → ClassId} {ad : Nat → Nat} {h : Hp} (C : CX p s m args meth c cc nL ret RX8 D ids) (hP : wp D (cEM ids ad) ad 12 h H) (hdg : decode cc pc = .ok (.getfield 16, 3)) (kk : W p l e R s m args below meth c H locs cells slots Q (F0 m (pc + 3) ls (.ref (ad 3) :: rest))) : W p l e R s m args below meth c H locs cells slots Q (F0 m pc ls (.ref (ad 0) :: rest)) :=
  u_get C hP (by decide) cE_X8 rfl inX8 2 (by decide) rfl q_116 hdg kk
theorem as_m3 {p : Program} {l : Launch} {e : Env} {R : Room} {s : State} {m : MethodId} {args : Array Value} {below : List Frame} {meth : Method} {c : Code} {H : Heap} {locs : List Loc} {cells slots : Nat} {Q : State → Prop} {cc : ByteArray} {nL : Nat} {ret : Option FieldType} {own : String} {pc : Nat} {ls : Array Slot} {rest : List Value} {D : va_G} {ids : Nat → ClassId} {ad : Nat → Nat} {h : Hp} {i x : Int32} (hA : adOk ad 12) (C : CX p s m args meth c cc nL ret own D ids) (hP : wp D (cEM ids ad) ad 12 h H) (hS : va_S (inW ad 12) s.heap H locs) (hg : inb i 36 = true) (hdg : decode cc pc = .ok (.iastore, 1)) (kk : ∀ (H1 : Heap) (locs1 : List Loc), wp D (cEM ids ad) ad 12 (hs h 3 i.toNatClampNeg x) H1 → va_S (inW ad 12) s.heap H1 locs1 → W p l e R s m args below meth c H1 locs1 cells slots Q (F0 m (pc + 1) ls rest)) : W p l e R s m args below meth c H locs cells slots Q (F0 m pc ls (.int x :: .int i :: .ref (ad 3) :: rest)) :=
  u_iast hA C hP hS (by decide) cE_m3 hg hdg kk
abbrev rm_X8_lay : Room := { frames := 0, cells := 0, slots := 0, locals := 0 }
set_option maxRecDepth 100000 in
set_option maxHeartbeats 4000000 in
theorem w_X8_lay_2 {p : Program} {l : Launch} {e : Env} {s : State} {m : MethodId} {args : Array Value} {below : List Frame} {meth : Method} {c : Code} {D : va_G} {ids : Nat → ClassId} {ad : Nat → Nat} {rv : Hp} (hA : adOk ad 12) (C : CX p s m args meth c cX8_lay 2 none RX8 D ids) (hX : ExM s s.heap) : ∀ (fu : Nat), ∀ (h : Hp) (x1 : Int32) (H : Heap) (locs : List Loc) (ls : Array Slot), f_X8_lay_2 fu h x1 = some rv → wp D (cEM ids ad) ad 12 h H → va_S (inW ad 12) s.heap H locs → lv_has ls 2 [(0, .ref (ad 0)), (1, .int x1)] → W p l e rm_X8_lay s m args below meth c H locs 0 0 (MQ below (QW D (cEM ids ad) ad 12 none rv) args s 0 0 (inW ad 12)) (F0 m 2 ls []) := by
  intro fu
  induction fu with
  | zero =>
    intro h x1 H locs ls hf hP hS hl
    cases hf
  | succ fu ih =>
    intro h x1 H locs ls hf hP hS hl
    rw [f_X8_lay_2_s] at hf
    refine lv_iload_n C.1 C.2.1 dX8_lay_2 rfl (lv_at hl 1 rfl) ?_
    refine lv_bipush (v := (36 : Int32)) C.1 C.2.1 dX8_lay_3 (by decide) ?_
    refine lv_icmp_ge (tgt := 26) C.1 C.2.1 dX8_lay_5 (by decide) (fun hc => ?_) (fun hc => ?_)
    · have hf := g_t hc hf
      obtain rfl := Option.some.inj hf
      exact u_vret C hP hS dX8_lay_26
    · have hf := g_f hc hf
      refine lv_aload_n C.1 C.2.1 dX8_lay_8 rfl (lv_at hl 0 rfl) ?_
      refine gf_X8_16 C hP dX8_lay_9 ?_
      refine lv_iload_n C.1 C.2.1 dX8_lay_12 rfl (lv_at hl 1 rfl) ?_
      refine lv_aload_n C.1 C.2.1 dX8_lay_13 rfl (lv_at hl 0 rfl) ?_
      refine gf_X8_7 C hP dX8_lay_14 ?_
      refine lv_iload_n C.1 C.2.1 dX8_lay_17 rfl (lv_at hl 1 rfl) ?_
      obtain ⟨hg, hf⟩ := g_if hf
      refine al_m1 C hP hg dX8_lay_18 ?_
      obtain ⟨hg, hf⟩ := g_if hf
      refine as_m3 hA C hP hS hg dX8_lay_19 (fun H locs hP hS => ?_)
      refine lv_iinc (v := (x1 + 1)) (lv' := [(1, .int (x1 + 1)), (0, .ref (ad 0))]) C.1 C.2.1 dX8_lay_20 hl (k := 1) rfl (by rfl) (by decide) rfl (fun ls hl => ?_)
      refine lv_goto (tgt := 2) C.1 C.2.1 dX8_lay_23 (by decide) ?_
      exact ih _ _ _ _ _ hf hP hS (lv_sub hl [1, 0] rfl)
set_option maxRecDepth 100000 in
set_option maxHeartbeats 4000000 in
theorem w_X8_lay {p : Program} {l : Launch} {e : Env} {s : State} {m : MethodId} {args : Array Value} {below : List Frame} {meth : Method} {c : Code} {D : va_G} {ids : Nat → ClassId} {ad : Nat → Nat} {rv : Hp} (hA : adOk ad 12) (C : CX p s m args meth c cX8_lay 2 none RX8 D ids) (hX : ExM s s.heap) : ∀ (h : Hp) (H : Heap) (locs : List Loc) (ls : Array Slot), f_X8_lay h = some rv → wp D (cEM ids ad) ad 12 h H → va_S (inW ad 12) s.heap H locs → lv_has ls 2 [(0, .ref (ad 0))] → W p l e rm_X8_lay s m args below meth c H locs 0 0 (MQ below (QW D (cEM ids ad) ad 12 none rv) args s 0 0 (inW ad 12)) (F0 m 0 ls []) := by
  intro h H locs ls hf hP hS hl
  unfold f_X8_lay at hf
  refine lv_iconst (v := (0 : Int32)) C.1 C.2.1 dX8_lay_0 (by decide) ?_
  refine lv_istore_n (lv' := [(1, .int (0 : Int32)), (0, .ref (ad 0))]) C.1 C.2.1 dX8_lay_1 rfl hl (by decide) rfl (fun ls hl => ?_)
  exact w_X8_lay_2 hA C hX _ _ _ _ _ _ hf hP hS (lv_sub hl [1, 0] rfl)
theorem c_X8_lay (l : Launch) (D : va_G) (ids : Nat → ClassId) (ad : Nat → Nat) (hA : adOk ad 12) {h : Hp} {rv : Hp} (hf : f_X8_lay h = some rv) : Met l yX8_lay (ws_ yX8_lay cX8_lay 2 none) rm_X8_lay (va_Pc [.ref (ad 0)] (WB D ids (cEM ids ad) ad 12 ExM h)) (QW D (cEM ids ad) ad 12 none rv) 0 0 (inW ad 12) :=
  u_met (own := RX8) (by decide) rfl (Nat.le_of_ble_eq_true rfl) rfl (fun p e s m args below meth c H ls C hX hP hS hl => w_X8_lay hA C hX _ _ _ _ hf hP hS hl)
abbrev rm_X8_told : Room := { frames := 2, cells := 0, slots := 0, locals := 43 }
set_option maxRecDepth 100000 in
set_option maxHeartbeats 4000000 in
theorem w_X8_told {p : Program} {l : Launch} {e : Env} {s : State} {m : MethodId} {args : Array Value} {below : List Frame} {meth : Method} {c : Code} {D : va_G} {ids : Nat → ClassId} {ad : Nat → Nat} {rv : Int32 × Hp} (hA : adOk ad 12) (C : CX p s m args meth c cX8_told 2 (some .int) RX8 D ids) (hX : ExM s s.heap) : ∀ (h : Hp) (a1 : Int32) (H : Heap) (locs : List Loc) (ls : Array Slot), f_X8_told h a1 = some rv → wp D (cEM ids ad) ad 12 h H → va_S (inW ad 12) s.heap H locs → lv_has ls 2 [(0, .ref (ad 0)), (1, .int a1)] → W p l e rm_X8_told s m args below meth c H locs 0 0 (MQ below (QW D (cEM ids ad) ad 12 (some (.int rv.1)) rv.2) args s 0 0 (inW ad 12)) (F0 m 0 ls []) := by
  intro h a1 H locs ls hf hP hS hl
  unfold f_X8_told at hf
  refine lv_iload_n C.1 C.2.1 dX8_told_0 rfl (lv_at hl 1 rfl) ?_
  refine lv_if_ne (tgt := 12) C.1 C.2.1 dX8_told_1 (by decide) (fun hc => ?_) (fun hc => ?_)
  · have hf := g_f hc hf
    refine lv_iload_n C.1 C.2.1 dX8_told_12 rfl (lv_at hl 1 rfl) ?_
    refine lv_iconst (v := (1 : Int32)) C.1 C.2.1 dX8_told_13 (by decide) ?_
    refine lv_icmp_ne (tgt := 26) C.1 C.2.1 dX8_told_14 (by decide) (fun hc => ?_) (fun hc => ?_)
    · have hf := g_f hc hf
      refine lv_iload_n C.1 C.2.1 dX8_told_26 rfl (lv_at hl 1 rfl) ?_
      refine lv_iconst (v := (2 : Int32)) C.1 C.2.1 dX8_told_27 (by decide) ?_
      refine lv_icmp_ne (tgt := 39) C.1 C.2.1 dX8_told_28 (by decide) (fun hc => ?_) (fun hc => ?_)
      · have hf := g_f hc hf
        refine lv_iload_n C.1 C.2.1 dX8_told_39 rfl (lv_at hl 1 rfl) ?_
        refine lv_iconst (v := (3 : Int32)) C.1 C.2.1 dX8_told_40 (by decide) ?_
        refine lv_icmp_ne (tgt := 53) C.1 C.2.1 dX8_told_41 (by decide) (fun hc => ?_) (fun hc => ?_)
        · have hf := g_f hc hf
          refine lv_aload_n C.1 C.2.1 dX8_told_53 rfl (lv_at hl 0 rfl) ?_
          refine gf_X8_7 C hP dX8_told_54 ?_
          refine lv_iconst (v := (5 : Int32)) C.1 C.2.1 dX8_told_57 (by decide) ?_
          obtain ⟨hg, hf⟩ := g_if hf
          refine al_m1 C hP hg dX8_told_58 ?_
          obtain rfl := Option.some.inj hf
          exact u_iret C hP hS dX8_told_59
        · have hf := g_t hc hf
          refine lv_aload_n C.1 C.2.1 dX8_told_44 rfl (lv_at hl 0 rfl) ?_
          refine lv_bipush (v := (6 : Int32)) C.1 C.2.1 dX8_told_45 (by decide) ?_
          obtain ⟨q1, eq1, hf⟩ := g_b hf
          refine cv_X8_136 hA C hX hP hS eq1 ⟨Nat.le_of_ble_eq_true rfl, Nat.le_of_ble_eq_true rfl⟩ hl.1 (Nat.le_of_ble_eq_true rfl) dX8_told_47 (fun H locs hP hS => ?_)
          refine lv_goto (tgt := 59) C.1 C.2.1 dX8_told_50 (by decide) ?_
          obtain rfl := Option.some.inj hf
          exact u_iret C hP hS dX8_told_59
      · have hf := g_t hc hf
        refine lv_aload_n C.1 C.2.1 dX8_told_31 rfl (lv_at hl 0 rfl) ?_
        refine lv_iconst (v := (5 : Int32)) C.1 C.2.1 dX8_told_32 (by decide) ?_
        obtain ⟨q2, eq2, hf⟩ := g_b hf
        refine cv_X8_136 hA C hX hP hS eq2 ⟨Nat.le_of_ble_eq_true rfl, Nat.le_of_ble_eq_true rfl⟩ hl.1 (Nat.le_of_ble_eq_true rfl) dX8_told_33 (fun H locs hP hS => ?_)
        refine lv_goto (tgt := 59) C.1 C.2.1 dX8_told_36 (by decide) ?_
        obtain rfl := Option.some.inj hf
        exact u_iret C hP hS dX8_told_59
    · have hf := g_t hc hf
      refine lv_aload_n C.1 C.2.1 dX8_told_17 rfl (lv_at hl 0 rfl) ?_
      refine lv_bipush (v := (8 : Int32)) C.1 C.2.1 dX8_told_18 (by decide) ?_
      obtain ⟨q3, eq3, hf⟩ := g_b hf
      refine cv_X8_136 hA C hX hP hS eq3 ⟨Nat.le_of_ble_eq_true rfl, Nat.le_of_ble_eq_true rfl⟩ hl.1 (Nat.le_of_ble_eq_true rfl) dX8_told_20 (fun H locs hP hS => ?_)
      refine lv_goto (tgt := 59) C.1 C.2.1 dX8_told_23 (by decide) ?_
      obtain rfl := Option.some.inj hf
      exact u_iret C hP hS dX8_told_59
  · have hf := g_t hc hf
    refine lv_aload_n C.1 C.2.1 dX8_told_4 rfl (lv_at hl 0 rfl) ?_
    refine lv_iconst (v := (4 : Int32)) C.1 C.2.1 dX8_told_5 (by decide) ?_
    obtain ⟨q4, eq4, hf⟩ := g_b hf
    refine cv_X8_136 hA C hX hP hS eq4 ⟨Nat.le_of_ble_eq_true rfl, Nat.le_of_ble_eq_true rfl⟩ hl.1 (Nat.le_of_ble_eq_true rfl) dX8_told_6 (fun H locs hP hS => ?_)
    refine lv_goto (tgt := 59) C.1 C.2.1 dX8_told_9 (by decide) ?_
    obtain rfl := Option.some.inj hf
    exact u_iret C hP hS dX8_told_59
theorem c_X8_told (l : Launch) (D : va_G) (ids : Nat → ClassId) (ad : Nat → Nat) (hA : adOk ad 12) {a1 : Int32} {h : Hp} {rv : Int32 × Hp} (hf : f_X8_told h a1 = some rv) : Met l yX8_told (ws_ yX8_told cX8_told 2 (some .int)) rm_X8_told (va_Pc [.ref (ad 0), .int a1] (WB D ids (cEM ids ad) ad 12 ExM h)) (QW D (cEM ids ad) ad 12 (some (.int rv.1)) rv.2) 0 0 (inW ad 12) :=
  u_met (own := RX8) (by decide) rfl (Nat.le_of_ble_eq_true rfl) rfl (fun p e s m args below meth c H ls C hX hP hS hl => w_X8_told hA C hX _ _ _ _ _ hf hP hS hl)
theorem al_m3 {p : Program} {l : Launch} {e : Env} {R : Room} {s : State} {m : MethodId} {args : Array Value} {below : List Frame} {meth : Method} {c : Code} {H : Heap} {locs : List Loc} {cells slots : Nat} {Q : State → Prop} {cc : ByteArray} {nL : Nat} {ret : Option FieldType} {own : String} {pc : Nat} {ls : Array Slot} {rest : List Value} {D : va_G} {ids : Nat → ClassId} {ad : Nat → Nat} {h : Hp} (C : CX p s m args meth c cc nL ret own D ids) (hP : wp D (cEM ids ad) ad 12 h H) {i : Int32} (hg : inb i 36 = true) (hdg : decode cc pc = .ok (.iaload, 1)) (kk : W p l e R s m args below meth c H locs cells slots Q (F0 m (pc + 1) ls (.int (h 3 i.toNatClampNeg) :: rest))) : W p l e R s m args below meth c H locs cells slots Q (F0 m pc ls (.int i :: .ref (ad 3) :: rest)) :=
  u_iald C hP (by decide) cE_m3 hg hdg kk
abbrev rm_X8_takeBack : Room := { frames := 0, cells := 0, slots := 0, locals := 0 }
set_option maxRecDepth 100000 in
set_option maxHeartbeats 4000000 in
theorem w_X8_takeBack_2 {p : Program} {l : Launch} {e : Env} {s : State} {m : MethodId} {args : Array Value} {below : List Frame} {meth : Method} {c : Code} {D : va_G} {ids : Nat → ClassId} {ad : Nat → Nat} {rv : Hp} (hA : adOk ad 12) (C : CX p s m args meth c cX8_takeBack 2 none RX8 D ids) (hX : ExM s s.heap) : ∀ (fu : Nat), ∀ (h : Hp) (x1 : Int32) (H : Heap) (locs : List Loc) (ls : Array Slot), f_X8_takeBack_2 fu h x1 = some rv → wp D (cEM ids ad) ad 12 h H → va_S (inW ad 12) s.heap H locs → lv_has ls 2 [(0, .ref (ad 0)), (1, .int x1)] → W p l e rm_X8_takeBack s m args below meth c H locs 0 0 (MQ below (QW D (cEM ids ad) ad 12 none rv) args s 0 0 (inW ad 12)) (F0 m 2 ls []) := by
  intro fu
  induction fu with
  | zero =>
    intro h x1 H locs ls hf hP hS hl
    cases hf
  | succ fu ih =>
    intro h x1 H locs ls hf hP hS hl
    rw [f_X8_takeBack_2_s] at hf
    refine lv_iload_n C.1 C.2.1 dX8_takeBack_2 rfl (lv_at hl 1 rfl) ?_
    refine lv_bipush (v := (36 : Int32)) C.1 C.2.1 dX8_takeBack_3 (by decide) ?_
    refine lv_icmp_ge (tgt := 26) C.1 C.2.1 dX8_takeBack_5 (by decide) (fun hc => ?_) (fun hc => ?_)
    · have hf := g_t hc hf
      obtain rfl := Option.some.inj hf
      exact u_vret C hP hS dX8_takeBack_26
    · have hf := g_f hc hf
      refine lv_aload_n C.1 C.2.1 dX8_takeBack_8 rfl (lv_at hl 0 rfl) ?_
      refine gf_X8_7 C hP dX8_takeBack_9 ?_
      refine lv_iload_n C.1 C.2.1 dX8_takeBack_12 rfl (lv_at hl 1 rfl) ?_
      refine lv_aload_n C.1 C.2.1 dX8_takeBack_13 rfl (lv_at hl 0 rfl) ?_
      refine gf_X8_16 C hP dX8_takeBack_14 ?_
      refine lv_iload_n C.1 C.2.1 dX8_takeBack_17 rfl (lv_at hl 1 rfl) ?_
      obtain ⟨hg, hf⟩ := g_if hf
      refine al_m3 C hP hg dX8_takeBack_18 ?_
      obtain ⟨hg, hf⟩ := g_if hf
      refine as_m1 hA C hP hS hg dX8_takeBack_19 (fun H locs hP hS => ?_)
      refine lv_iinc (v := (x1 + 1)) (lv' := [(1, .int (x1 + 1)), (0, .ref (ad 0))]) C.1 C.2.1 dX8_takeBack_20 hl (k := 1) rfl (by rfl) (by decide) rfl (fun ls hl => ?_)
      refine lv_goto (tgt := 2) C.1 C.2.1 dX8_takeBack_23 (by decide) ?_
      exact ih _ _ _ _ _ hf hP hS (lv_sub hl [1, 0] rfl)
set_option maxRecDepth 100000 in
set_option maxHeartbeats 4000000 in
theorem w_X8_takeBack {p : Program} {l : Launch} {e : Env} {s : State} {m : MethodId} {args : Array Value} {below : List Frame} {meth : Method} {c : Code} {D : va_G} {ids : Nat → ClassId} {ad : Nat → Nat} {rv : Hp} (hA : adOk ad 12) (C : CX p s m args meth c cX8_takeBack 2 none RX8 D ids) (hX : ExM s s.heap) : ∀ (h : Hp) (H : Heap) (locs : List Loc) (ls : Array Slot), f_X8_takeBack h = some rv → wp D (cEM ids ad) ad 12 h H → va_S (inW ad 12) s.heap H locs → lv_has ls 2 [(0, .ref (ad 0))] → W p l e rm_X8_takeBack s m args below meth c H locs 0 0 (MQ below (QW D (cEM ids ad) ad 12 none rv) args s 0 0 (inW ad 12)) (F0 m 0 ls []) := by
  intro h H locs ls hf hP hS hl
  unfold f_X8_takeBack at hf
  refine lv_iconst (v := (0 : Int32)) C.1 C.2.1 dX8_takeBack_0 (by decide) ?_
  refine lv_istore_n (lv' := [(1, .int (0 : Int32)), (0, .ref (ad 0))]) C.1 C.2.1 dX8_takeBack_1 rfl hl (by decide) rfl (fun ls hl => ?_)
  exact w_X8_takeBack_2 hA C hX _ _ _ _ _ _ hf hP hS (lv_sub hl [1, 0] rfl)
theorem c_X8_takeBack (l : Launch) (D : va_G) (ids : Nat → ClassId) (ad : Nat → Nat) (hA : adOk ad 12) {h : Hp} {rv : Hp} (hf : f_X8_takeBack h = some rv) : Met l yX8_takeBack (ws_ yX8_takeBack cX8_takeBack 2 none) rm_X8_takeBack (va_Pc [.ref (ad 0)] (WB D ids (cEM ids ad) ad 12 ExM h)) (QW D (cEM ids ad) ad 12 none rv) 0 0 (inW ad 12) :=
  u_met (own := RX8) (by decide) rfl (Nat.le_of_ble_eq_true rfl) rfl (fun p e s m args below meth c H ls C hX hP hS hl => w_X8_takeBack hA C hX _ _ _ _ hf hP hS hl)
theorem cv_X8_175 {p : Program} {l : Launch} {e : Env} {R : Room} {s : State} {m : MethodId} {args : Array Value} {below : List Frame} {meth : Method} {c : Code} {H : Heap} {locs : List Loc} {Q : State → Prop} {cc : ByteArray} {nL : Nat} {ret : Option FieldType} {pc : Nat} {ls : Array Slot} {rest : List Value} {D : va_G} {ids : Nat → ClassId} {ad : Nat → Nat} {h : Hp} (hA : adOk ad 12) (C : CX p s m args meth c cc nL ret RX8 D ids) (hX : ExM s s.heap) (hP : wp D (cEM ids ad) ad 12 h H) (hS : va_S (inW ad 12) s.heap H locs) {rv : Hp} (hf : f_X8_lay h = some rv) (hR : 0 + 1 ≤ R.frames ∧ 8 + (2 + 11) + 0 ≤ R.locals) (hsz : ls.size = nL) (hcat : (rest.map fun v => v.category).sum ≤ 8) (hdg : decode cc pc = .ok (.invokevirtual 175, 3)) (kk : ∀ (H1 : Heap) (locs1 : List Loc), wp D (cEM ids ad) ad 12 rv H1 → va_S (inW ad 12) s.heap H1 locs1 → W p l e R s m args below meth c H1 locs1 0 0 Q (F0 m (pc + 3) ls (rest))) : W p l e R s m args below meth c H locs 0 0 Q (F0 m pc ls (.ref (ad 0) :: rest)) :=
  u_callV (As := []) (rv := none) C exM_ok hX (c_X8_lay l D ids ad hA hf) q_706 q_707 q_708 q_5 q_709 ⟨rfl, rfl⟩ (by refine ⟨by decide +kernel, by decide +kernel, ?_⟩; show _ = some 0; decide +kernel) hR (by decide) (cE_X8 _) rfl hP hS hsz hcat rfl hdg kk
theorem cv_X8_178 {p : Program} {l : Launch} {e : Env} {R : Room} {s : State} {m : MethodId} {args : Array Value} {below : List Frame} {meth : Method} {c : Code} {H : Heap} {locs : List Loc} {Q : State → Prop} {cc : ByteArray} {nL : Nat} {ret : Option FieldType} {pc : Nat} {ls : Array Slot} {rest : List Value} {D : va_G} {ids : Nat → ClassId} {ad : Nat → Nat} {h : Hp} (hA : adOk ad 12) (C : CX p s m args meth c cc nL ret RX8 D ids) (hX : ExM s s.heap) (hP : wp D (cEM ids ad) ad 12 h H) (hS : va_S (inW ad 12) s.heap H locs) {a1 : Int32} {rv : Int32 × Hp} (hf : f_X8_told h a1 = some rv) (hR : 2 + 1 ≤ R.frames ∧ 8 + (2 + 11) + 43 ≤ R.locals) (hsz : ls.size = nL) (hcat : (rest.map fun v => v.category).sum ≤ 8) (hdg : decode cc pc = .ok (.invokevirtual 178, 3)) (kk : ∀ (H1 : Heap) (locs1 : List Loc), wp D (cEM ids ad) ad 12 rv.2 H1 → va_S (inW ad 12) s.heap H1 locs1 → W p l e R s m args below meth c H1 locs1 0 0 Q (F0 m (pc + 3) ls (.int rv.1 :: rest))) : W p l e R s m args below meth c H locs 0 0 Q (F0 m pc ls (.int a1 :: .ref (ad 0) :: rest)) :=
  u_callV (As := [.int a1]) (rv := (some (.int rv.1))) C exM_ok hX (c_X8_told l D ids ad hA hf) q_710 q_711 q_712 q_5 q_713 ⟨rfl, rfl⟩ (by refine ⟨by decide +kernel, by decide +kernel, ?_⟩; show _ = some 1; decide +kernel) hR (by decide) (cE_X8 _) rfl hP hS hsz hcat rfl hdg kk
theorem cv_X8_181 {p : Program} {l : Launch} {e : Env} {R : Room} {s : State} {m : MethodId} {args : Array Value} {below : List Frame} {meth : Method} {c : Code} {H : Heap} {locs : List Loc} {Q : State → Prop} {cc : ByteArray} {nL : Nat} {ret : Option FieldType} {pc : Nat} {ls : Array Slot} {rest : List Value} {D : va_G} {ids : Nat → ClassId} {ad : Nat → Nat} {h : Hp} (hA : adOk ad 12) (C : CX p s m args meth c cc nL ret RX8 D ids) (hX : ExM s s.heap) (hP : wp D (cEM ids ad) ad 12 h H) (hS : va_S (inW ad 12) s.heap H locs) {rv : Hp} (hf : f_X8_takeBack h = some rv) (hR : 0 + 1 ≤ R.frames ∧ 8 + (2 + 11) + 0 ≤ R.locals) (hsz : ls.size = nL) (hcat : (rest.map fun v => v.category).sum ≤ 8) (hdg : decode cc pc = .ok (.invokevirtual 181, 3)) (kk : ∀ (H1 : Heap) (locs1 : List Loc), wp D (cEM ids ad) ad 12 rv H1 → va_S (inW ad 12) s.heap H1 locs1 → W p l e R s m args below meth c H1 locs1 0 0 Q (F0 m (pc + 3) ls (rest))) : W p l e R s m args below meth c H locs 0 0 Q (F0 m pc ls (.ref (ad 0) :: rest)) :=
  u_callV (As := []) (rv := none) C exM_ok hX (c_X8_takeBack l D ids ad hA hf) q_714 q_715 q_716 q_5 q_717 ⟨rfl, rfl⟩ (by refine ⟨by decide +kernel, by decide +kernel, ?_⟩; show _ = some 0; decide +kernel) hR (by decide) (cE_X8 _) rfl hP hS hsz hcat rfl hdg kk
abbrev rm_X8_ifSailed : Room := { frames := 6, cells := 0, slots := 0, locals := 140 }
set_option maxRecDepth 100000 in
set_option maxHeartbeats 4000000 in
theorem w_X8_ifSailed_45 {p : Program} {l : Launch} {e : Env} {s : State} {m : MethodId} {args : Array Value} {below : List Frame} {meth : Method} {c : Code} {D : va_G} {ids : Nat → ClassId} {ad : Nat → Nat} {rv : Int32 × Hp} (hA : adOk ad 12) (C : CX p s m args meth c cX8_ifSailed 4 (some .int) RX8 D ids) (hX : ExM s s.heap) : ∀ (h : Hp) (t0 : Int32) (H : Heap) (locs : List Loc) (ls : Array Slot), f_X8_ifSailed_45 h t0 = some rv → wp D (cEM ids ad) ad 12 h H → va_S (inW ad 12) s.heap H locs → lv_has ls 4 [(0, .ref (ad 0))] → W p l e rm_X8_ifSailed s m args below meth c H locs 0 0 (MQ below (QW D (cEM ids ad) ad 12 (some (.int rv.1)) rv.2) args s 0 0 (inW ad 12)) (F0 m 45 ls [.int t0]) := by
  intro h t0 H locs ls hf hP hS hl
  unfold f_X8_ifSailed_45 at hf
  refine lv_istore_n (lv' := [(3, .int t0), (0, .ref (ad 0))]) C.1 C.2.1 dX8_ifSailed_45 rfl hl (by decide) rfl (fun ls hl => ?_)
  refine lv_aload_n C.1 C.2.1 dX8_ifSailed_46 rfl (lv_at hl 1 rfl) ?_
  obtain ⟨q1, eq1, hf⟩ := g_b hf
  refine cv_X8_181 hA C hX hP hS eq1 ⟨Nat.le_of_ble_eq_true rfl, Nat.le_of_ble_eq_true rfl⟩ hl.1 (Nat.le_of_ble_eq_true rfl) dX8_ifSailed_47 (fun H locs hP hS => ?_)
  refine lv_iload_n C.1 C.2.1 dX8_ifSailed_50 rfl (lv_at hl 0 rfl) ?_
  obtain rfl := Option.some.inj hf
  exact u_iret C hP hS dX8_ifSailed_51
set_option maxRecDepth 100000 in
set_option maxHeartbeats 4000000 in
theorem w_X8_ifSailed {p : Program} {l : Launch} {e : Env} {s : State} {m : MethodId} {args : Array Value} {below : List Frame} {meth : Method} {c : Code} {D : va_G} {ids : Nat → ClassId} {ad : Nat → Nat} {rv : Int32 × Hp} (hA : adOk ad 12) (C : CX p s m args meth c cX8_ifSailed 4 (some .int) RX8 D ids) (hX : ExM s s.heap) : ∀ (h : Hp) (a1 : Int32) (H : Heap) (locs : List Loc) (ls : Array Slot), f_X8_ifSailed h a1 = some rv → wp D (cEM ids ad) ad 12 h H → va_S (inW ad 12) s.heap H locs → lv_has ls 4 [(0, .ref (ad 0)), (1, .int a1)] → W p l e rm_X8_ifSailed s m args below meth c H locs 0 0 (MQ below (QW D (cEM ids ad) ad 12 (some (.int rv.1)) rv.2) args s 0 0 (inW ad 12)) (F0 m 0 ls []) := by
  intro h a1 H locs ls hf hP hS hl
  unfold f_X8_ifSailed at hf
  refine lv_iload_n C.1 C.2.1 dX8_ifSailed_0 rfl (lv_at hl 1 rfl) ?_
  refine lv_iconst (v := (0 : Int32)) C.1 C.2.1 dX8_ifSailed_1 (by decide) ?_
  refine lv_iconst (v := (5 : Int32)) C.1 C.2.1 dX8_ifSailed_2 (by decide) ?_
  obtain ⟨q1, eq1, hf⟩ := g_b hf
  refine cv_X8_51 hA C hX hP hS eq1 ⟨Nat.le_of_ble_eq_true rfl, Nat.le_of_ble_eq_true rfl⟩ hl.1 (Nat.le_of_ble_eq_true rfl) dX8_ifSailed_3 (fun H locs hP hS => ?_)
  refine lv_if_ne (tgt := 12) C.1 C.2.1 dX8_ifSailed_6 (by decide) (fun hc => ?_) (fun hc => ?_)
  · have hf := g_f hc hf
    refine lv_aload_n C.1 C.2.1 dX8_ifSailed_12 rfl (lv_at hl 0 rfl) ?_
    obtain ⟨q2, eq2, hf⟩ := g_b hf
    refine cv_X8_175 hA C hX hP hS eq2 ⟨Nat.le_of_ble_eq_true rfl, Nat.le_of_ble_eq_true rfl⟩ hl.1 (Nat.le_of_ble_eq_true rfl) dX8_ifSailed_13 (fun H locs hP hS => ?_)
    refine lv_aload_n C.1 C.2.1 dX8_ifSailed_16 rfl (lv_at hl 0 rfl) ?_
    refine lv_iload_n C.1 C.2.1 dX8_ifSailed_17 rfl (lv_at hl 1 rfl) ?_
    obtain ⟨q3, eq3, hf⟩ := g_b hf
    refine cv_X8_178 hA C hX hP hS eq3 ⟨Nat.le_of_ble_eq_true rfl, Nat.le_of_ble_eq_true rfl⟩ hl.1 (Nat.le_of_ble_eq_true rfl) dX8_ifSailed_18 (fun H locs hP hS => ?_)
    refine lv_istore_n (lv' := [(2, .int q3.1), (0, .ref (ad 0)), (1, .int a1)]) C.1 C.2.1 dX8_ifSailed_21 rfl hl (by decide) rfl (fun ls hl => ?_)
    refine lv_aload_n C.1 C.2.1 dX8_ifSailed_22 rfl (lv_at hl 1 rfl) ?_
    obtain ⟨q4, eq4, hf⟩ := g_b hf
    refine cv_X8_139 hA C hX hP hS eq4 ⟨Nat.le_of_ble_eq_true rfl, Nat.le_of_ble_eq_true rfl⟩ hl.1 (Nat.le_of_ble_eq_true rfl) dX8_ifSailed_23 (fun H locs hP hS => ?_)
    refine lv_iload_n C.1 C.2.1 dX8_ifSailed_26 rfl (lv_at hl 2 rfl) ?_
    refine lv_iconst (v := (5 : Int32)) C.1 C.2.1 dX8_ifSailed_27 (by decide) ?_
    refine lv_icmp_ne (tgt := 38) C.1 C.2.1 dX8_ifSailed_28 (by decide) (fun hc => ?_) (fun hc => ?_)
    · have hf := g_f hc hf
      refine lv_aload_n C.1 C.2.1 dX8_ifSailed_38 rfl (lv_at hl 1 rfl) ?_
      refine lv_iload_n C.1 C.2.1 dX8_ifSailed_39 rfl (lv_at hl 2 rfl) ?_
      obtain ⟨q5, eq5, hf⟩ := g_b hf
      refine cv_X8_178 hA C hX hP hS eq5 ⟨Nat.le_of_ble_eq_true rfl, Nat.le_of_ble_eq_true rfl⟩ hl.1 (Nat.le_of_ble_eq_true rfl) dX8_ifSailed_40 (fun H locs hP hS => ?_)
      refine lv_iload_n C.1 C.2.1 dX8_ifSailed_43 rfl (lv_at hl 0 rfl) ?_
      refine lv_isub C.1 C.2.1 dX8_ifSailed_44 ?_
      exact w_X8_ifSailed_45 hA C hX _ _ _ _ _ hf hP hS (lv_sub hl [1] rfl)
    · have hf := g_t hc hf
      refine lv_aload_n C.1 C.2.1 dX8_ifSailed_31 rfl (lv_at hl 1 rfl) ?_
      refine gf_X8_107 C hP dX8_ifSailed_32 ?_
      refine lv_goto (tgt := 45) C.1 C.2.1 dX8_ifSailed_35 (by decide) ?_
      exact w_X8_ifSailed_45 hA C hX _ _ _ _ _ hf hP hS (lv_sub hl [1] rfl)
  · have hf := g_t hc hf
    refine lv_bipush (v := (-2 : Int32)) C.1 C.2.1 dX8_ifSailed_9 (by decide) ?_
    obtain rfl := Option.some.inj hf
    exact u_iret C hP hS dX8_ifSailed_11
theorem c_X8_ifSailed (l : Launch) (D : va_G) (ids : Nat → ClassId) (ad : Nat → Nat) (hA : adOk ad 12) {a1 : Int32} {h : Hp} {rv : Int32 × Hp} (hf : f_X8_ifSailed h a1 = some rv) : Met l yX8_ifSailed (ws_ yX8_ifSailed cX8_ifSailed 4 (some .int)) rm_X8_ifSailed (va_Pc [.ref (ad 0), .int a1] (WB D ids (cEM ids ad) ad 12 ExM h)) (QW D (cEM ids ad) ad 12 (some (.int rv.1)) rv.2) 0 0 (inW ad 12) :=
  u_met (own := RX8) (by decide) rfl (Nat.le_of_ble_eq_true rfl) rfl (fun p e s m args below meth c H ls C hX hP hS hl => w_X8_ifSailed hA C hX _ _ _ _ _ hf hP hS hl)
