abbrev rm_X8_bestHour : Room := { frames := 5, cells := 0, slots := 0, locals := 116 }
set_option maxRecDepth 100000 in
set_option maxHeartbeats 4000000 in
theorem w_X8_bestHour_104 {p : Program} {l : Launch} {e : Env} {s : State} {m : MethodId} {args : Array Value} {below : List Frame} {meth : Method} {c : Code} {D : va_G} {ids : Nat → ClassId} {ad : Nat → Nat} {rv : Int32 × Hp} (hA : adOk ad 12) (C : CX p s m args meth c cX8_bestHour 8 (some .int) RX8 D ids) (hX : ExM s s.heap) {K32 : Hp → Int32 → Int32 → Int32 → Int32 → Int32 → Int32 → Option (Int32 × Hp)} (hK32 : ∀ (h : Hp) (x1 : Int32) (x2 : Int32) (x3 : Int32) (x4 : Int32) (x5 : Int32) (x6 : Int32) (H : Heap) (locs : List Loc) (ls : Array Slot), K32 h x1 x2 x3 x4 x5 x6 = some rv → wp D (cEM ids ad) ad 12 h H → va_S (inW ad 12) s.heap H locs → lv_has ls 8 [(0, .ref (ad 0)), (1, .int x1), (2, .int x2), (3, .int x3), (4, .int x4), (5, .int x5), (6, .int x6)] → W p l e rm_X8_bestHour s m args below meth c H locs 0 0 (MQ below (QW D (cEM ids ad) ad 12 (some (.int rv.1)) rv.2) args s 0 0 (inW ad 12)) (F0 m 32 ls [])) : ∀ (h : Hp) (x1 : Int32) (x2 : Int32) (x3 : Int32) (x4 : Int32) (x5 : Int32) (x6 : Int32) (H : Heap) (locs : List Loc) (ls : Array Slot), f_X8_bestHour_104 K32 h x1 x2 x3 x4 x5 x6 = some rv → wp D (cEM ids ad) ad 12 h H → va_S (inW ad 12) s.heap H locs → lv_has ls 8 [(0, .ref (ad 0)), (1, .int x1), (2, .int x2), (3, .int x3), (4, .int x4), (5, .int x5), (6, .int x6)] → W p l e rm_X8_bestHour s m args below meth c H locs 0 0 (MQ below (QW D (cEM ids ad) ad 12 (some (.int rv.1)) rv.2) args s 0 0 (inW ad 12)) (F0 m 104 ls []) := by
  intro h x1 x2 x3 x4 x5 x6 H locs ls hf hP hS hl
  unfold f_X8_bestHour_104 at hf
  refine lv_iinc (v := (x6 + 1)) (lv' := [(6, .int (x6 + 1)), (0, .ref (ad 0)), (1, .int x1), (2, .int x2), (3, .int x3), (4, .int x4), (5, .int x5)]) C.1 C.2.1 dX8_bestHour_104 hl (k := 6) rfl (by rfl) (by decide) rfl (fun ls hl => ?_)
  refine lv_goto (tgt := 32) C.1 C.2.1 dX8_bestHour_107 (by decide) ?_
  exact hK32 _ _ _ _ _ _ _ _ _ _ hf hP hS (lv_sub hl [1, 2, 3, 4, 5, 6, 0] rfl)
set_option maxRecDepth 100000 in
set_option maxHeartbeats 4000000 in
theorem w_X8_bestHour_89 {p : Program} {l : Launch} {e : Env} {s : State} {m : MethodId} {args : Array Value} {below : List Frame} {meth : Method} {c : Code} {D : va_G} {ids : Nat → ClassId} {ad : Nat → Nat} {rv : Int32 × Hp} (hA : adOk ad 12) (C : CX p s m args meth c cX8_bestHour 8 (some .int) RX8 D ids) (hX : ExM s s.heap) {K32 : Hp → Int32 → Int32 → Int32 → Int32 → Int32 → Int32 → Option (Int32 × Hp)} (hK32 : ∀ (h : Hp) (x1 : Int32) (x2 : Int32) (x3 : Int32) (x4 : Int32) (x5 : Int32) (x6 : Int32) (H : Heap) (locs : List Loc) (ls : Array Slot), K32 h x1 x2 x3 x4 x5 x6 = some rv → wp D (cEM ids ad) ad 12 h H → va_S (inW ad 12) s.heap H locs → lv_has ls 8 [(0, .ref (ad 0)), (1, .int x1), (2, .int x2), (3, .int x3), (4, .int x4), (5, .int x5), (6, .int x6)] → W p l e rm_X8_bestHour s m args below meth c H locs 0 0 (MQ below (QW D (cEM ids ad) ad 12 (some (.int rv.1)) rv.2) args s 0 0 (inW ad 12)) (F0 m 32 ls [])) : ∀ (h : Hp) (x1 : Int32) (x2 : Int32) (x6 : Int32) (x7 : Int32) (H : Heap) (locs : List Loc) (ls : Array Slot), f_X8_bestHour_89 K32 h x1 x2 x6 x7 = some rv → wp D (cEM ids ad) ad 12 h H → va_S (inW ad 12) s.heap H locs → lv_has ls 8 [(0, .ref (ad 0)), (1, .int x1), (2, .int x2), (6, .int x6), (7, .int x7)] → W p l e rm_X8_bestHour s m args below meth c H locs 0 0 (MQ below (QW D (cEM ids ad) ad 12 (some (.int rv.1)) rv.2) args s 0 0 (inW ad 12)) (F0 m 89 ls []) := by
  intro h x1 x2 x6 x7 H locs ls hf hP hS hl
  unfold f_X8_bestHour_89 at hf
  refine lv_iload C.1 C.2.1 dX8_bestHour_89 (lv_at hl 3 rfl) ?_
  refine lv_istore_n (lv' := [(3, .int x6), (0, .ref (ad 0)), (1, .int x1), (2, .int x2), (6, .int x6), (7, .int x7)]) C.1 C.2.1 dX8_bestHour_91 rfl hl (by decide) rfl (fun ls hl => ?_)
  refine lv_iload C.1 C.2.1 dX8_bestHour_92 (lv_at hl 5 rfl) ?_
  refine lv_istore (lv' := [(4, .int x7), (3, .int x6), (0, .ref (ad 0)), (1, .int x1), (2, .int x2), (6, .int x6), (7, .int x7)]) C.1 C.2.1 dX8_bestHour_94 hl (by decide) rfl (fun ls hl => ?_)
  refine lv_aload_n C.1 C.2.1 dX8_bestHour_96 rfl (lv_at hl 2 rfl) ?_
  refine gf_X8_28 C hP dX8_bestHour_97 ?_
  refine lv_iload_n C.1 C.2.1 dX8_bestHour_100 rfl (lv_at hl 3 rfl) ?_
  obtain ⟨hg, hf⟩ := g_if hf
  refine al_m7 C hP hg dX8_bestHour_101 ?_
  refine lv_istore (lv' := [(5, .int (h 7 x1.toNatClampNeg)), (4, .int x7), (3, .int x6), (0, .ref (ad 0)), (1, .int x1), (2, .int x2), (6, .int x6), (7, .int x7)]) C.1 C.2.1 dX8_bestHour_102 hl (by decide) rfl (fun ls hl => ?_)
  exact w_X8_bestHour_104 hA C hX hK32 _ _ _ _ _ _ _ _ _ _ hf hP hS (lv_sub hl [3, 4, 5, 2, 1, 0, 6] rfl)
set_option maxRecDepth 100000 in
set_option maxHeartbeats 4000000 in
theorem w_X8_bestHour_32 {p : Program} {l : Launch} {e : Env} {s : State} {m : MethodId} {args : Array Value} {below : List Frame} {meth : Method} {c : Code} {D : va_G} {ids : Nat → ClassId} {ad : Nat → Nat} {rv : Int32 × Hp} (hA : adOk ad 12) (C : CX p s m args meth c cX8_bestHour 8 (some .int) RX8 D ids) (hX : ExM s s.heap) : ∀ (fu : Nat), ∀ (h : Hp) (x1 : Int32) (x2 : Int32) (x3 : Int32) (x4 : Int32) (x5 : Int32) (x6 : Int32) (H : Heap) (locs : List Loc) (ls : Array Slot), f_X8_bestHour_32 fu h x1 x2 x3 x4 x5 x6 = some rv → wp D (cEM ids ad) ad 12 h H → va_S (inW ad 12) s.heap H locs → lv_has ls 8 [(0, .ref (ad 0)), (1, .int x1), (2, .int x2), (3, .int x3), (4, .int x4), (5, .int x5), (6, .int x6)] → W p l e rm_X8_bestHour s m args below meth c H locs 0 0 (MQ below (QW D (cEM ids ad) ad 12 (some (.int rv.1)) rv.2) args s 0 0 (inW ad 12)) (F0 m 32 ls []) := by
  intro fu
  induction fu with
  | zero =>
    intro h x1 x2 x3 x4 x5 x6 H locs ls hf hP hS hl
    cases hf
  | succ fu ih =>
    intro h x1 x2 x3 x4 x5 x6 H locs ls hf hP hS hl
    rw [f_X8_bestHour_32_s] at hf
    refine lv_iload C.1 C.2.1 dX8_bestHour_32 (lv_at hl 6 rfl) ?_
    refine lv_bipush (v := (24 : Int32)) C.1 C.2.1 dX8_bestHour_34 (by decide) ?_
    refine lv_icmp_ge (tgt := 110) C.1 C.2.1 dX8_bestHour_36 (by decide) (fun hc => ?_) (fun hc => ?_)
    · have hf := g_t hc hf
      refine lv_aload_n C.1 C.2.1 dX8_bestHour_110 rfl (lv_at hl 0 rfl) ?_
      refine lv_iload_n C.1 C.2.1 dX8_bestHour_111 rfl (lv_at hl 1 rfl) ?_
      refine lv_iconst (v := (2 : Int32)) C.1 C.2.1 dX8_bestHour_112 (by decide) ?_
      refine lv_iload_n C.1 C.2.1 dX8_bestHour_113 rfl (lv_at hl 2 rfl) ?_
      obtain ⟨q1, eq1, hf⟩ := g_b hf
      refine cv_X8_43 hA C hX hP hS eq1 ⟨Nat.le_of_ble_eq_true rfl, Nat.le_of_ble_eq_true rfl⟩ hl.1 (Nat.le_of_ble_eq_true rfl) dX8_bestHour_114 (fun H locs hP hS => ?_)
      refine lv_iload_n C.1 C.2.1 dX8_bestHour_117 rfl (lv_at hl 3 rfl) ?_
      obtain rfl := Option.some.inj hf
      exact u_iret C hP hS dX8_bestHour_118
    · have hf := g_f hc hf
      refine lv_aload_n C.1 C.2.1 dX8_bestHour_39 rfl (lv_at hl 0 rfl) ?_
      refine lv_iload_n C.1 C.2.1 dX8_bestHour_40 rfl (lv_at hl 1 rfl) ?_
      refine lv_iconst (v := (2 : Int32)) C.1 C.2.1 dX8_bestHour_41 (by decide) ?_
      refine lv_iload C.1 C.2.1 dX8_bestHour_42 (lv_at hl 6 rfl) ?_
      obtain ⟨q2, eq2, hf⟩ := g_b hf
      refine cv_X8_43 hA C hX hP hS eq2 ⟨Nat.le_of_ble_eq_true rfl, Nat.le_of_ble_eq_true rfl⟩ hl.1 (Nat.le_of_ble_eq_true rfl) dX8_bestHour_44 (fun H locs hP hS => ?_)
      refine lv_aload_n C.1 C.2.1 dX8_bestHour_47 rfl (lv_at hl 0 rfl) ?_
      refine lv_iload_n C.1 C.2.1 dX8_bestHour_48 rfl (lv_at hl 1 rfl) ?_
      obtain ⟨q3, eq3, hf⟩ := g_b hf
      refine cv_X8_65 hA C hX hP hS eq3 ⟨Nat.le_of_ble_eq_true rfl, Nat.le_of_ble_eq_true rfl⟩ hl.1 (Nat.le_of_ble_eq_true rfl) dX8_bestHour_49 (fun H locs hP hS => ?_)
      refine lv_aload_n C.1 C.2.1 dX8_bestHour_52 rfl (lv_at hl 0 rfl) ?_
      obtain ⟨q4, eq4, hf⟩ := g_b hf
      refine cv_X8_172 hA C hX hP hS eq4 ⟨Nat.le_of_ble_eq_true rfl, Nat.le_of_ble_eq_true rfl⟩ hl.1 (Nat.le_of_ble_eq_true rfl) dX8_bestHour_53 (fun H locs hP hS => ?_)
      refine lv_istore (lv' := [(7, .int q4.1), (0, .ref (ad 0)), (1, .int x1), (2, .int x2), (3, .int x3), (4, .int x4), (5, .int x5), (6, .int x6)]) C.1 C.2.1 dX8_bestHour_56 hl (by decide) rfl (fun ls hl => ?_)
      refine lv_iload_n C.1 C.2.1 dX8_bestHour_58 rfl (lv_at hl 4 rfl) ?_
      refine lv_bipush (v := (-5 : Int32)) C.1 C.2.1 dX8_bestHour_59 (by decide) ?_
      refine lv_icmp_eq (tgt := 89) C.1 C.2.1 dX8_bestHour_61 (by decide) (fun hc => ?_) (fun hc => ?_)
      · have hf := g_t hc hf
        exact w_X8_bestHour_89 hA C hX ih _ _ _ _ _ _ _ _ hf hP hS (lv_sub hl [1, 2, 3, 7, 0] rfl)
      · have hf := g_f hc hf
        refine lv_iload C.1 C.2.1 dX8_bestHour_64 (lv_at hl 0 rfl) ?_
        refine lv_iload C.1 C.2.1 dX8_bestHour_66 (lv_at hl 5 rfl) ?_
        refine lv_icmp_lt (tgt := 89) C.1 C.2.1 dX8_bestHour_68 (by decide) (fun hc => ?_) (fun hc => ?_)
        · have hf := g_t hc hf
          exact w_X8_bestHour_89 hA C hX ih _ _ _ _ _ _ _ _ hf hP hS (lv_sub hl [1, 2, 3, 7, 0] rfl)
        · have hf := g_f hc hf
          refine lv_iload C.1 C.2.1 dX8_bestHour_71 (lv_at hl 0 rfl) ?_
          refine lv_iload C.1 C.2.1 dX8_bestHour_73 (lv_at hl 5 rfl) ?_
          refine lv_icmp_ne (tgt := 104) C.1 C.2.1 dX8_bestHour_75 (by decide) (fun hc => ?_) (fun hc => ?_)
          · have hf := g_f hc hf
            exact w_X8_bestHour_104 hA C hX ih _ _ _ _ _ _ _ _ _ _ hf hP hS (lv_sub hl [1, 2, 3, 4, 5, 6, 7] rfl)
          · have hf := g_t hc hf
            refine lv_aload_n C.1 C.2.1 dX8_bestHour_78 rfl (lv_at hl 1 rfl) ?_
            refine gf_X8_28 C hP dX8_bestHour_79 ?_
            refine lv_iload_n C.1 C.2.1 dX8_bestHour_82 rfl (lv_at hl 2 rfl) ?_
            obtain ⟨hg, hf⟩ := g_if hf
            refine al_m7 C hP hg dX8_bestHour_83 ?_
            refine lv_iload C.1 C.2.1 dX8_bestHour_84 (lv_at hl 6 rfl) ?_
            refine lv_icmp_le (tgt := 104) C.1 C.2.1 dX8_bestHour_86 (by decide) (fun hc => ?_) (fun hc => ?_)
            · have hf := g_t hc hf
              exact w_X8_bestHour_104 hA C hX ih _ _ _ _ _ _ _ _ _ _ hf hP hS (lv_sub hl [1, 2, 3, 4, 5, 6, 7] rfl)
            · have hf := g_f hc hf
              exact w_X8_bestHour_89 hA C hX ih _ _ _ _ _ _ _ _ hf hP hS (lv_sub hl [1, 2, 3, 7, 0] rfl)
set_option maxRecDepth 100000 in
set_option maxHeartbeats 4000000 in
theorem w_X8_bestHour {p : Program} {l : Launch} {e : Env} {s : State} {m : MethodId} {args : Array Value} {below : List Frame} {meth : Method} {c : Code} {D : va_G} {ids : Nat → ClassId} {ad : Nat → Nat} {rv : Int32 × Hp} (hA : adOk ad 12) (C : CX p s m args meth c cX8_bestHour 8 (some .int) RX8 D ids) (hX : ExM s s.heap) : ∀ (h : Hp) (a1 : Int32) (H : Heap) (locs : List Loc) (ls : Array Slot), f_X8_bestHour h a1 = some rv → wp D (cEM ids ad) ad 12 h H → va_S (inW ad 12) s.heap H locs → lv_has ls 8 [(0, .ref (ad 0)), (1, .int a1)] → W p l e rm_X8_bestHour s m args below meth c H locs 0 0 (MQ below (QW D (cEM ids ad) ad 12 (some (.int rv.1)) rv.2) args s 0 0 (inW ad 12)) (F0 m 0 ls []) := by
  intro h a1 H locs ls hf hP hS hl
  unfold f_X8_bestHour at hf
  refine lv_iload_n C.1 C.2.1 dX8_bestHour_0 rfl (lv_at hl 1 rfl) ?_
  obtain ⟨q1, eq1, hf⟩ := g_b hf
  refine cv_X8_119 hA C hX hP hS eq1 ⟨Nat.le_of_ble_eq_true rfl, Nat.le_of_ble_eq_true rfl⟩ hl.1 (Nat.le_of_ble_eq_true rfl) dX8_bestHour_1 (fun H locs hP hS => ?_)
  refine lv_if_ne (tgt := 9) C.1 C.2.1 dX8_bestHour_4 (by decide) (fun hc => ?_) (fun hc => ?_)
  · have hf := g_f hc hf
    refine lv_aload_n C.1 C.2.1 dX8_bestHour_9 rfl (lv_at hl 0 rfl) ?_
    refine lv_iload_n C.1 C.2.1 dX8_bestHour_10 rfl (lv_at hl 1 rfl) ?_
    refine lv_iconst (v := (2 : Int32)) C.1 C.2.1 dX8_bestHour_11 (by decide) ?_
    obtain ⟨q2, eq2, hf⟩ := g_b hf
    refine cv_X8_55 hA C hX hP hS eq2 ⟨Nat.le_of_ble_eq_true rfl, Nat.le_of_ble_eq_true rfl⟩ hl.1 (Nat.le_of_ble_eq_true rfl) dX8_bestHour_12 (fun H locs hP hS => ?_)
    refine lv_istore_n (lv' := [(2, .int q2.1), (0, .ref (ad 0)), (1, .int a1)]) C.1 C.2.1 dX8_bestHour_15 rfl hl (by decide) rfl (fun ls hl => ?_)
    refine lv_bipush (v := (-5 : Int32)) C.1 C.2.1 dX8_bestHour_16 (by decide) ?_
    refine lv_istore_n (lv' := [(3, .int (-5 : Int32)), (2, .int q2.1), (0, .ref (ad 0)), (1, .int a1)]) C.1 C.2.1 dX8_bestHour_18 rfl hl (by decide) rfl (fun ls hl => ?_)
    refine lv_iconst (v := (0 : Int32)) C.1 C.2.1 dX8_bestHour_19 (by decide) ?_
    refine lv_istore (lv' := [(4, .int (0 : Int32)), (3, .int (-5 : Int32)), (2, .int q2.1), (0, .ref (ad 0)), (1, .int a1)]) C.1 C.2.1 dX8_bestHour_20 hl (by decide) rfl (fun ls hl => ?_)
    refine lv_iconst (v := (0 : Int32)) C.1 C.2.1 dX8_bestHour_22 (by decide) ?_
    refine lv_istore (lv' := [(5, .int (0 : Int32)), (4, .int (0 : Int32)), (3, .int (-5 : Int32)), (2, .int q2.1), (0, .ref (ad 0)), (1, .int a1)]) C.1 C.2.1 dX8_bestHour_23 hl (by decide) rfl (fun ls hl => ?_)
    refine lv_aload_n C.1 C.2.1 dX8_bestHour_25 rfl (lv_at hl 4 rfl) ?_
    obtain ⟨q3, eq3, hf⟩ := g_b hf
    refine cv_X8_110 hA C hX hP hS eq3 ⟨Nat.le_of_ble_eq_true rfl, Nat.le_of_ble_eq_true rfl⟩ hl.1 (Nat.le_of_ble_eq_true rfl) dX8_bestHour_26 (fun H locs hP hS => ?_)
    refine lv_iconst (v := (0 : Int32)) C.1 C.2.1 dX8_bestHour_29 (by decide) ?_
    refine lv_istore (lv' := [(6, .int (0 : Int32)), (5, .int (0 : Int32)), (4, .int (0 : Int32)), (3, .int (-5 : Int32)), (2, .int q2.1), (0, .ref (ad 0)), (1, .int a1)]) C.1 C.2.1 dX8_bestHour_30 hl (by decide) rfl (fun ls hl => ?_)
    exact w_X8_bestHour_32 hA C hX _ _ _ _ _ _ _ _ _ _ _ hf hP hS (lv_sub hl [5, 6, 4, 3, 2, 1, 0] rfl)
  · have hf := g_t hc hf
    refine lv_iconst (v := (-1 : Int32)) C.1 C.2.1 dX8_bestHour_7 (by decide) ?_
    obtain rfl := Option.some.inj hf
    exact u_iret C hP hS dX8_bestHour_8
theorem c_X8_bestHour (l : Launch) (D : va_G) (ids : Nat → ClassId) (ad : Nat → Nat) (hA : adOk ad 12) {a1 : Int32} {h : Hp} {rv : Int32 × Hp} (hf : f_X8_bestHour h a1 = some rv) : Met l yX8_bestHour (ws_ yX8_bestHour cX8_bestHour 8 (some .int)) rm_X8_bestHour (va_Pc [.ref (ad 0), .int a1] (WB D ids (cEM ids ad) ad 12 ExM h)) (QW D (cEM ids ad) ad 12 (some (.int rv.1)) rv.2) 0 0 (inW ad 12) :=
  u_met (own := RX8) (by decide) rfl (Nat.le_of_ble_eq_true rfl) rfl (fun p e s m args below meth c H ls C hX hP hS hl => w_X8_bestHour hA C hX _ _ _ _ _ hf hP hS hl)
abbrev rm_X8_bestPhase : Room := { frames := 6, cells := 0, slots := 0, locals := 140 }
set_option maxRecDepth 100000 in
set_option maxHeartbeats 4000000 in
theorem w_X8_bestPhase_75 {p : Program} {l : Launch} {e : Env} {s : State} {m : MethodId} {args : Array Value} {below : List Frame} {meth : Method} {c : Code} {D : va_G} {ids : Nat → ClassId} {ad : Nat → Nat} {rv : Int32 × Hp} (hA : adOk ad 12) (C : CX p s m args meth c cX8_bestPhase 7 (some .int) RX8 D ids) (hX : ExM s s.heap) {K21 : Hp → Int32 → Int32 → Int32 → Int32 → Option (Int32 × Hp)} (hK21 : ∀ (h : Hp) (x1 : Int32) (x2 : Int32) (x3 : Int32) (x4 : Int32) (H : Heap) (locs : List Loc) (ls : Array Slot), K21 h x1 x2 x3 x4 = some rv → wp D (cEM ids ad) ad 12 h H → va_S (inW ad 12) s.heap H locs → lv_has ls 7 [(0, .ref (ad 0)), (1, .int x1), (2, .int x2), (3, .int x3), (4, .int x4)] → W p l e rm_X8_bestPhase s m args below meth c H locs 0 0 (MQ below (QW D (cEM ids ad) ad 12 (some (.int rv.1)) rv.2) args s 0 0 (inW ad 12)) (F0 m 21 ls [])) : ∀ (h : Hp) (x1 : Int32) (x2 : Int32) (x3 : Int32) (x4 : Int32) (H : Heap) (locs : List Loc) (ls : Array Slot), f_X8_bestPhase_75 K21 h x1 x2 x3 x4 = some rv → wp D (cEM ids ad) ad 12 h H → va_S (inW ad 12) s.heap H locs → lv_has ls 7 [(0, .ref (ad 0)), (1, .int x1), (2, .int x2), (3, .int x3), (4, .int x4)] → W p l e rm_X8_bestPhase s m args below meth c H locs 0 0 (MQ below (QW D (cEM ids ad) ad 12 (some (.int rv.1)) rv.2) args s 0 0 (inW ad 12)) (F0 m 75 ls []) := by
  intro h x1 x2 x3 x4 H locs ls hf hP hS hl
  unfold f_X8_bestPhase_75 at hf
  refine lv_aload_n C.1 C.2.1 dX8_bestPhase_75 rfl (lv_at hl 0 rfl) ?_
  obtain ⟨q1, eq1, hf⟩ := g_b hf
  refine cv_X8_181 hA C hX hP hS eq1 ⟨Nat.le_of_ble_eq_true rfl, Nat.le_of_ble_eq_true rfl⟩ hl.1 (Nat.le_of_ble_eq_true rfl) dX8_bestPhase_76 (fun H locs hP hS => ?_)
  refine lv_iinc (v := (x4 + 1)) (lv' := [(4, .int (x4 + 1)), (0, .ref (ad 0)), (1, .int x1), (2, .int x2), (3, .int x3)]) C.1 C.2.1 dX8_bestPhase_79 hl (k := 4) rfl (by rfl) (by decide) rfl (fun ls hl => ?_)
  refine lv_goto (tgt := 21) C.1 C.2.1 dX8_bestPhase_82 (by decide) ?_
  exact hK21 _ _ _ _ _ _ _ _ hf hP hS (lv_sub hl [1, 2, 3, 4, 0] rfl)
set_option maxRecDepth 100000 in
set_option maxHeartbeats 4000000 in
theorem w_X8_bestPhase_69 {p : Program} {l : Launch} {e : Env} {s : State} {m : MethodId} {args : Array Value} {below : List Frame} {meth : Method} {c : Code} {D : va_G} {ids : Nat → ClassId} {ad : Nat → Nat} {rv : Int32 × Hp} (hA : adOk ad 12) (C : CX p s m args meth c cX8_bestPhase 7 (some .int) RX8 D ids) (hX : ExM s s.heap) {K21 : Hp → Int32 → Int32 → Int32 → Int32 → Option (Int32 × Hp)} (hK21 : ∀ (h : Hp) (x1 : Int32) (x2 : Int32) (x3 : Int32) (x4 : Int32) (H : Heap) (locs : List Loc) (ls : Array Slot), K21 h x1 x2 x3 x4 = some rv → wp D (cEM ids ad) ad 12 h H → va_S (inW ad 12) s.heap H locs → lv_has ls 7 [(0, .ref (ad 0)), (1, .int x1), (2, .int x2), (3, .int x3), (4, .int x4)] → W p l e rm_X8_bestPhase s m args below meth c H locs 0 0 (MQ below (QW D (cEM ids ad) ad 12 (some (.int rv.1)) rv.2) args s 0 0 (inW ad 12)) (F0 m 21 ls [])) : ∀ (h : Hp) (x1 : Int32) (x4 : Int32) (x6 : Int32) (H : Heap) (locs : List Loc) (ls : Array Slot), f_X8_bestPhase_69 K21 h x1 x4 x6 = some rv → wp D (cEM ids ad) ad 12 h H → va_S (inW ad 12) s.heap H locs → lv_has ls 7 [(0, .ref (ad 0)), (1, .int x1), (4, .int x4), (6, .int x6)] → W p l e rm_X8_bestPhase s m args below meth c H locs 0 0 (MQ below (QW D (cEM ids ad) ad 12 (some (.int rv.1)) rv.2) args s 0 0 (inW ad 12)) (F0 m 69 ls []) := by
  intro h x1 x4 x6 H locs ls hf hP hS hl
  unfold f_X8_bestPhase_69 at hf
  refine lv_iload C.1 C.2.1 dX8_bestPhase_69 (lv_at hl 2 rfl) ?_
  refine lv_istore_n (lv' := [(2, .int x4), (0, .ref (ad 0)), (1, .int x1), (4, .int x4), (6, .int x6)]) C.1 C.2.1 dX8_bestPhase_71 rfl hl (by decide) rfl (fun ls hl => ?_)
  refine lv_iload C.1 C.2.1 dX8_bestPhase_72 (lv_at hl 4 rfl) ?_
  refine lv_istore_n (lv' := [(3, .int x6), (2, .int x4), (0, .ref (ad 0)), (1, .int x1), (4, .int x4), (6, .int x6)]) C.1 C.2.1 dX8_bestPhase_74 rfl hl (by decide) rfl (fun ls hl => ?_)
  exact w_X8_bestPhase_75 hA C hX hK21 _ _ _ _ _ _ _ _ hf hP hS (lv_sub hl [2, 3, 1, 0, 4] rfl)
set_option maxRecDepth 100000 in
set_option maxHeartbeats 4000000 in
theorem w_X8_bestPhase_21 {p : Program} {l : Launch} {e : Env} {s : State} {m : MethodId} {args : Array Value} {below : List Frame} {meth : Method} {c : Code} {D : va_G} {ids : Nat → ClassId} {ad : Nat → Nat} {rv : Int32 × Hp} (hA : adOk ad 12) (C : CX p s m args meth c cX8_bestPhase 7 (some .int) RX8 D ids) (hX : ExM s s.heap) : ∀ (fu : Nat), ∀ (h : Hp) (x1 : Int32) (x2 : Int32) (x3 : Int32) (x4 : Int32) (H : Heap) (locs : List Loc) (ls : Array Slot), f_X8_bestPhase_21 fu h x1 x2 x3 x4 = some rv → wp D (cEM ids ad) ad 12 h H → va_S (inW ad 12) s.heap H locs → lv_has ls 7 [(0, .ref (ad 0)), (1, .int x1), (2, .int x2), (3, .int x3), (4, .int x4)] → W p l e rm_X8_bestPhase s m args below meth c H locs 0 0 (MQ below (QW D (cEM ids ad) ad 12 (some (.int rv.1)) rv.2) args s 0 0 (inW ad 12)) (F0 m 21 ls []) := by
  intro fu
  induction fu with
  | zero =>
    intro h x1 x2 x3 x4 H locs ls hf hP hS hl
    cases hf
  | succ fu ih =>
    intro h x1 x2 x3 x4 H locs ls hf hP hS hl
    rw [f_X8_bestPhase_21_s] at hf
    refine lv_iload C.1 C.2.1 dX8_bestPhase_21 (lv_at hl 4 rfl) ?_
    refine lv_bipush (v := (12 : Int32)) C.1 C.2.1 dX8_bestPhase_23 (by decide) ?_
    refine lv_icmp_ge (tgt := 85) C.1 C.2.1 dX8_bestPhase_25 (by decide) (fun hc => ?_) (fun hc => ?_)
    · have hf := g_t hc hf
      refine lv_iload_n C.1 C.2.1 dX8_bestPhase_85 rfl (lv_at hl 2 rfl) ?_
      obtain rfl := Option.some.inj hf
      exact u_iret C hP hS dX8_bestPhase_86
    · have hf := g_f hc hf
      refine lv_aload_n C.1 C.2.1 dX8_bestPhase_28 rfl (lv_at hl 0 rfl) ?_
      refine lv_iload_n C.1 C.2.1 dX8_bestPhase_29 rfl (lv_at hl 1 rfl) ?_
      refine lv_iconst (v := (0 : Int32)) C.1 C.2.1 dX8_bestPhase_30 (by decide) ?_
      refine lv_iload C.1 C.2.1 dX8_bestPhase_31 (lv_at hl 4 rfl) ?_
      obtain ⟨q1, eq1, hf⟩ := g_b hf
      refine cv_X8_43 hA C hX hP hS eq1 ⟨Nat.le_of_ble_eq_true rfl, Nat.le_of_ble_eq_true rfl⟩ hl.1 (Nat.le_of_ble_eq_true rfl) dX8_bestPhase_33 (fun H locs hP hS => ?_)
      refine lv_aload_n C.1 C.2.1 dX8_bestPhase_36 rfl (lv_at hl 0 rfl) ?_
      refine lv_iconst (v := (4 : Int32)) C.1 C.2.1 dX8_bestPhase_37 (by decide) ?_
      obtain ⟨q2, eq2, hf⟩ := g_b hf
      refine cv_X8_136 hA C hX hP hS eq2 ⟨Nat.le_of_ble_eq_true rfl, Nat.le_of_ble_eq_true rfl⟩ hl.1 (Nat.le_of_ble_eq_true rfl) dX8_bestPhase_38 (fun H locs hP hS => ?_)
      refine lv_istore (lv' := [(5, .int q2.1), (0, .ref (ad 0)), (1, .int x1), (2, .int x2), (3, .int x3), (4, .int x4)]) C.1 C.2.1 dX8_bestPhase_41 hl (by decide) rfl (fun ls hl => ?_)
      refine lv_aload_n C.1 C.2.1 dX8_bestPhase_43 rfl (lv_at hl 1 rfl) ?_
      obtain ⟨q3, eq3, hf⟩ := g_b hf
      refine cv_X8_139 hA C hX hP hS eq3 ⟨Nat.le_of_ble_eq_true rfl, Nat.le_of_ble_eq_true rfl⟩ hl.1 (Nat.le_of_ble_eq_true rfl) dX8_bestPhase_44 (fun H locs hP hS => ?_)
      refine lv_aload_n C.1 C.2.1 dX8_bestPhase_47 rfl (lv_at hl 1 rfl) ?_
      refine lv_iconst (v := (4 : Int32)) C.1 C.2.1 dX8_bestPhase_48 (by decide) ?_
      obtain ⟨q4, eq4, hf⟩ := g_b hf
      refine cv_X8_136 hA C hX hP hS eq4 ⟨Nat.le_of_ble_eq_true rfl, Nat.le_of_ble_eq_true rfl⟩ hl.1 (Nat.le_of_ble_eq_true rfl) dX8_bestPhase_49 (fun H locs hP hS => ?_)
      refine lv_iload C.1 C.2.1 dX8_bestPhase_52 (lv_at hl 0 rfl) ?_
      refine lv_isub C.1 C.2.1 dX8_bestPhase_54 ?_
      refine lv_istore (lv' := [(6, .int (q4.1 - q2.1)), (5, .int q2.1), (0, .ref (ad 0)), (1, .int x1), (2, .int x2), (3, .int x3), (4, .int x4)]) C.1 C.2.1 dX8_bestPhase_55 hl (by decide) rfl (fun ls hl => ?_)
      refine lv_iload_n C.1 C.2.1 dX8_bestPhase_57 rfl (lv_at hl 4 rfl) ?_
      refine lv_bipush (v := (-5 : Int32)) C.1 C.2.1 dX8_bestPhase_58 (by decide) ?_
      refine lv_icmp_eq (tgt := 69) C.1 C.2.1 dX8_bestPhase_60 (by decide) (fun hc => ?_) (fun hc => ?_)
      · have hf := g_t hc hf
        exact w_X8_bestPhase_69 hA C hX ih _ _ _ _ _ _ _ hf hP hS (lv_sub hl [2, 3, 6, 0] rfl)
      · have hf := g_f hc hf
        refine lv_iload C.1 C.2.1 dX8_bestPhase_63 (lv_at hl 0 rfl) ?_
        refine lv_iload_n C.1 C.2.1 dX8_bestPhase_65 rfl (lv_at hl 5 rfl) ?_
        refine lv_icmp_le (tgt := 75) C.1 C.2.1 dX8_bestPhase_66 (by decide) (fun hc => ?_) (fun hc => ?_)
        · have hf := g_t hc hf
          exact w_X8_bestPhase_75 hA C hX ih _ _ _ _ _ _ _ _ hf hP hS (lv_sub hl [2, 3, 4, 5, 6] rfl)
        · have hf := g_f hc hf
          exact w_X8_bestPhase_69 hA C hX ih _ _ _ _ _ _ _ hf hP hS (lv_sub hl [2, 3, 6, 0] rfl)
set_option maxRecDepth 100000 in
set_option maxHeartbeats 4000000 in
theorem w_X8_bestPhase {p : Program} {l : Launch} {e : Env} {s : State} {m : MethodId} {args : Array Value} {below : List Frame} {meth : Method} {c : Code} {D : va_G} {ids : Nat → ClassId} {ad : Nat → Nat} {rv : Int32 × Hp} (hA : adOk ad 12) (C : CX p s m args meth c cX8_bestPhase 7 (some .int) RX8 D ids) (hX : ExM s s.heap) : ∀ (h : Hp) (a1 : Int32) (H : Heap) (locs : List Loc) (ls : Array Slot), f_X8_bestPhase h a1 = some rv → wp D (cEM ids ad) ad 12 h H → va_S (inW ad 12) s.heap H locs → lv_has ls 7 [(0, .ref (ad 0)), (1, .int a1)] → W p l e rm_X8_bestPhase s m args below meth c H locs 0 0 (MQ below (QW D (cEM ids ad) ad 12 (some (.int rv.1)) rv.2) args s 0 0 (inW ad 12)) (F0 m 0 ls []) := by
  intro h a1 H locs ls hf hP hS hl
  unfold f_X8_bestPhase at hf
  refine lv_iload_n C.1 C.2.1 dX8_bestPhase_0 rfl (lv_at hl 1 rfl) ?_
  obtain ⟨q1, eq1, hf⟩ := g_b hf
  refine cv_X8_119 hA C hX hP hS eq1 ⟨Nat.le_of_ble_eq_true rfl, Nat.le_of_ble_eq_true rfl⟩ hl.1 (Nat.le_of_ble_eq_true rfl) dX8_bestPhase_1 (fun H locs hP hS => ?_)
  refine lv_if_ne (tgt := 9) C.1 C.2.1 dX8_bestPhase_4 (by decide) (fun hc => ?_) (fun hc => ?_)
  · have hf := g_f hc hf
    refine lv_bipush (v := (-5 : Int32)) C.1 C.2.1 dX8_bestPhase_9 (by decide) ?_
    refine lv_istore_n (lv' := [(2, .int (-5 : Int32)), (0, .ref (ad 0)), (1, .int a1)]) C.1 C.2.1 dX8_bestPhase_11 rfl hl (by decide) rfl (fun ls hl => ?_)
    refine lv_iconst (v := (0 : Int32)) C.1 C.2.1 dX8_bestPhase_12 (by decide) ?_
    refine lv_istore_n (lv' := [(3, .int (0 : Int32)), (2, .int (-5 : Int32)), (0, .ref (ad 0)), (1, .int a1)]) C.1 C.2.1 dX8_bestPhase_13 rfl hl (by decide) rfl (fun ls hl => ?_)
    refine lv_aload_n C.1 C.2.1 dX8_bestPhase_14 rfl (lv_at hl 2 rfl) ?_
    obtain ⟨q2, eq2, hf⟩ := g_b hf
    refine cv_X8_175 hA C hX hP hS eq2 ⟨Nat.le_of_ble_eq_true rfl, Nat.le_of_ble_eq_true rfl⟩ hl.1 (Nat.le_of_ble_eq_true rfl) dX8_bestPhase_15 (fun H locs hP hS => ?_)
    refine lv_iconst (v := (0 : Int32)) C.1 C.2.1 dX8_bestPhase_18 (by decide) ?_
    refine lv_istore (lv' := [(4, .int (0 : Int32)), (3, .int (0 : Int32)), (2, .int (-5 : Int32)), (0, .ref (ad 0)), (1, .int a1)]) C.1 C.2.1 dX8_bestPhase_19 hl (by decide) rfl (fun ls hl => ?_)
    exact w_X8_bestPhase_21 hA C hX _ _ _ _ _ _ _ _ _ hf hP hS (lv_sub hl [3, 4, 2, 1, 0] rfl)
  · have hf := g_t hc hf
    refine lv_iconst (v := (-1 : Int32)) C.1 C.2.1 dX8_bestPhase_7 (by decide) ?_
    obtain rfl := Option.some.inj hf
    exact u_iret C hP hS dX8_bestPhase_8
theorem c_X8_bestPhase (l : Launch) (D : va_G) (ids : Nat → ClassId) (ad : Nat → Nat) (hA : adOk ad 12) {a1 : Int32} {h : Hp} {rv : Int32 × Hp} (hf : f_X8_bestPhase h a1 = some rv) : Met l yX8_bestPhase (ws_ yX8_bestPhase cX8_bestPhase 7 (some .int)) rm_X8_bestPhase (va_Pc [.ref (ad 0), .int a1] (WB D ids (cEM ids ad) ad 12 ExM h)) (QW D (cEM ids ad) ad 12 (some (.int rv.1)) rv.2) 0 0 (inW ad 12) :=
  u_met (own := RX8) (by decide) rfl (Nat.le_of_ble_eq_true rfl) rfl (fun p e s m args below meth c H ls C hX hP hS hl => w_X8_bestPhase hA C hX _ _ _ _ _ hf hP hS hl)
