theorem cv_X8_103 {p : Program} {l : Launch} {e : Env} {R : Room} {s : State} {m : MethodId} {args : Array Value} {below : List Frame} {meth : Method} {c : Code} {H : Heap} {locs : List Loc} {Q : State → Prop} {cc : ByteArray} {nL : Nat} {ret : Option FieldType} {pc : Nat} {ls : Array Slot} {rest : List Value} {D : va_G} {ids : Nat → ClassId} {ad : Nat → Nat} {h : Hp} (hA : adOk ad 12) (C : CX p s m args meth c cc nL ret RX8 D ids) (hX : ExM s s.heap) (hP : wp D (cEM ids ad) ad 12 h H) (hS : va_S (inW ad 12) s.heap H locs) {a1 : Int32} {a2 : Int32} {a3 : Int32} {rv : Hp} (hf : f_X8_givePier h a1 a2 a3 = some rv) (hR : 3 + 1 ≤ R.frames ∧ 8 + (7 + 11) + 68 ≤ R.locals) (hsz : ls.size = nL) (hcat : (rest.map fun v => v.category).sum ≤ 8) (hdg : decode cc pc = .ok (.invokevirtual 103, 3)) (kk : ∀ (H1 : Heap) (locs1 : List Loc), wp D (cEM ids ad) ad 12 rv H1 → va_S (inW ad 12) s.heap H1 locs1 → W p l e R s m args below meth c H1 locs1 0 0 Q (F0 m (pc + 3) ls (rest))) : W p l e R s m args below meth c H locs 0 0 Q (F0 m pc ls (.int a3 :: .int a2 :: .int a1 :: .ref (ad 0) :: rest)) :=
  u_callV (As := [.int a1, .int a2, .int a3]) (rv := none) C exM_ok hX (c_X8_givePier l D ids ad hA hf) q_460 q_461 q_462 q_5 q_463 ⟨rfl, rfl⟩ (by refine ⟨by decide +kernel, by decide +kernel, ?_⟩; show _ = some 3; decide +kernel) hR (by decide) (cE_X8 _) rfl hP hS hsz hcat rfl hdg kk
theorem cv_X8_96 {p : Program} {l : Launch} {e : Env} {R : Room} {s : State} {m : MethodId} {args : Array Value} {below : List Frame} {meth : Method} {c : Code} {H : Heap} {locs : List Loc} {Q : State → Prop} {cc : ByteArray} {nL : Nat} {ret : Option FieldType} {pc : Nat} {ls : Array Slot} {rest : List Value} {D : va_G} {ids : Nat → ClassId} {ad : Nat → Nat} {h : Hp} (hA : adOk ad 12) (C : CX p s m args meth c cc nL ret RX8 D ids) (hX : ExM s s.heap) (hP : wp D (cEM ids ad) ad 12 h H) (hS : va_S (inW ad 12) s.heap H locs) {a1 : Int32} {a2 : Int32} {rv : Int32 × Hp} (hf : f_X8_wants h a1 a2 = some rv) (hR : 1 + 1 ≤ R.frames ∧ 8 + (3 + 11) + 22 ≤ R.locals) (hsz : ls.size = nL) (hcat : (rest.map fun v => v.category).sum ≤ 8) (hdg : decode cc pc = .ok (.invokevirtual 96, 3)) (kk : ∀ (H1 : Heap) (locs1 : List Loc), wp D (cEM ids ad) ad 12 rv.2 H1 → va_S (inW ad 12) s.heap H1 locs1 → W p l e R s m args below meth c H1 locs1 0 0 Q (F0 m (pc + 3) ls (.int rv.1 :: rest))) : W p l e R s m args below meth c H locs 0 0 Q (F0 m pc ls (.int a2 :: .int a1 :: .ref (ad 0) :: rest)) :=
  u_callV (As := [.int a1, .int a2]) (rv := (some (.int rv.1))) C exM_ok hX (c_X8_wants l D ids ad hA hf) q_444 q_445 q_446 q_5 q_447 ⟨rfl, rfl⟩ (by refine ⟨by decide +kernel, by decide +kernel, ?_⟩; show _ = some 2; decide +kernel) hR (by decide) (cE_X8 _) rfl hP hS hsz hcat rfl hdg kk
theorem cv_X8_100 {p : Program} {l : Launch} {e : Env} {R : Room} {s : State} {m : MethodId} {args : Array Value} {below : List Frame} {meth : Method} {c : Code} {H : Heap} {locs : List Loc} {Q : State → Prop} {cc : ByteArray} {nL : Nat} {ret : Option FieldType} {pc : Nat} {ls : Array Slot} {rest : List Value} {D : va_G} {ids : Nat → ClassId} {ad : Nat → Nat} {h : Hp} (hA : adOk ad 12) (C : CX p s m args meth c cc nL ret RX8 D ids) (hX : ExM s s.heap) (hP : wp D (cEM ids ad) ad 12 h H) (hS : va_S (inW ad 12) s.heap H locs) {a1 : Int32} {a2 : Int32} {a3 : Int32} {rv : Int32 × Hp} (hf : f_X8_isThere h a1 a2 a3 = some rv) (hR : 0 + 1 ≤ R.frames ∧ 8 + (4 + 11) + 0 ≤ R.locals) (hsz : ls.size = nL) (hcat : (rest.map fun v => v.category).sum ≤ 8) (hdg : decode cc pc = .ok (.invokevirtual 100, 3)) (kk : ∀ (H1 : Heap) (locs1 : List Loc), wp D (cEM ids ad) ad 12 rv.2 H1 → va_S (inW ad 12) s.heap H1 locs1 → W p l e R s m args below meth c H1 locs1 0 0 Q (F0 m (pc + 3) ls (.int rv.1 :: rest))) : W p l e R s m args below meth c H locs 0 0 Q (F0 m pc ls (.int a3 :: .int a2 :: .int a1 :: .ref (ad 0) :: rest)) :=
  u_callV (As := [.int a1, .int a2, .int a3]) (rv := (some (.int rv.1))) C exM_ok hX (c_X8_isThere l D ids ad hA hf) q_456 q_457 q_458 q_5 q_459 ⟨rfl, rfl⟩ (by refine ⟨by decide +kernel, by decide +kernel, ?_⟩; show _ = some 3; decide +kernel) hR (by decide) (cE_X8 _) rfl hP hS hsz hcat rfl hdg kk
theorem gf_X8_40 {p : Program} {l : Launch} {e : Env} {R : Room} {s : State} {m : MethodId} {args : Array Value} {below : List Frame} {meth : Method} {c : Code} {H : Heap} {locs : List Loc} {cells slots : Nat} {Q : State → Prop} {cc : ByteArray} {nL : Nat} {ret : Option FieldType} {pc : Nat} {ls : Array Slot} {rest : List Value} {D : va_G} {ids : Nat → ClassId} {ad : Nat → Nat} {h : Hp} (C : CX p s m args meth c cc nL ret RX8 D ids) (hP : wp D (cEM ids ad) ad 12 h H) (hdg : decode cc pc = .ok (.getfield 40, 3)) (kk : W p l e R s m args below meth c H locs cells slots Q (F0 m (pc + 3) ls (.ref (ad 11) :: rest))) : W p l e R s m args below meth c H locs cells slots Q (F0 m pc ls (.ref (ad 0) :: rest)) :=
  u_get C hP (by decide) cE_X8 rfl inX8 10 (by decide) rfl q_124 hdg kk
theorem al_m11 {p : Program} {l : Launch} {e : Env} {R : Room} {s : State} {m : MethodId} {args : Array Value} {below : List Frame} {meth : Method} {c : Code} {H : Heap} {locs : List Loc} {cells slots : Nat} {Q : State → Prop} {cc : ByteArray} {nL : Nat} {ret : Option FieldType} {own : String} {pc : Nat} {ls : Array Slot} {rest : List Value} {D : va_G} {ids : Nat → ClassId} {ad : Nat → Nat} {h : Hp} (C : CX p s m args meth c cc nL ret own D ids) (hP : wp D (cEM ids ad) ad 12 h H) {i : Int32} (hg : inb i 3 = true) (hdg : decode cc pc = .ok (.iaload, 1)) (kk : W p l e R s m args below meth c H locs cells slots Q (F0 m (pc + 1) ls (.int (h 11 i.toNatClampNeg) :: rest))) : W p l e R s m args below meth c H locs cells slots Q (F0 m pc ls (.int i :: .ref (ad 11) :: rest)) :=
  u_iald C hP (by decide) cE_m11 hg hdg kk
theorem as_m11 {p : Program} {l : Launch} {e : Env} {R : Room} {s : State} {m : MethodId} {args : Array Value} {below : List Frame} {meth : Method} {c : Code} {H : Heap} {locs : List Loc} {cells slots : Nat} {Q : State → Prop} {cc : ByteArray} {nL : Nat} {ret : Option FieldType} {own : String} {pc : Nat} {ls : Array Slot} {rest : List Value} {D : va_G} {ids : Nat → ClassId} {ad : Nat → Nat} {h : Hp} {i x : Int32} (hA : adOk ad 12) (C : CX p s m args meth c cc nL ret own D ids) (hP : wp D (cEM ids ad) ad 12 h H) (hS : va_S (inW ad 12) s.heap H locs) (hg : inb i 3 = true) (hdg : decode cc pc = .ok (.iastore, 1)) (kk : ∀ (H1 : Heap) (locs1 : List Loc), wp D (cEM ids ad) ad 12 (hs h 11 i.toNatClampNeg x) H1 → va_S (inW ad 12) s.heap H1 locs1 → W p l e R s m args below meth c H1 locs1 cells slots Q (F0 m (pc + 1) ls rest)) : W p l e R s m args below meth c H locs cells slots Q (F0 m pc ls (.int x :: .int i :: .ref (ad 11) :: rest)) :=
  u_iast hA C hP hS (by decide) cE_m11 hg hdg kk
abbrev rm_X8_goOn : Room := { frames := 4, cells := 0, slots := 0, locals := 94 }
set_option maxRecDepth 100000 in
set_option maxHeartbeats 4000000 in
theorem w_X8_goOn_120 {p : Program} {l : Launch} {e : Env} {s : State} {m : MethodId} {args : Array Value} {below : List Frame} {meth : Method} {c : Code} {D : va_G} {ids : Nat → ClassId} {ad : Nat → Nat} {rv : Hp} (hA : adOk ad 12) (C : CX p s m args meth c cX8_goOn 6 none RX8 D ids) (hX : ExM s s.heap) {K10 : Hp → Int32 → Int32 → Int32 → Int32 → Int32 → Option (Hp)} (hK10 : ∀ (h : Hp) (x1 : Int32) (x2 : Int32) (x3 : Int32) (x4 : Int32) (x5 : Int32) (H : Heap) (locs : List Loc) (ls : Array Slot), K10 h x1 x2 x3 x4 x5 = some rv → wp D (cEM ids ad) ad 12 h H → va_S (inW ad 12) s.heap H locs → lv_has ls 6 [(0, .ref (ad 0)), (1, .int x1), (2, .int x2), (3, .int x3), (4, .int x4), (5, .int x5)] → W p l e rm_X8_goOn s m args below meth c H locs 0 0 (MQ below (QW D (cEM ids ad) ad 12 none rv) args s 0 0 (inW ad 12)) (F0 m 10 ls [])) : ∀ (h : Hp) (x1 : Int32) (x2 : Int32) (x3 : Int32) (x4 : Int32) (x5 : Int32) (H : Heap) (locs : List Loc) (ls : Array Slot), f_X8_goOn_120 K10 h x1 x2 x3 x4 x5 = some rv → wp D (cEM ids ad) ad 12 h H → va_S (inW ad 12) s.heap H locs → lv_has ls 6 [(0, .ref (ad 0)), (1, .int x1), (2, .int x2), (3, .int x3), (4, .int x4), (5, .int x5)] → W p l e rm_X8_goOn s m args below meth c H locs 0 0 (MQ below (QW D (cEM ids ad) ad 12 none rv) args s 0 0 (inW ad 12)) (F0 m 120 ls []) := by
  intro h x1 x2 x3 x4 x5 H locs ls hf hP hS hl
  unfold f_X8_goOn_120 at hf
  refine lv_iinc (v := (x5 + 1)) (lv' := [(5, .int (x5 + 1)), (0, .ref (ad 0)), (1, .int x1), (2, .int x2), (3, .int x3), (4, .int x4)]) C.1 C.2.1 dX8_goOn_120 hl (k := 5) rfl (by rfl) (by decide) rfl (fun ls hl => ?_)
  refine lv_goto (tgt := 10) C.1 C.2.1 dX8_goOn_123 (by decide) ?_
  exact hK10 _ _ _ _ _ _ _ _ _ hf hP hS (lv_sub hl [1, 2, 3, 4, 5, 0] rfl)
set_option maxRecDepth 100000 in
set_option maxHeartbeats 4000000 in
theorem w_X8_goOn_41 {p : Program} {l : Launch} {e : Env} {s : State} {m : MethodId} {args : Array Value} {below : List Frame} {meth : Method} {c : Code} {D : va_G} {ids : Nat → ClassId} {ad : Nat → Nat} {rv : Hp} (hA : adOk ad 12) (C : CX p s m args meth c cX8_goOn 6 none RX8 D ids) (hX : ExM s s.heap) {K10 : Hp → Int32 → Int32 → Int32 → Int32 → Int32 → Option (Hp)} (hK10 : ∀ (h : Hp) (x1 : Int32) (x2 : Int32) (x3 : Int32) (x4 : Int32) (x5 : Int32) (H : Heap) (locs : List Loc) (ls : Array Slot), K10 h x1 x2 x3 x4 x5 = some rv → wp D (cEM ids ad) ad 12 h H → va_S (inW ad 12) s.heap H locs → lv_has ls 6 [(0, .ref (ad 0)), (1, .int x1), (2, .int x2), (3, .int x3), (4, .int x4), (5, .int x5)] → W p l e rm_X8_goOn s m args below meth c H locs 0 0 (MQ below (QW D (cEM ids ad) ad 12 none rv) args s 0 0 (inW ad 12)) (F0 m 10 ls [])) : ∀ (h : Hp) (x1 : Int32) (x2 : Int32) (x3 : Int32) (x4 : Int32) (x5 : Int32) (H : Heap) (locs : List Loc) (ls : Array Slot), f_X8_goOn_41 K10 h x1 x2 x3 x4 x5 = some rv → wp D (cEM ids ad) ad 12 h H → va_S (inW ad 12) s.heap H locs → lv_has ls 6 [(0, .ref (ad 0)), (1, .int x1), (2, .int x2), (3, .int x3), (4, .int x4), (5, .int x5)] → W p l e rm_X8_goOn s m args below meth c H locs 0 0 (MQ below (QW D (cEM ids ad) ad 12 none rv) args s 0 0 (inW ad 12)) (F0 m 41 ls []) := by
  intro h x1 x2 x3 x4 x5 H locs ls hf hP hS hl
  unfold f_X8_goOn_41 at hf
  refine lv_aload_n C.1 C.2.1 dX8_goOn_41 rfl (lv_at hl 0 rfl) ?_
  refine lv_iload C.1 C.2.1 dX8_goOn_42 (lv_at hl 5 rfl) ?_
  refine lv_iload_n C.1 C.2.1 dX8_goOn_44 rfl (lv_at hl 1 rfl) ?_
  obtain ⟨q1, eq1, hf⟩ := g_b hf
  refine cv_X8_96 hA C hX hP hS eq1 ⟨Nat.le_of_ble_eq_true rfl, Nat.le_of_ble_eq_true rfl⟩ hl.1 (Nat.le_of_ble_eq_true rfl) dX8_goOn_45 (fun H locs hP hS => ?_)
  refine lv_if_ne (tgt := 54) C.1 C.2.1 dX8_goOn_48 (by decide) (fun hc => ?_) (fun hc => ?_)
  · have hf := g_f hc hf
    refine lv_aload_n C.1 C.2.1 dX8_goOn_54 rfl (lv_at hl 0 rfl) ?_
    refine lv_iload C.1 C.2.1 dX8_goOn_55 (lv_at hl 5 rfl) ?_
    refine lv_aload_n C.1 C.2.1 dX8_goOn_57 rfl (lv_at hl 0 rfl) ?_
    refine gf_X8_7 C hP dX8_goOn_58 ?_
    refine lv_iconst (v := (1 : Int32)) C.1 C.2.1 dX8_goOn_61 (by decide) ?_
    obtain ⟨hg, hf⟩ := g_if hf
    refine al_m1 C hP hg dX8_goOn_62 ?_
    refine lv_iload_n C.1 C.2.1 dX8_goOn_63 rfl (lv_at hl 1 rfl) ?_
    obtain ⟨q2, eq2, hf⟩ := g_b hf
    refine cv_X8_62 hA C hX hP hS eq2 ⟨Nat.le_of_ble_eq_true rfl, Nat.le_of_ble_eq_true rfl⟩ hl.1 (Nat.le_of_ble_eq_true rfl) dX8_goOn_64 (fun H locs hP hS => ?_)
    refine lv_if_ne (tgt := 92) C.1 C.2.1 dX8_goOn_67 (by decide) (fun hc => ?_) (fun hc => ?_)
    · have hf := g_f hc hf
      refine lv_aload_n C.1 C.2.1 dX8_goOn_92 rfl (lv_at hl 0 rfl) ?_
      refine lv_iload C.1 C.2.1 dX8_goOn_93 (lv_at hl 5 rfl) ?_
      refine lv_iconst (v := (0 : Int32)) C.1 C.2.1 dX8_goOn_95 (by decide) ?_
      refine lv_iload_n C.1 C.2.1 dX8_goOn_96 rfl (lv_at hl 1 rfl) ?_
      obtain ⟨q3, eq3, hf⟩ := g_b hf
      refine cv_X8_100 hA C hX hP hS eq3 ⟨Nat.le_of_ble_eq_true rfl, Nat.le_of_ble_eq_true rfl⟩ hl.1 (Nat.le_of_ble_eq_true rfl) dX8_goOn_97 (fun H locs hP hS => ?_)
      refine lv_if_eq (tgt := 113) C.1 C.2.1 dX8_goOn_100 (by decide) (fun hc => ?_) (fun hc => ?_)
      · have hf := g_t hc hf
        refine lv_iload_n C.1 C.2.1 dX8_goOn_113 rfl (lv_at hl 3 rfl) ?_
        refine lv_iconst (v := (1 : Int32)) C.1 C.2.1 dX8_goOn_114 (by decide) ?_
        refine lv_iload C.1 C.2.1 dX8_goOn_115 (lv_at hl 5 rfl) ?_
        refine lv_ishl C.1 C.2.1 dX8_goOn_117 ?_
        refine lv_ior C.1 C.2.1 dX8_goOn_118 ?_
        refine lv_istore_n (lv' := [(3, .int (x3 ||| ((1 : Int32) <<< (x5 &&& 31)))), (0, .ref (ad 0)), (1, .int x1), (2, .int x2), (4, .int x4), (5, .int x5)]) C.1 C.2.1 dX8_goOn_119 rfl hl (by decide) rfl (fun ls hl => ?_)
        exact w_X8_goOn_120 hA C hX hK10 _ _ _ _ _ _ _ _ _ hf hP hS (lv_sub hl [1, 2, 3, 0, 4, 5] rfl)
      · have hf := g_f hc hf
        refine lv_iload_n C.1 C.2.1 dX8_goOn_103 rfl (lv_at hl 2 rfl) ?_
        refine lv_iconst (v := (1 : Int32)) C.1 C.2.1 dX8_goOn_104 (by decide) ?_
        refine lv_iload C.1 C.2.1 dX8_goOn_105 (lv_at hl 5 rfl) ?_
        refine lv_ishl C.1 C.2.1 dX8_goOn_107 ?_
        refine lv_ior C.1 C.2.1 dX8_goOn_108 ?_
        refine lv_istore_n (lv' := [(2, .int (x2 ||| ((1 : Int32) <<< (x5 &&& 31)))), (0, .ref (ad 0)), (1, .int x1), (3, .int x3), (4, .int x4), (5, .int x5)]) C.1 C.2.1 dX8_goOn_109 rfl hl (by decide) rfl (fun ls hl => ?_)
        refine lv_goto (tgt := 120) C.1 C.2.1 dX8_goOn_110 (by decide) ?_
        exact w_X8_goOn_120 hA C hX hK10 _ _ _ _ _ _ _ _ _ hf hP hS (lv_sub hl [1, 2, 0, 3, 4, 5] rfl)
    · have hf := g_t hc hf
      refine lv_aload_n C.1 C.2.1 dX8_goOn_70 rfl (lv_at hl 0 rfl) ?_
      refine lv_iload C.1 C.2.1 dX8_goOn_71 (lv_at hl 5 rfl) ?_
      refine lv_iconst (v := (5 : Int32)) C.1 C.2.1 dX8_goOn_73 (by decide) ?_
      refine lv_iconst (v := (1 : Int32)) C.1 C.2.1 dX8_goOn_74 (by decide) ?_
      obtain ⟨q4, eq4, hf⟩ := g_b hf
      refine cv_X8_85 hA C hX hP hS eq4 ⟨Nat.le_of_ble_eq_true rfl, Nat.le_of_ble_eq_true rfl⟩ hl.1 (Nat.le_of_ble_eq_true rfl) dX8_goOn_75 (fun H locs hP hS => ?_)
      refine lv_aload_n C.1 C.2.1 dX8_goOn_78 rfl (lv_at hl 0 rfl) ?_
      refine gf_X8_40 C hP dX8_goOn_79 ?_
      refine lv_iload C.1 C.2.1 dX8_goOn_82 (lv_at hl 5 rfl) ?_
      refine lv_dup2_11 C.1 C.2.1 dX8_goOn_84 rfl rfl ?_
      obtain ⟨hg, hf⟩ := g_if hf
      refine al_m11 C hP hg dX8_goOn_85 ?_
      refine lv_iconst (v := (1 : Int32)) C.1 C.2.1 dX8_goOn_86 (by decide) ?_
      refine lv_iadd C.1 C.2.1 dX8_goOn_87 ?_
      obtain ⟨hg, hf⟩ := g_if hf
      refine as_m11 hA C hP hS hg dX8_goOn_88 (fun H locs hP hS => ?_)
      refine lv_goto (tgt := 120) C.1 C.2.1 dX8_goOn_89 (by decide) ?_
      exact w_X8_goOn_120 hA C hX hK10 _ _ _ _ _ _ _ _ _ hf hP hS (lv_sub hl [0, 1, 2, 3, 4, 5] rfl)
  · have hf := g_t hc hf
    refine lv_goto (tgt := 120) C.1 C.2.1 dX8_goOn_51 (by decide) ?_
    exact w_X8_goOn_120 hA C hX hK10 _ _ _ _ _ _ _ _ _ hf hP hS (lv_sub hl [0, 1, 2, 3, 4, 5] rfl)
set_option maxRecDepth 100000 in
set_option maxHeartbeats 4000000 in
theorem w_X8_goOn_160 {p : Program} {l : Launch} {e : Env} {s : State} {m : MethodId} {args : Array Value} {below : List Frame} {meth : Method} {c : Code} {D : va_G} {ids : Nat → ClassId} {ad : Nat → Nat} {rv : Hp} (hA : adOk ad 12) (C : CX p s m args meth c cX8_goOn 6 none RX8 D ids) (hX : ExM s s.heap) : ∀ (h : Hp) (x1 : Int32) (t1 : Int32) (t2 : Int32) (H : Heap) (locs : List Loc) (ls : Array Slot), f_X8_goOn_160 h x1 t1 t2 = some rv → wp D (cEM ids ad) ad 12 h H → va_S (inW ad 12) s.heap H locs → lv_has ls 6 [(1, .int x1)] → W p l e rm_X8_goOn s m args below meth c H locs 0 0 (MQ below (QW D (cEM ids ad) ad 12 none rv) args s 0 0 (inW ad 12)) (F0 m 160 ls [.int t2, .int t1, .ref (ad 0)]) := by
  intro h x1 t1 t2 H locs ls hf hP hS hl
  unfold f_X8_goOn_160 at hf
  refine lv_iload_n C.1 C.2.1 dX8_goOn_160 rfl (lv_at hl 0 rfl) ?_
  obtain ⟨q1, eq1, hf⟩ := g_b hf
  refine cv_X8_103 hA C hX hP hS eq1 ⟨Nat.le_of_ble_eq_true rfl, Nat.le_of_ble_eq_true rfl⟩ hl.1 (Nat.le_of_ble_eq_true rfl) dX8_goOn_161 (fun H locs hP hS => ?_)
  obtain rfl := Option.some.inj hf
  exact u_vret C hP hS dX8_goOn_164
set_option maxRecDepth 100000 in
set_option maxHeartbeats 4000000 in
theorem w_X8_goOn_141 {p : Program} {l : Launch} {e : Env} {s : State} {m : MethodId} {args : Array Value} {below : List Frame} {meth : Method} {c : Code} {D : va_G} {ids : Nat → ClassId} {ad : Nat → Nat} {rv : Hp} (hA : adOk ad 12) (C : CX p s m args meth c cX8_goOn 6 none RX8 D ids) (hX : ExM s s.heap) : ∀ (h : Hp) (x1 : Int32) (x3 : Int32) (x4 : Int32) (t1 : Int32) (t2 : Int32) (H : Heap) (locs : List Loc) (ls : Array Slot), f_X8_goOn_141 h x1 x3 x4 t1 t2 = some rv → wp D (cEM ids ad) ad 12 h H → va_S (inW ad 12) s.heap H locs → lv_has ls 6 [(0, .ref (ad 0)), (1, .int x1), (3, .int x3), (4, .int x4)] → W p l e rm_X8_goOn s m args below meth c H locs 0 0 (MQ below (QW D (cEM ids ad) ad 12 none rv) args s 0 0 (inW ad 12)) (F0 m 141 ls [.int t2, .int t1, .ref (ad 0)]) := by
  intro h x1 x3 x4 t1 t2 H locs ls hf hP hS hl
  unfold f_X8_goOn_141 at hf
  refine lv_iload_n C.1 C.2.1 dX8_goOn_141 rfl (lv_at hl 1 rfl) ?_
  obtain ⟨q1, eq1, hf⟩ := g_b hf
  refine cv_X8_103 hA C hX hP hS eq1 ⟨Nat.le_of_ble_eq_true rfl, Nat.le_of_ble_eq_true rfl⟩ hl.1 (Nat.le_of_ble_eq_true rfl) dX8_goOn_142 (fun H locs hP hS => ?_)
  refine lv_aload_n C.1 C.2.1 dX8_goOn_145 rfl (lv_at hl 0 rfl) ?_
  refine lv_iload_n C.1 C.2.1 dX8_goOn_146 rfl (lv_at hl 2 rfl) ?_
  refine lv_iload C.1 C.2.1 dX8_goOn_147 (lv_at hl 3 rfl) ?_
  refine lv_iconst (v := (2 : Int32)) C.1 C.2.1 dX8_goOn_149 (by decide) ?_
  refine lv_iand C.1 C.2.1 dX8_goOn_150 ?_
  refine lv_iconst (v := (2 : Int32)) C.1 C.2.1 dX8_goOn_151 (by decide) ?_
  refine lv_icmp_ne (tgt := 159) C.1 C.2.1 dX8_goOn_152 (by decide) (fun hc => ?_) (fun hc => ?_)
  · have hf := g_f hc hf
    refine lv_iconst (v := (0 : Int32)) C.1 C.2.1 dX8_goOn_159 (by decide) ?_
    exact w_X8_goOn_160 hA C hX _ _ _ _ _ _ _ hf hP hS (lv_sub hl [1] rfl)
  · have hf := g_t hc hf
    refine lv_iconst (v := (1 : Int32)) C.1 C.2.1 dX8_goOn_155 (by decide) ?_
    refine lv_goto (tgt := 160) C.1 C.2.1 dX8_goOn_156 (by decide) ?_
    exact w_X8_goOn_160 hA C hX _ _ _ _ _ _ _ hf hP hS (lv_sub hl [1] rfl)
set_option maxRecDepth 100000 in
set_option maxHeartbeats 4000000 in
theorem w_X8_goOn_10 {p : Program} {l : Launch} {e : Env} {s : State} {m : MethodId} {args : Array Value} {below : List Frame} {meth : Method} {c : Code} {D : va_G} {ids : Nat → ClassId} {ad : Nat → Nat} {rv : Hp} (hA : adOk ad 12) (C : CX p s m args meth c cX8_goOn 6 none RX8 D ids) (hX : ExM s s.heap) : ∀ (fu : Nat), ∀ (h : Hp) (x1 : Int32) (x2 : Int32) (x3 : Int32) (x4 : Int32) (x5 : Int32) (H : Heap) (locs : List Loc) (ls : Array Slot), f_X8_goOn_10 fu h x1 x2 x3 x4 x5 = some rv → wp D (cEM ids ad) ad 12 h H → va_S (inW ad 12) s.heap H locs → lv_has ls 6 [(0, .ref (ad 0)), (1, .int x1), (2, .int x2), (3, .int x3), (4, .int x4), (5, .int x5)] → W p l e rm_X8_goOn s m args below meth c H locs 0 0 (MQ below (QW D (cEM ids ad) ad 12 none rv) args s 0 0 (inW ad 12)) (F0 m 10 ls []) := by
  intro fu
  induction fu with
  | zero =>
    intro h x1 x2 x3 x4 x5 H locs ls hf hP hS hl
    cases hf
  | succ fu ih =>
    intro h x1 x2 x3 x4 x5 H locs ls hf hP hS hl
    rw [f_X8_goOn_10_s] at hf
    refine lv_iload C.1 C.2.1 dX8_goOn_10 (lv_at hl 5 rfl) ?_
    refine lv_iconst (v := (3 : Int32)) C.1 C.2.1 dX8_goOn_12 (by decide) ?_
    refine lv_icmp_ge (tgt := 126) C.1 C.2.1 dX8_goOn_13 (by decide) (fun hc => ?_) (fun hc => ?_)
    · have hf := g_t hc hf
      refine lv_aload_n C.1 C.2.1 dX8_goOn_126 rfl (lv_at hl 0 rfl) ?_
      refine lv_iload_n C.1 C.2.1 dX8_goOn_127 rfl (lv_at hl 2 rfl) ?_
      refine lv_iload C.1 C.2.1 dX8_goOn_128 (lv_at hl 4 rfl) ?_
      refine lv_iconst (v := (1 : Int32)) C.1 C.2.1 dX8_goOn_130 (by decide) ?_
      refine lv_iand C.1 C.2.1 dX8_goOn_131 ?_
      refine lv_iconst (v := (1 : Int32)) C.1 C.2.1 dX8_goOn_132 (by decide) ?_
      refine lv_icmp_ne (tgt := 140) C.1 C.2.1 dX8_goOn_133 (by decide) (fun hc => ?_) (fun hc => ?_)
      · have hf := g_f hc hf
        refine lv_iconst (v := (0 : Int32)) C.1 C.2.1 dX8_goOn_140 (by decide) ?_
        exact w_X8_goOn_141 hA C hX _ _ _ _ _ _ _ _ _ hf hP hS (lv_sub hl [0, 1, 3, 4] rfl)
      · have hf := g_t hc hf
        refine lv_iconst (v := (1 : Int32)) C.1 C.2.1 dX8_goOn_136 (by decide) ?_
        refine lv_goto (tgt := 141) C.1 C.2.1 dX8_goOn_137 (by decide) ?_
        exact w_X8_goOn_141 hA C hX _ _ _ _ _ _ _ _ _ hf hP hS (lv_sub hl [0, 1, 3, 4] rfl)
    · have hf := g_f hc hf
      refine lv_aload_n C.1 C.2.1 dX8_goOn_16 rfl (lv_at hl 0 rfl) ?_
      refine gf_X8_34 C hP dX8_goOn_17 ?_
      refine lv_iload C.1 C.2.1 dX8_goOn_20 (lv_at hl 5 rfl) ?_
      obtain ⟨hg, hf⟩ := g_if hf
      refine al_m9 C hP hg dX8_goOn_22 ?_
      refine lv_iload_n C.1 C.2.1 dX8_goOn_23 rfl (lv_at hl 1 rfl) ?_
      refine lv_icmp_ne (tgt := 41) C.1 C.2.1 dX8_goOn_24 (by decide) (fun hc => ?_) (fun hc => ?_)
      · have hf := g_f hc hf
        exact w_X8_goOn_41 hA C hX ih _ _ _ _ _ _ _ _ _ hf hP hS (lv_sub hl [0, 1, 2, 3, 4, 5] rfl)
      · have hf := g_t hc hf
        refine lv_iload C.1 C.2.1 dX8_goOn_27 (lv_at hl 4 rfl) ?_
        refine lv_iconst (v := (1 : Int32)) C.1 C.2.1 dX8_goOn_29 (by decide) ?_
        refine lv_aload_n C.1 C.2.1 dX8_goOn_30 rfl (lv_at hl 0 rfl) ?_
        refine gf_X8_31 C hP dX8_goOn_31 ?_
        refine lv_iload C.1 C.2.1 dX8_goOn_34 (lv_at hl 5 rfl) ?_
        obtain ⟨hg, hf⟩ := g_if hf
        refine al_m8 C hP hg dX8_goOn_36 ?_
        refine lv_ishl C.1 C.2.1 dX8_goOn_37 ?_
        refine lv_ior C.1 C.2.1 dX8_goOn_38 ?_
        refine lv_istore (lv' := [(4, .int (x4 ||| ((1 : Int32) <<< ((h 8 x5.toNatClampNeg) &&& 31)))), (0, .ref (ad 0)), (1, .int x1), (2, .int x2), (3, .int x3), (5, .int x5)]) C.1 C.2.1 dX8_goOn_39 hl (by decide) rfl (fun ls hl => ?_)
        exact w_X8_goOn_41 hA C hX ih _ _ _ _ _ _ _ _ _ hf hP hS (lv_sub hl [1, 2, 3, 4, 0, 5] rfl)
set_option maxRecDepth 100000 in
set_option maxHeartbeats 4000000 in
theorem w_X8_goOn {p : Program} {l : Launch} {e : Env} {s : State} {m : MethodId} {args : Array Value} {below : List Frame} {meth : Method} {c : Code} {D : va_G} {ids : Nat → ClassId} {ad : Nat → Nat} {rv : Hp} (hA : adOk ad 12) (C : CX p s m args meth c cX8_goOn 6 none RX8 D ids) (hX : ExM s s.heap) : ∀ (h : Hp) (a1 : Int32) (H : Heap) (locs : List Loc) (ls : Array Slot), f_X8_goOn h a1 = some rv → wp D (cEM ids ad) ad 12 h H → va_S (inW ad 12) s.heap H locs → lv_has ls 6 [(0, .ref (ad 0)), (1, .int a1)] → W p l e rm_X8_goOn s m args below meth c H locs 0 0 (MQ below (QW D (cEM ids ad) ad 12 none rv) args s 0 0 (inW ad 12)) (F0 m 0 ls []) := by
  intro h a1 H locs ls hf hP hS hl
  unfold f_X8_goOn at hf
  refine lv_iconst (v := (0 : Int32)) C.1 C.2.1 dX8_goOn_0 (by decide) ?_
  refine lv_istore_n (lv' := [(2, .int (0 : Int32)), (0, .ref (ad 0)), (1, .int a1)]) C.1 C.2.1 dX8_goOn_1 rfl hl (by decide) rfl (fun ls hl => ?_)
  refine lv_iconst (v := (0 : Int32)) C.1 C.2.1 dX8_goOn_2 (by decide) ?_
  refine lv_istore_n (lv' := [(3, .int (0 : Int32)), (2, .int (0 : Int32)), (0, .ref (ad 0)), (1, .int a1)]) C.1 C.2.1 dX8_goOn_3 rfl hl (by decide) rfl (fun ls hl => ?_)
  refine lv_iconst (v := (0 : Int32)) C.1 C.2.1 dX8_goOn_4 (by decide) ?_
  refine lv_istore (lv' := [(4, .int (0 : Int32)), (3, .int (0 : Int32)), (2, .int (0 : Int32)), (0, .ref (ad 0)), (1, .int a1)]) C.1 C.2.1 dX8_goOn_5 hl (by decide) rfl (fun ls hl => ?_)
  refine lv_iconst (v := (0 : Int32)) C.1 C.2.1 dX8_goOn_7 (by decide) ?_
  refine lv_istore (lv' := [(5, .int (0 : Int32)), (4, .int (0 : Int32)), (3, .int (0 : Int32)), (2, .int (0 : Int32)), (0, .ref (ad 0)), (1, .int a1)]) C.1 C.2.1 dX8_goOn_8 hl (by decide) rfl (fun ls hl => ?_)
  exact w_X8_goOn_10 hA C hX _ _ _ _ _ _ _ _ _ _ hf hP hS (lv_sub hl [4, 5, 3, 2, 1, 0] rfl)
theorem c_X8_goOn (l : Launch) (D : va_G) (ids : Nat → ClassId) (ad : Nat → Nat) (hA : adOk ad 12) {a1 : Int32} {h : Hp} {rv : Hp} (hf : f_X8_goOn h a1 = some rv) : Met l yX8_goOn (ws_ yX8_goOn cX8_goOn 6 none) rm_X8_goOn (va_Pc [.ref (ad 0), .int a1] (WB D ids (cEM ids ad) ad 12 ExM h)) (QW D (cEM ids ad) ad 12 none rv) 0 0 (inW ad 12) :=
  u_met (own := RX8) (by decide) rfl (Nat.le_of_ble_eq_true rfl) rfl (fun p e s m args below meth c H ls C hX hP hS hl => w_X8_goOn hA C hX _ _ _ _ _ hf hP hS hl)
theorem pf_X8_107 {p : Program} {l : Launch} {e : Env} {R : Room} {s : State} {m : MethodId} {args : Array Value} {below : List Frame} {meth : Method} {c : Code} {H : Heap} {locs : List Loc} {cells slots : Nat} {Q : State → Prop} {cc : ByteArray} {nL : Nat} {ret : Option FieldType} {pc : Nat} {ls : Array Slot} {rest : List Value} {D : va_G} {ids : Nat → ClassId} {ad : Nat → Nat} {h : Hp} {x : Int32} (hA : adOk ad 12) (C : CX p s m args meth c cc nL ret RX8 D ids) (hP : wp D (cEM ids ad) ad 12 h H) (hS : va_S (inW ad 12) s.heap H locs) (hdg : decode cc pc = .ok (.putfield 107, 3)) (kk : ∀ (H1 : Heap) (locs1 : List Loc), wp D (cEM ids ad) ad 12 (hs h 0 15 x) H1 → va_S (inW ad 12) s.heap H1 locs1 → W p l e R s m args below meth c H1 locs1 cells slots Q (F0 m (pc + 3) ls rest)) : W p l e R s m args below meth c H locs cells slots Q (F0 m pc ls (.int x :: .ref (ad 0) :: rest)) :=
  u_put hA C hP hS (by decide) cE_X8 rfl inX8 tyX8 tyX8_ok nmX8 15 (by decide) rfl q_480 rfl (ty := .int) rfl rfl rfl hdg kk
theorem gf_X8_107 {p : Program} {l : Launch} {e : Env} {R : Room} {s : State} {m : MethodId} {args : Array Value} {below : List Frame} {meth : Method} {c : Code} {H : Heap} {locs : List Loc} {cells slots : Nat} {Q : State → Prop} {cc : ByteArray} {nL : Nat} {ret : Option FieldType} {pc : Nat} {ls : Array Slot} {rest : List Value} {D : va_G} {ids : Nat → ClassId} {ad : Nat → Nat} {h : Hp} (C : CX p s m args meth c cc nL ret RX8 D ids) (hP : wp D (cEM ids ad) ad 12 h H) (hdg : decode cc pc = .ok (.getfield 107, 3)) (kk : W p l e R s m args below meth c H locs cells slots Q (F0 m (pc + 3) ls (.int (h 0 15) :: rest))) : W p l e R s m args below meth c H locs cells slots Q (F0 m pc ls (.ref (ad 0) :: rest)) :=
  u_get C hP (by decide) cE_X8 rfl inX8 15 (by decide) rfl q_480 hdg kk
abbrev rm_X8_learn : Room := { frames := 2, cells := 0, slots := 0, locals := 46 }
set_option maxRecDepth 100000 in
set_option maxHeartbeats 4000000 in
theorem w_X8_learn_71 {p : Program} {l : Launch} {e : Env} {s : State} {m : MethodId} {args : Array Value} {below : List Frame} {meth : Method} {c : Code} {D : va_G} {ids : Nat → ClassId} {ad : Nat → Nat} {rv : Hp} (hA : adOk ad 12) (C : CX p s m args meth c cX8_learn 3 none RX8 D ids) (hX : ExM s s.heap) {K24 : Hp → Int32 → Int32 → Option (Hp)} (hK24 : ∀ (h : Hp) (x1 : Int32) (x2 : Int32) (H : Heap) (locs : List Loc) (ls : Array Slot), K24 h x1 x2 = some rv → wp D (cEM ids ad) ad 12 h H → va_S (inW ad 12) s.heap H locs → lv_has ls 3 [(0, .ref (ad 0)), (1, .int x1), (2, .int x2)] → W p l e rm_X8_learn s m args below meth c H locs 0 0 (MQ below (QW D (cEM ids ad) ad 12 none rv) args s 0 0 (inW ad 12)) (F0 m 24 ls [])) : ∀ (h : Hp) (x1 : Int32) (x2 : Int32) (H : Heap) (locs : List Loc) (ls : Array Slot), f_X8_learn_71 K24 h x1 x2 = some rv → wp D (cEM ids ad) ad 12 h H → va_S (inW ad 12) s.heap H locs → lv_has ls 3 [(0, .ref (ad 0)), (1, .int x1), (2, .int x2)] → W p l e rm_X8_learn s m args below meth c H locs 0 0 (MQ below (QW D (cEM ids ad) ad 12 none rv) args s 0 0 (inW ad 12)) (F0 m 71 ls []) := by
  intro h x1 x2 H locs ls hf hP hS hl
  unfold f_X8_learn_71 at hf
  refine lv_iinc (v := (x2 + 1)) (lv' := [(2, .int (x2 + 1)), (0, .ref (ad 0)), (1, .int x1)]) C.1 C.2.1 dX8_learn_71 hl (k := 2) rfl (by rfl) (by decide) rfl (fun ls hl => ?_)
  refine lv_goto (tgt := 24) C.1 C.2.1 dX8_learn_74 (by decide) ?_
  exact hK24 _ _ _ _ _ _ hf hP hS (lv_sub hl [1, 2, 0] rfl)
set_option maxRecDepth 100000 in
set_option maxHeartbeats 4000000 in
theorem w_X8_learn_24 {p : Program} {l : Launch} {e : Env} {s : State} {m : MethodId} {args : Array Value} {below : List Frame} {meth : Method} {c : Code} {D : va_G} {ids : Nat → ClassId} {ad : Nat → Nat} {rv : Hp} (hA : adOk ad 12) (C : CX p s m args meth c cX8_learn 3 none RX8 D ids) (hX : ExM s s.heap) : ∀ (fu : Nat), ∀ (h : Hp) (x1 : Int32) (x2 : Int32) (H : Heap) (locs : List Loc) (ls : Array Slot), f_X8_learn_24 fu h x1 x2 = some rv → wp D (cEM ids ad) ad 12 h H → va_S (inW ad 12) s.heap H locs → lv_has ls 3 [(0, .ref (ad 0)), (1, .int x1), (2, .int x2)] → W p l e rm_X8_learn s m args below meth c H locs 0 0 (MQ below (QW D (cEM ids ad) ad 12 none rv) args s 0 0 (inW ad 12)) (F0 m 24 ls []) := by
  intro fu
  induction fu with
  | zero =>
    intro h x1 x2 H locs ls hf hP hS hl
    cases hf
  | succ fu ih =>
    intro h x1 x2 H locs ls hf hP hS hl
    rw [f_X8_learn_24_s] at hf
    refine lv_iload_n C.1 C.2.1 dX8_learn_24 rfl (lv_at hl 2 rfl) ?_
    refine lv_iconst (v := (3 : Int32)) C.1 C.2.1 dX8_learn_25 (by decide) ?_
    refine lv_icmp_ge (tgt := 77) C.1 C.2.1 dX8_learn_26 (by decide) (fun hc => ?_) (fun hc => ?_)
    · have hf := g_t hc hf
      refine lv_aload_n C.1 C.2.1 dX8_learn_77 rfl (lv_at hl 0 rfl) ?_
      refine gf_X8_7 C hP dX8_learn_78 ?_
      refine lv_iconst (v := (1 : Int32)) C.1 C.2.1 dX8_learn_81 (by decide) ?_
      refine lv_iload_n C.1 C.2.1 dX8_learn_82 rfl (lv_at hl 1 rfl) ?_
      obtain ⟨hg, hf⟩ := g_if hf
      refine as_m1 hA C hP hS hg dX8_learn_83 (fun H locs hP hS => ?_)
      obtain rfl := Option.some.inj hf
      exact u_vret C hP hS dX8_learn_84
    · have hf := g_f hc hf
      refine lv_aload_n C.1 C.2.1 dX8_learn_29 rfl (lv_at hl 0 rfl) ?_
      refine gf_X8_40 C hP dX8_learn_30 ?_
      refine lv_iload_n C.1 C.2.1 dX8_learn_33 rfl (lv_at hl 2 rfl) ?_
      obtain ⟨hg, hf⟩ := g_if hf
      refine al_m11 C hP hg dX8_learn_34 ?_
      refine lv_aload_n C.1 C.2.1 dX8_learn_35 rfl (lv_at hl 0 rfl) ?_
      refine gf_X8_7 C hP dX8_learn_36 ?_
      refine lv_iconst (v := (4 : Int32)) C.1 C.2.1 dX8_learn_39 (by decide) ?_
      obtain ⟨hg, hf⟩ := g_if hf
      refine al_m1 C hP hg dX8_learn_40 ?_
      refine lv_icmp_lt (tgt := 71) C.1 C.2.1 dX8_learn_41 (by decide) (fun hc => ?_) (fun hc => ?_)
      · have hf := g_t hc hf
        exact w_X8_learn_71 hA C hX ih _ _ _ _ _ _ hf hP hS (lv_sub hl [0, 1, 2] rfl)
      · have hf := g_f hc hf
        refine lv_aload_n C.1 C.2.1 dX8_learn_44 rfl (lv_at hl 0 rfl) ?_
        refine lv_iload_n C.1 C.2.1 dX8_learn_45 rfl (lv_at hl 2 rfl) ?_
        refine lv_iconst (v := (0 : Int32)) C.1 C.2.1 dX8_learn_46 (by decide) ?_
        refine lv_iload_n C.1 C.2.1 dX8_learn_47 rfl (lv_at hl 1 rfl) ?_
        obtain ⟨q1, eq1, hf⟩ := g_b hf
        refine cv_X8_43 hA C hX hP hS eq1 ⟨Nat.le_of_ble_eq_true rfl, Nat.le_of_ble_eq_true rfl⟩ hl.1 (Nat.le_of_ble_eq_true rfl) dX8_learn_48 (fun H locs hP hS => ?_)
        refine lv_aload_n C.1 C.2.1 dX8_learn_51 rfl (lv_at hl 0 rfl) ?_
        refine lv_iload_n C.1 C.2.1 dX8_learn_52 rfl (lv_at hl 2 rfl) ?_
        refine lv_bipush (v := (9 : Int32)) C.1 C.2.1 dX8_learn_53 (by decide) ?_
        refine lv_iconst (v := (1 : Int32)) C.1 C.2.1 dX8_learn_55 (by decide) ?_
        obtain ⟨q2, eq2, hf⟩ := g_b hf
        refine cv_X8_85 hA C hX hP hS eq2 ⟨Nat.le_of_ble_eq_true rfl, Nat.le_of_ble_eq_true rfl⟩ hl.1 (Nat.le_of_ble_eq_true rfl) dX8_learn_56 (fun H locs hP hS => ?_)
        refine lv_aload_n C.1 C.2.1 dX8_learn_59 rfl (lv_at hl 0 rfl) ?_
        refine lv_dup C.1 C.2.1 dX8_learn_60 rfl ?_
        refine gf_X8_107 C hP dX8_learn_61 ?_
        refine lv_iconst (v := (1 : Int32)) C.1 C.2.1 dX8_learn_64 (by decide) ?_
        refine lv_iload_n C.1 C.2.1 dX8_learn_65 rfl (lv_at hl 2 rfl) ?_
        refine lv_ishl C.1 C.2.1 dX8_learn_66 ?_
        refine lv_ior C.1 C.2.1 dX8_learn_67 ?_
        refine pf_X8_107 hA C hP hS dX8_learn_68 (fun H locs hP hS => ?_)
        exact w_X8_learn_71 hA C hX ih _ _ _ _ _ _ hf hP hS (lv_sub hl [0, 1, 2] rfl)
set_option maxRecDepth 100000 in
set_option maxHeartbeats 4000000 in
theorem w_X8_learn {p : Program} {l : Launch} {e : Env} {s : State} {m : MethodId} {args : Array Value} {below : List Frame} {meth : Method} {c : Code} {D : va_G} {ids : Nat → ClassId} {ad : Nat → Nat} {rv : Hp} (hA : adOk ad 12) (C : CX p s m args meth c cX8_learn 3 none RX8 D ids) (hX : ExM s s.heap) : ∀ (h : Hp) (H : Heap) (locs : List Loc) (ls : Array Slot), f_X8_learn h = some rv → wp D (cEM ids ad) ad 12 h H → va_S (inW ad 12) s.heap H locs → lv_has ls 3 [(0, .ref (ad 0))] → W p l e rm_X8_learn s m args below meth c H locs 0 0 (MQ below (QW D (cEM ids ad) ad 12 none rv) args s 0 0 (inW ad 12)) (F0 m 0 ls []) := by
  intro h H locs ls hf hP hS hl
  unfold f_X8_learn at hf
  refine lv_aload_n C.1 C.2.1 dX8_learn_0 rfl (lv_at hl 0 rfl) ?_
  refine gf_X8_7 C hP dX8_learn_1 ?_
  refine lv_iconst (v := (1 : Int32)) C.1 C.2.1 dX8_learn_4 (by decide) ?_
  obtain ⟨hg, hf⟩ := g_if hf
  refine al_m1 C hP hg dX8_learn_5 ?_
  refine lv_aload_n C.1 C.2.1 dX8_learn_6 rfl (lv_at hl 0 rfl) ?_
  refine gf_X8_7 C hP dX8_learn_7 ?_
  refine lv_iconst (v := (3 : Int32)) C.1 C.2.1 dX8_learn_10 (by decide) ?_
  obtain ⟨hg, hf⟩ := g_if hf
  refine al_m1 C hP hg dX8_learn_11 ?_
  refine lv_iadd C.1 C.2.1 dX8_learn_12 ?_
  refine lv_bipush (v := (12 : Int32)) C.1 C.2.1 dX8_learn_13 (by decide) ?_
  refine lv_irem C.1 C.2.1 dX8_learn_15 (by decide) ?_
  refine lv_istore_n (lv' := [(1, .int (((h 1 (1 : Int32).toNatClampNeg) + (h 1 (3 : Int32).toNatClampNeg)) - ((h 1 (1 : Int32).toNatClampNeg) + (h 1 (3 : Int32).toNatClampNeg)) / (12 : Int32) * (12 : Int32))), (0, .ref (ad 0))]) C.1 C.2.1 dX8_learn_16 rfl hl (by decide) rfl (fun ls hl => ?_)
  refine lv_aload_n C.1 C.2.1 dX8_learn_17 rfl (lv_at hl 1 rfl) ?_
  refine lv_iconst (v := (0 : Int32)) C.1 C.2.1 dX8_learn_18 (by decide) ?_
  refine pf_X8_107 hA C hP hS dX8_learn_19 (fun H locs hP hS => ?_)
  refine lv_iconst (v := (0 : Int32)) C.1 C.2.1 dX8_learn_22 (by decide) ?_
  refine lv_istore_n (lv' := [(2, .int (0 : Int32)), (1, .int (((h 1 (1 : Int32).toNatClampNeg) + (h 1 (3 : Int32).toNatClampNeg)) - ((h 1 (1 : Int32).toNatClampNeg) + (h 1 (3 : Int32).toNatClampNeg)) / (12 : Int32) * (12 : Int32))), (0, .ref (ad 0))]) C.1 C.2.1 dX8_learn_23 rfl hl (by decide) rfl (fun ls hl => ?_)
  exact w_X8_learn_24 hA C hX _ _ _ _ _ _ _ hf hP hS (lv_sub hl [2, 1, 0] rfl)
theorem c_X8_learn (l : Launch) (D : va_G) (ids : Nat → ClassId) (ad : Nat → Nat) (hA : adOk ad 12) {h : Hp} {rv : Hp} (hf : f_X8_learn h = some rv) : Met l yX8_learn (ws_ yX8_learn cX8_learn 3 none) rm_X8_learn (va_Pc [.ref (ad 0)] (WB D ids (cEM ids ad) ad 12 ExM h)) (QW D (cEM ids ad) ad 12 none rv) 0 0 (inW ad 12) :=
  u_met (own := RX8) (by decide) rfl (Nat.le_of_ble_eq_true rfl) rfl (fun p e s m args below meth c H ls C hX hP hS hl => w_X8_learn hA C hX _ _ _ _ hf hP hS hl)
theorem cv_X8_110 {p : Program} {l : Launch} {e : Env} {R : Room} {s : State} {m : MethodId} {args : Array Value} {below : List Frame} {meth : Method} {c : Code} {H : Heap} {locs : List Loc} {Q : State → Prop} {cc : ByteArray} {nL : Nat} {ret : Option FieldType} {pc : Nat} {ls : Array Slot} {rest : List Value} {D : va_G} {ids : Nat → ClassId} {ad : Nat → Nat} {h : Hp} (hA : adOk ad 12) (C : CX p s m args meth c cc nL ret RX8 D ids) (hX : ExM s s.heap) (hP : wp D (cEM ids ad) ad 12 h H) (hS : va_S (inW ad 12) s.heap H locs) {rv : Hp} (hf : f_X8_printAll h = some rv) (hR : 3 + 1 ≤ R.frames ∧ 8 + (2 + 11) + 67 ≤ R.locals) (hsz : ls.size = nL) (hcat : (rest.map fun v => v.category).sum ≤ 8) (hdg : decode cc pc = .ok (.invokevirtual 110, 3)) (kk : ∀ (H1 : Heap) (locs1 : List Loc), wp D (cEM ids ad) ad 12 rv H1 → va_S (inW ad 12) s.heap H1 locs1 → W p l e R s m args below meth c H1 locs1 0 0 Q (F0 m (pc + 3) ls (rest))) : W p l e R s m args below meth c H locs 0 0 Q (F0 m pc ls (.ref (ad 0) :: rest)) :=
  u_callV (As := []) (rv := none) C exM_ok hX (c_X8_printAll l D ids ad hA hf) q_425 q_426 q_427 q_5 q_428 ⟨rfl, rfl⟩ (by refine ⟨by decide +kernel, by decide +kernel, ?_⟩; show _ = some 0; decide +kernel) hR (by decide) (cE_X8 _) rfl hP hS hsz hcat rfl hdg kk
theorem cv_X8_113 {p : Program} {l : Launch} {e : Env} {R : Room} {s : State} {m : MethodId} {args : Array Value} {below : List Frame} {meth : Method} {c : Code} {H : Heap} {locs : List Loc} {Q : State → Prop} {cc : ByteArray} {nL : Nat} {ret : Option FieldType} {pc : Nat} {ls : Array Slot} {rest : List Value} {D : va_G} {ids : Nat → ClassId} {ad : Nat → Nat} {h : Hp} (hA : adOk ad 12) (C : CX p s m args meth c cc nL ret RX8 D ids) (hX : ExM s s.heap) (hP : wp D (cEM ids ad) ad 12 h H) (hS : va_S (inW ad 12) s.heap H locs) {a1 : Int32} {rv : Hp} (hf : f_X8_goOn h a1 = some rv) (hR : 4 + 1 ≤ R.frames ∧ 8 + (6 + 11) + 94 ≤ R.locals) (hsz : ls.size = nL) (hcat : (rest.map fun v => v.category).sum ≤ 8) (hdg : decode cc pc = .ok (.invokevirtual 113, 3)) (kk : ∀ (H1 : Heap) (locs1 : List Loc), wp D (cEM ids ad) ad 12 rv H1 → va_S (inW ad 12) s.heap H1 locs1 → W p l e R s m args below meth c H1 locs1 0 0 Q (F0 m (pc + 3) ls (rest))) : W p l e R s m args below meth c H locs 0 0 Q (F0 m pc ls (.int a1 :: .ref (ad 0) :: rest)) :=
  u_callV (As := [.int a1]) (rv := none) C exM_ok hX (c_X8_goOn l D ids ad hA hf) q_440 q_441 q_442 q_5 q_443 ⟨rfl, rfl⟩ (by refine ⟨by decide +kernel, by decide +kernel, ?_⟩; show _ = some 1; decide +kernel) hR (by decide) (cE_X8 _) rfl hP hS hsz hcat rfl hdg kk
theorem cv_X8_116 {p : Program} {l : Launch} {e : Env} {R : Room} {s : State} {m : MethodId} {args : Array Value} {below : List Frame} {meth : Method} {c : Code} {H : Heap} {locs : List Loc} {Q : State → Prop} {cc : ByteArray} {nL : Nat} {ret : Option FieldType} {pc : Nat} {ls : Array Slot} {rest : List Value} {D : va_G} {ids : Nat → ClassId} {ad : Nat → Nat} {h : Hp} (hA : adOk ad 12) (C : CX p s m args meth c cc nL ret RX8 D ids) (hX : ExM s s.heap) (hP : wp D (cEM ids ad) ad 12 h H) (hS : va_S (inW ad 12) s.heap H locs) {rv : Hp} (hf : f_X8_learn h = some rv) (hR : 2 + 1 ≤ R.frames ∧ 8 + (3 + 11) + 46 ≤ R.locals) (hsz : ls.size = nL) (hcat : (rest.map fun v => v.category).sum ≤ 8) (hdg : decode cc pc = .ok (.invokevirtual 116, 3)) (kk : ∀ (H1 : Heap) (locs1 : List Loc), wp D (cEM ids ad) ad 12 rv H1 → va_S (inW ad 12) s.heap H1 locs1 → W p l e R s m args below meth c H1 locs1 0 0 Q (F0 m (pc + 3) ls (rest))) : W p l e R s m args below meth c H locs 0 0 Q (F0 m pc ls (.ref (ad 0) :: rest)) :=
  u_callV (As := []) (rv := none) C exM_ok hX (c_X8_learn l D ids ad hA hf) q_476 q_477 q_478 q_5 q_479 ⟨rfl, rfl⟩ (by refine ⟨by decide +kernel, by decide +kernel, ?_⟩; show _ = some 0; decide +kernel) hR (by decide) (cE_X8 _) rfl hP hS hsz hcat rfl hdg kk
abbrev rm_X8_sailDay : Room := { frames := 5, cells := 0, slots := 0, locals := 119 }
set_option maxRecDepth 100000 in
set_option maxHeartbeats 4000000 in
theorem w_X8_sailDay_44 {p : Program} {l : Launch} {e : Env} {s : State} {m : MethodId} {args : Array Value} {below : List Frame} {meth : Method} {c : Code} {D : va_G} {ids : Nat → ClassId} {ad : Nat → Nat} {rv : Hp} (hA : adOk ad 12) (C : CX p s m args meth c cX8_sailDay 2 none RX8 D ids) (hX : ExM s s.heap) {K6 : Hp → Int32 → Option (Hp)} (hK6 : ∀ (h : Hp) (x1 : Int32) (H : Heap) (locs : List Loc) (ls : Array Slot), K6 h x1 = some rv → wp D (cEM ids ad) ad 12 h H → va_S (inW ad 12) s.heap H locs → lv_has ls 2 [(0, .ref (ad 0)), (1, .int x1)] → W p l e rm_X8_sailDay s m args below meth c H locs 0 0 (MQ below (QW D (cEM ids ad) ad 12 none rv) args s 0 0 (inW ad 12)) (F0 m 6 ls [])) : ∀ (h : Hp) (x1 : Int32) (H : Heap) (locs : List Loc) (ls : Array Slot), f_X8_sailDay_44 K6 h x1 = some rv → wp D (cEM ids ad) ad 12 h H → va_S (inW ad 12) s.heap H locs → lv_has ls 2 [(0, .ref (ad 0)), (1, .int x1)] → W p l e rm_X8_sailDay s m args below meth c H locs 0 0 (MQ below (QW D (cEM ids ad) ad 12 none rv) args s 0 0 (inW ad 12)) (F0 m 44 ls []) := by
  intro h x1 H locs ls hf hP hS hl
  unfold f_X8_sailDay_44 at hf
  refine lv_iinc (v := (x1 + 1)) (lv' := [(1, .int (x1 + 1)), (0, .ref (ad 0))]) C.1 C.2.1 dX8_sailDay_44 hl (k := 1) rfl (by rfl) (by decide) rfl (fun ls hl => ?_)
  refine lv_goto (tgt := 6) C.1 C.2.1 dX8_sailDay_47 (by decide) ?_
  exact hK6 _ _ _ _ _ hf hP hS (lv_sub hl [1, 0] rfl)
set_option maxRecDepth 100000 in
set_option maxHeartbeats 4000000 in
theorem w_X8_sailDay_30 {p : Program} {l : Launch} {e : Env} {s : State} {m : MethodId} {args : Array Value} {below : List Frame} {meth : Method} {c : Code} {D : va_G} {ids : Nat → ClassId} {ad : Nat → Nat} {rv : Hp} (hA : adOk ad 12) (C : CX p s m args meth c cX8_sailDay 2 none RX8 D ids) (hX : ExM s s.heap) {K6 : Hp → Int32 → Option (Hp)} (hK6 : ∀ (h : Hp) (x1 : Int32) (H : Heap) (locs : List Loc) (ls : Array Slot), K6 h x1 = some rv → wp D (cEM ids ad) ad 12 h H → va_S (inW ad 12) s.heap H locs → lv_has ls 2 [(0, .ref (ad 0)), (1, .int x1)] → W p l e rm_X8_sailDay s m args below meth c H locs 0 0 (MQ below (QW D (cEM ids ad) ad 12 none rv) args s 0 0 (inW ad 12)) (F0 m 6 ls [])) : ∀ (h : Hp) (x1 : Int32) (H : Heap) (locs : List Loc) (ls : Array Slot), f_X8_sailDay_30 K6 h x1 = some rv → wp D (cEM ids ad) ad 12 h H → va_S (inW ad 12) s.heap H locs → lv_has ls 2 [(0, .ref (ad 0)), (1, .int x1)] → W p l e rm_X8_sailDay s m args below meth c H locs 0 0 (MQ below (QW D (cEM ids ad) ad 12 none rv) args s 0 0 (inW ad 12)) (F0 m 30 ls []) := by
  intro h x1 H locs ls hf hP hS hl
  unfold f_X8_sailDay_30 at hf
  refine lv_aload_n C.1 C.2.1 dX8_sailDay_30 rfl (lv_at hl 0 rfl) ?_
  refine gf_X8_37 C hP dX8_sailDay_31 ?_
  refine lv_iload_n C.1 C.2.1 dX8_sailDay_34 rfl (lv_at hl 1 rfl) ?_
  refine lv_iconst (v := (0 : Int32)) C.1 C.2.1 dX8_sailDay_35 (by decide) ?_
  obtain ⟨hg, hf⟩ := g_if hf
  refine as_m10 hA C hP hS hg dX8_sailDay_36 (fun H locs hP hS => ?_)
  refine lv_aload_n C.1 C.2.1 dX8_sailDay_37 rfl (lv_at hl 0 rfl) ?_
  refine gf_X8_40 C hP dX8_sailDay_38 ?_
  refine lv_iload_n C.1 C.2.1 dX8_sailDay_41 rfl (lv_at hl 1 rfl) ?_
  refine lv_iconst (v := (0 : Int32)) C.1 C.2.1 dX8_sailDay_42 (by decide) ?_
  obtain ⟨hg, hf⟩ := g_if hf
  refine as_m11 hA C hP hS hg dX8_sailDay_43 (fun H locs hP hS => ?_)
  exact w_X8_sailDay_44 hA C hX hK6 _ _ _ _ _ hf hP hS (lv_sub hl [0, 1] rfl)
set_option maxRecDepth 100000 in
set_option maxHeartbeats 4000000 in
theorem w_X8_sailDay_71 {p : Program} {l : Launch} {e : Env} {s : State} {m : MethodId} {args : Array Value} {below : List Frame} {meth : Method} {c : Code} {D : va_G} {ids : Nat → ClassId} {ad : Nat → Nat} {rv : Hp} (hA : adOk ad 12) (C : CX p s m args meth c cX8_sailDay 2 none RX8 D ids) (hX : ExM s s.heap) : ∀ (fu : Nat), ∀ (h : Hp) (x1 : Int32) (H : Heap) (locs : List Loc) (ls : Array Slot), f_X8_sailDay_71 fu h x1 = some rv → wp D (cEM ids ad) ad 12 h H → va_S (inW ad 12) s.heap H locs → lv_has ls 2 [(0, .ref (ad 0)), (1, .int x1)] → W p l e rm_X8_sailDay s m args below meth c H locs 0 0 (MQ below (QW D (cEM ids ad) ad 12 none rv) args s 0 0 (inW ad 12)) (F0 m 71 ls []) := by
  intro fu
  induction fu with
  | zero =>
    intro h x1 H locs ls hf hP hS hl
    cases hf
  | succ fu ih =>
    intro h x1 H locs ls hf hP hS hl
    rw [f_X8_sailDay_71_s] at hf
    refine lv_iload_n C.1 C.2.1 dX8_sailDay_71 rfl (lv_at hl 1 rfl) ?_
    refine lv_iconst (v := (3 : Int32)) C.1 C.2.1 dX8_sailDay_72 (by decide) ?_
    refine lv_icmp_ge (tgt := 102) C.1 C.2.1 dX8_sailDay_73 (by decide) (fun hc => ?_) (fun hc => ?_)
    · have hf := g_t hc hf
      refine lv_aload_n C.1 C.2.1 dX8_sailDay_102 rfl (lv_at hl 0 rfl) ?_
      obtain ⟨q1, eq1, hf⟩ := g_b hf
      refine cv_X8_116 hA C hX hP hS eq1 ⟨Nat.le_of_ble_eq_true rfl, Nat.le_of_ble_eq_true rfl⟩ hl.1 (Nat.le_of_ble_eq_true rfl) dX8_sailDay_103 (fun H locs hP hS => ?_)
      refine lv_aload_n C.1 C.2.1 dX8_sailDay_106 rfl (lv_at hl 0 rfl) ?_
      refine gf_X8_7 C hP dX8_sailDay_107 ?_
      refine lv_iconst (v := (0 : Int32)) C.1 C.2.1 dX8_sailDay_110 (by decide) ?_
      refine lv_dup2_11 C.1 C.2.1 dX8_sailDay_111 rfl rfl ?_
      obtain ⟨hg, hf⟩ := g_if hf
      refine al_m1 C hP hg dX8_sailDay_112 ?_
      refine lv_iconst (v := (1 : Int32)) C.1 C.2.1 dX8_sailDay_113 (by decide) ?_
      refine lv_iadd C.1 C.2.1 dX8_sailDay_114 ?_
      obtain ⟨hg, hf⟩ := g_if hf
      refine as_m1 hA C hP hS hg dX8_sailDay_115 (fun H locs hP hS => ?_)
      obtain rfl := Option.some.inj hf
      exact u_vret C hP hS dX8_sailDay_116
    · have hf := g_f hc hf
      refine lv_aload_n C.1 C.2.1 dX8_sailDay_76 rfl (lv_at hl 0 rfl) ?_
      refine lv_iload_n C.1 C.2.1 dX8_sailDay_77 rfl (lv_at hl 1 rfl) ?_
      refine lv_bipush (v := (8 : Int32)) C.1 C.2.1 dX8_sailDay_78 (by decide) ?_
      refine lv_aload_n C.1 C.2.1 dX8_sailDay_80 rfl (lv_at hl 0 rfl) ?_
      refine gf_X8_28 C hP dX8_sailDay_81 ?_
      refine lv_iload_n C.1 C.2.1 dX8_sailDay_84 rfl (lv_at hl 1 rfl) ?_
      obtain ⟨hg, hf⟩ := g_if hf
      refine al_m7 C hP hg dX8_sailDay_85 ?_
      refine lv_aload_n C.1 C.2.1 dX8_sailDay_86 rfl (lv_at hl 0 rfl) ?_
      refine gf_X8_37 C hP dX8_sailDay_87 ?_
      refine lv_iload_n C.1 C.2.1 dX8_sailDay_90 rfl (lv_at hl 1 rfl) ?_
      obtain ⟨hg, hf⟩ := g_if hf
      refine al_m10 C hP hg dX8_sailDay_91 ?_
      refine lv_isub C.1 C.2.1 dX8_sailDay_92 ?_
      obtain ⟨q2, eq2, hf⟩ := g_b hf
      refine cv_X8_85 hA C hX hP hS eq2 ⟨Nat.le_of_ble_eq_true rfl, Nat.le_of_ble_eq_true rfl⟩ hl.1 (Nat.le_of_ble_eq_true rfl) dX8_sailDay_93 (fun H locs hP hS => ?_)
      refine lv_iinc (v := (x1 + 1)) (lv' := [(1, .int (x1 + 1)), (0, .ref (ad 0))]) C.1 C.2.1 dX8_sailDay_96 hl (k := 1) rfl (by rfl) (by decide) rfl (fun ls hl => ?_)
      refine lv_goto (tgt := 71) C.1 C.2.1 dX8_sailDay_99 (by decide) ?_
      exact ih _ _ _ _ _ hf hP hS (lv_sub hl [1, 0] rfl)
set_option maxRecDepth 100000 in
set_option maxHeartbeats 4000000 in
theorem w_X8_sailDay_52 {p : Program} {l : Launch} {e : Env} {s : State} {m : MethodId} {args : Array Value} {below : List Frame} {meth : Method} {c : Code} {D : va_G} {ids : Nat → ClassId} {ad : Nat → Nat} {rv : Hp} (hA : adOk ad 12) (C : CX p s m args meth c cX8_sailDay 2 none RX8 D ids) (hX : ExM s s.heap) : ∀ (fu : Nat), ∀ (h : Hp) (x1 : Int32) (H : Heap) (locs : List Loc) (ls : Array Slot), f_X8_sailDay_52 fu h x1 = some rv → wp D (cEM ids ad) ad 12 h H → va_S (inW ad 12) s.heap H locs → lv_has ls 2 [(0, .ref (ad 0)), (1, .int x1)] → W p l e rm_X8_sailDay s m args below meth c H locs 0 0 (MQ below (QW D (cEM ids ad) ad 12 none rv) args s 0 0 (inW ad 12)) (F0 m 52 ls []) := by
  intro fu
  induction fu with
  | zero =>
    intro h x1 H locs ls hf hP hS hl
    cases hf
  | succ fu ih =>
    intro h x1 H locs ls hf hP hS hl
    rw [f_X8_sailDay_52_s] at hf
    refine lv_iload_n C.1 C.2.1 dX8_sailDay_52 rfl (lv_at hl 1 rfl) ?_
    refine lv_bipush (v := (24 : Int32)) C.1 C.2.1 dX8_sailDay_53 (by decide) ?_
    refine lv_icmp_ge (tgt := 69) C.1 C.2.1 dX8_sailDay_55 (by decide) (fun hc => ?_) (fun hc => ?_)
    · have hf := g_t hc hf
      refine lv_iconst (v := (0 : Int32)) C.1 C.2.1 dX8_sailDay_69 (by decide) ?_
      refine lv_istore_n (lv' := [(1, .int (0 : Int32)), (0, .ref (ad 0))]) C.1 C.2.1 dX8_sailDay_70 rfl hl (by decide) rfl (fun ls hl => ?_)
      exact w_X8_sailDay_71 hA C hX _ _ _ _ _ _ hf hP hS (lv_sub hl [1, 0] rfl)
    · have hf := g_f hc hf
      refine lv_aload_n C.1 C.2.1 dX8_sailDay_58 rfl (lv_at hl 0 rfl) ?_
      refine lv_iload_n C.1 C.2.1 dX8_sailDay_59 rfl (lv_at hl 1 rfl) ?_
      obtain ⟨q1, eq1, hf⟩ := g_b hf
      refine cv_X8_113 hA C hX hP hS eq1 ⟨Nat.le_of_ble_eq_true rfl, Nat.le_of_ble_eq_true rfl⟩ hl.1 (Nat.le_of_ble_eq_true rfl) dX8_sailDay_60 (fun H locs hP hS => ?_)
      refine lv_iinc (v := (x1 + 1)) (lv' := [(1, .int (x1 + 1)), (0, .ref (ad 0))]) C.1 C.2.1 dX8_sailDay_63 hl (k := 1) rfl (by rfl) (by decide) rfl (fun ls hl => ?_)
      refine lv_goto (tgt := 52) C.1 C.2.1 dX8_sailDay_66 (by decide) ?_
      exact ih _ _ _ _ _ hf hP hS (lv_sub hl [1, 0] rfl)
set_option maxRecDepth 100000 in
set_option maxHeartbeats 4000000 in
theorem w_X8_sailDay_6 {p : Program} {l : Launch} {e : Env} {s : State} {m : MethodId} {args : Array Value} {below : List Frame} {meth : Method} {c : Code} {D : va_G} {ids : Nat → ClassId} {ad : Nat → Nat} {rv : Hp} (hA : adOk ad 12) (C : CX p s m args meth c cX8_sailDay 2 none RX8 D ids) (hX : ExM s s.heap) : ∀ (fu : Nat), ∀ (h : Hp) (x1 : Int32) (H : Heap) (locs : List Loc) (ls : Array Slot), f_X8_sailDay_6 fu h x1 = some rv → wp D (cEM ids ad) ad 12 h H → va_S (inW ad 12) s.heap H locs → lv_has ls 2 [(0, .ref (ad 0)), (1, .int x1)] → W p l e rm_X8_sailDay s m args below meth c H locs 0 0 (MQ below (QW D (cEM ids ad) ad 12 none rv) args s 0 0 (inW ad 12)) (F0 m 6 ls []) := by
  intro fu
  induction fu with
  | zero =>
    intro h x1 H locs ls hf hP hS hl
    cases hf
  | succ fu ih =>
    intro h x1 H locs ls hf hP hS hl
    rw [f_X8_sailDay_6_s] at hf
    refine lv_iload_n C.1 C.2.1 dX8_sailDay_6 rfl (lv_at hl 1 rfl) ?_
    refine lv_iconst (v := (3 : Int32)) C.1 C.2.1 dX8_sailDay_7 (by decide) ?_
    refine lv_icmp_ge (tgt := 50) C.1 C.2.1 dX8_sailDay_8 (by decide) (fun hc => ?_) (fun hc => ?_)
    · have hf := g_t hc hf
      refine lv_iconst (v := (0 : Int32)) C.1 C.2.1 dX8_sailDay_50 (by decide) ?_
      refine lv_istore_n (lv' := [(1, .int (0 : Int32)), (0, .ref (ad 0))]) C.1 C.2.1 dX8_sailDay_51 rfl hl (by decide) rfl (fun ls hl => ?_)
      exact w_X8_sailDay_52 hA C hX _ _ _ _ _ _ hf hP hS (lv_sub hl [1, 0] rfl)
    · have hf := g_f hc hf
      refine lv_aload_n C.1 C.2.1 dX8_sailDay_11 rfl (lv_at hl 0 rfl) ?_
      refine gf_X8_31 C hP dX8_sailDay_12 ?_
      refine lv_iload_n C.1 C.2.1 dX8_sailDay_15 rfl (lv_at hl 1 rfl) ?_
      refine lv_aload_n C.1 C.2.1 dX8_sailDay_16 rfl (lv_at hl 0 rfl) ?_
      refine lv_iload_n C.1 C.2.1 dX8_sailDay_17 rfl (lv_at hl 1 rfl) ?_
      refine lv_iconst (v := (3 : Int32)) C.1 C.2.1 dX8_sailDay_18 (by decide) ?_
      obtain ⟨q1, eq1, hf⟩ := g_b hf
      refine cv_X8_55 hA C hX hP hS eq1 ⟨Nat.le_of_ble_eq_true rfl, Nat.le_of_ble_eq_true rfl⟩ hl.1 (Nat.le_of_ble_eq_true rfl) dX8_sailDay_19 (fun H locs hP hS => ?_)
      obtain ⟨hg, hf⟩ := g_if hf
      refine as_m8 hA C hP hS hg dX8_sailDay_22 (fun H locs hP hS => ?_)
      refine lv_aload_n C.1 C.2.1 dX8_sailDay_23 rfl (lv_at hl 0 rfl) ?_
      refine gf_X8_34 C hP dX8_sailDay_24 ?_
      refine lv_iload_n C.1 C.2.1 dX8_sailDay_27 rfl (lv_at hl 1 rfl) ?_
      refine lv_iconst (v := (-1 : Int32)) C.1 C.2.1 dX8_sailDay_28 (by decide) ?_
      obtain ⟨hg, hf⟩ := g_if hf
      refine as_m9 hA C hP hS hg dX8_sailDay_29 (fun H locs hP hS => ?_)
      exact w_X8_sailDay_30 hA C hX ih _ _ _ _ _ hf hP hS (lv_sub hl [0, 1] rfl)
set_option maxRecDepth 100000 in
set_option maxHeartbeats 4000000 in
theorem w_X8_sailDay {p : Program} {l : Launch} {e : Env} {s : State} {m : MethodId} {args : Array Value} {below : List Frame} {meth : Method} {c : Code} {D : va_G} {ids : Nat → ClassId} {ad : Nat → Nat} {rv : Hp} (hA : adOk ad 12) (C : CX p s m args meth c cX8_sailDay 2 none RX8 D ids) (hX : ExM s s.heap) : ∀ (h : Hp) (H : Heap) (locs : List Loc) (ls : Array Slot), f_X8_sailDay h = some rv → wp D (cEM ids ad) ad 12 h H → va_S (inW ad 12) s.heap H locs → lv_has ls 2 [(0, .ref (ad 0))] → W p l e rm_X8_sailDay s m args below meth c H locs 0 0 (MQ below (QW D (cEM ids ad) ad 12 none rv) args s 0 0 (inW ad 12)) (F0 m 0 ls []) := by
  intro h H locs ls hf hP hS hl
  unfold f_X8_sailDay at hf
  refine lv_aload_n C.1 C.2.1 dX8_sailDay_0 rfl (lv_at hl 0 rfl) ?_
  obtain ⟨q1, eq1, hf⟩ := g_b hf
  refine cv_X8_110 hA C hX hP hS eq1 ⟨Nat.le_of_ble_eq_true rfl, Nat.le_of_ble_eq_true rfl⟩ hl.1 (Nat.le_of_ble_eq_true rfl) dX8_sailDay_1 (fun H locs hP hS => ?_)
  refine lv_iconst (v := (0 : Int32)) C.1 C.2.1 dX8_sailDay_4 (by decide) ?_
  refine lv_istore_n (lv' := [(1, .int (0 : Int32)), (0, .ref (ad 0))]) C.1 C.2.1 dX8_sailDay_5 rfl hl (by decide) rfl (fun ls hl => ?_)
  exact w_X8_sailDay_6 hA C hX _ _ _ _ _ _ hf hP hS (lv_sub hl [1, 0] rfl)
theorem c_X8_sailDay (l : Launch) (D : va_G) (ids : Nat → ClassId) (ad : Nat → Nat) (hA : adOk ad 12) {h : Hp} {rv : Hp} (hf : f_X8_sailDay h = some rv) : Met l yX8_sailDay (ws_ yX8_sailDay cX8_sailDay 2 none) rm_X8_sailDay (va_Pc [.ref (ad 0)] (WB D ids (cEM ids ad) ad 12 ExM h)) (QW D (cEM ids ad) ad 12 none rv) 0 0 (inW ad 12) :=
  u_met (own := RX8) (by decide) rfl (Nat.le_of_ble_eq_true rfl) rfl (fun p e s m args below meth c H ls C hX hP hS hl => w_X8_sailDay hA C hX _ _ _ _ hf hP hS hl)
theorem cv_X8_136 {p : Program} {l : Launch} {e : Env} {R : Room} {s : State} {m : MethodId} {args : Array Value} {below : List Frame} {meth : Method} {c : Code} {H : Heap} {locs : List Loc} {Q : State → Prop} {cc : ByteArray} {nL : Nat} {ret : Option FieldType} {pc : Nat} {ls : Array Slot} {rest : List Value} {D : va_G} {ids : Nat → ClassId} {ad : Nat → Nat} {h : Hp} (hA : adOk ad 12) (C : CX p s m args meth c cc nL ret RX8 D ids) (hX : ExM s s.heap) (hP : wp D (cEM ids ad) ad 12 h H) (hS : va_S (inW ad 12) s.heap H locs) {a1 : Int32} {rv : Int32 × Hp} (hf : f_X8_sumOf h a1 = some rv) (hR : 1 + 1 ≤ R.frames ∧ 8 + (2 + 11) + 22 ≤ R.locals) (hsz : ls.size = nL) (hcat : (rest.map fun v => v.category).sum ≤ 8) (hdg : decode cc pc = .ok (.invokevirtual 136, 3)) (kk : ∀ (H1 : Heap) (locs1 : List Loc), wp D (cEM ids ad) ad 12 rv.2 H1 → va_S (inW ad 12) s.heap H1 locs1 → W p l e R s m args below meth c H1 locs1 0 0 Q (F0 m (pc + 3) ls (.int rv.1 :: rest))) : W p l e R s m args below meth c H locs 0 0 Q (F0 m pc ls (.int a1 :: .ref (ad 0) :: rest)) :=
  u_callV (As := [.int a1]) (rv := (some (.int rv.1))) C exM_ok hX (c_X8_sumOf l D ids ad hA hf) q_417 q_418 q_419 q_5 q_420 ⟨rfl, rfl⟩ (by refine ⟨by decide +kernel, by decide +kernel, ?_⟩; show _ = some 1; decide +kernel) hR (by decide) (cE_X8 _) rfl hP hS hsz hcat rfl hdg kk
theorem cv_X8_139 {p : Program} {l : Launch} {e : Env} {R : Room} {s : State} {m : MethodId} {args : Array Value} {below : List Frame} {meth : Method} {c : Code} {H : Heap} {locs : List Loc} {Q : State → Prop} {cc : ByteArray} {nL : Nat} {ret : Option FieldType} {pc : Nat} {ls : Array Slot} {rest : List Value} {D : va_G} {ids : Nat → ClassId} {ad : Nat → Nat} {h : Hp} (hA : adOk ad 12) (C : CX p s m args meth c cc nL ret RX8 D ids) (hX : ExM s s.heap) (hP : wp D (cEM ids ad) ad 12 h H) (hS : va_S (inW ad 12) s.heap H locs) {rv : Hp} (hf : f_X8_sailDay h = some rv) (hR : 5 + 1 ≤ R.frames ∧ 8 + (2 + 11) + 119 ≤ R.locals) (hsz : ls.size = nL) (hcat : (rest.map fun v => v.category).sum ≤ 8) (hdg : decode cc pc = .ok (.invokevirtual 139, 3)) (kk : ∀ (H1 : Heap) (locs1 : List Loc), wp D (cEM ids ad) ad 12 rv H1 → va_S (inW ad 12) s.heap H1 locs1 → W p l e R s m args below meth c H1 locs1 0 0 Q (F0 m (pc + 3) ls (rest))) : W p l e R s m args below meth c H locs 0 0 Q (F0 m pc ls (.ref (ad 0) :: rest)) :=
  u_callV (As := []) (rv := none) C exM_ok hX (c_X8_sailDay l D ids ad hA hf) q_421 q_422 q_423 q_5 q_424 ⟨rfl, rfl⟩ (by refine ⟨by decide +kernel, by decide +kernel, ?_⟩; show _ = some 0; decide +kernel) hR (by decide) (cE_X8 _) rfl hP hS hsz hcat rfl hdg kk
abbrev rm_X8_sail : Room := { frames := 6, cells := 0, slots := 0, locals := 140 }
set_option maxRecDepth 100000 in
set_option maxHeartbeats 4000000 in
theorem w_X8_sail_42 {p : Program} {l : Launch} {e : Env} {s : State} {m : MethodId} {args : Array Value} {below : List Frame} {meth : Method} {c : Code} {D : va_G} {ids : Nat → ClassId} {ad : Nat → Nat} {rv : Int32 × Hp} (hA : adOk ad 12) (C : CX p s m args meth c cX8_sail 4 (some .int) RX8 D ids) (hX : ExM s s.heap) : ∀ (fu : Nat), ∀ (h : Hp) (x1 : Int32) (x2 : Int32) (x3 : Int32) (H : Heap) (locs : List Loc) (ls : Array Slot), f_X8_sail_42 fu h x1 x2 x3 = some rv → wp D (cEM ids ad) ad 12 h H → va_S (inW ad 12) s.heap H locs → lv_has ls 4 [(0, .ref (ad 0)), (1, .int x1), (2, .int x2), (3, .int x3)] → W p l e rm_X8_sail s m args below meth c H locs 0 0 (MQ below (QW D (cEM ids ad) ad 12 (some (.int rv.1)) rv.2) args s 0 0 (inW ad 12)) (F0 m 42 ls []) := by
  intro fu
  induction fu with
  | zero =>
    intro h x1 x2 x3 H locs ls hf hP hS hl
    cases hf
  | succ fu ih =>
    intro h x1 x2 x3 H locs ls hf hP hS hl
    rw [f_X8_sail_42_s] at hf
    refine lv_iload_n C.1 C.2.1 dX8_sail_42 rfl (lv_at hl 3 rfl) ?_
    refine lv_iload_n C.1 C.2.1 dX8_sail_43 rfl (lv_at hl 1 rfl) ?_
    refine lv_icmp_ge (tgt := 57) C.1 C.2.1 dX8_sail_44 (by decide) (fun hc => ?_) (fun hc => ?_)
    · have hf := g_t hc hf
      refine lv_aload_n C.1 C.2.1 dX8_sail_57 rfl (lv_at hl 0 rfl) ?_
      refine lv_iconst (v := (4 : Int32)) C.1 C.2.1 dX8_sail_58 (by decide) ?_
      obtain ⟨q1, eq1, hf⟩ := g_b hf
      refine cv_X8_136 hA C hX hP hS eq1 ⟨Nat.le_of_ble_eq_true rfl, Nat.le_of_ble_eq_true rfl⟩ hl.1 (Nat.le_of_ble_eq_true rfl) dX8_sail_59 (fun H locs hP hS => ?_)
      refine lv_iload_n C.1 C.2.1 dX8_sail_62 rfl (lv_at hl 2 rfl) ?_
      refine lv_isub C.1 C.2.1 dX8_sail_63 ?_
      obtain rfl := Option.some.inj hf
      exact u_iret C hP hS dX8_sail_64
    · have hf := g_f hc hf
      refine lv_aload_n C.1 C.2.1 dX8_sail_47 rfl (lv_at hl 0 rfl) ?_
      obtain ⟨q2, eq2, hf⟩ := g_b hf
      refine cv_X8_139 hA C hX hP hS eq2 ⟨Nat.le_of_ble_eq_true rfl, Nat.le_of_ble_eq_true rfl⟩ hl.1 (Nat.le_of_ble_eq_true rfl) dX8_sail_48 (fun H locs hP hS => ?_)
      refine lv_iinc (v := (x3 + 1)) (lv' := [(3, .int (x3 + 1)), (0, .ref (ad 0)), (1, .int x1), (2, .int x2)]) C.1 C.2.1 dX8_sail_51 hl (k := 3) rfl (by rfl) (by decide) rfl (fun ls hl => ?_)
      refine lv_goto (tgt := 42) C.1 C.2.1 dX8_sail_54 (by decide) ?_
      exact ih _ _ _ _ _ _ _ hf hP hS (lv_sub hl [1, 2, 3, 0] rfl)
set_option maxRecDepth 100000 in
set_option maxHeartbeats 4000000 in
theorem w_X8_sail {p : Program} {l : Launch} {e : Env} {s : State} {m : MethodId} {args : Array Value} {below : List Frame} {meth : Method} {c : Code} {D : va_G} {ids : Nat → ClassId} {ad : Nat → Nat} {rv : Int32 × Hp} (hA : adOk ad 12) (C : CX p s m args meth c cX8_sail 4 (some .int) RX8 D ids) (hX : ExM s s.heap) : ∀ (h : Hp) (a1 : Int32) (H : Heap) (locs : List Loc) (ls : Array Slot), f_X8_sail h a1 = some rv → wp D (cEM ids ad) ad 12 h H → va_S (inW ad 12) s.heap H locs → lv_has ls 4 [(0, .ref (ad 0)), (1, .int a1)] → W p l e rm_X8_sail s m args below meth c H locs 0 0 (MQ below (QW D (cEM ids ad) ad 12 (some (.int rv.1)) rv.2) args s 0 0 (inW ad 12)) (F0 m 0 ls []) := by
  intro h a1 H locs ls hf hP hS hl
  unfold f_X8_sail at hf
  refine lv_iload_n C.1 C.2.1 dX8_sail_0 rfl (lv_at hl 1 rfl) ?_
  refine lv_iconst (v := (1 : Int32)) C.1 C.2.1 dX8_sail_1 (by decide) ?_
  refine lv_bipush (v := (30 : Int32)) C.1 C.2.1 dX8_sail_2 (by decide) ?_
  obtain ⟨q1, eq1, hf⟩ := g_b hf
  refine cv_X8_51 hA C hX hP hS eq1 ⟨Nat.le_of_ble_eq_true rfl, Nat.le_of_ble_eq_true rfl⟩ hl.1 (Nat.le_of_ble_eq_true rfl) dX8_sail_4 (fun H locs hP hS => ?_)
  refine lv_if_ne (tgt := 13) C.1 C.2.1 dX8_sail_7 (by decide) (fun hc => ?_) (fun hc => ?_)
  · have hf := g_f hc hf
    refine lv_aload_n C.1 C.2.1 dX8_sail_13 rfl (lv_at hl 0 rfl) ?_
    refine gf_X8_7 C hP dX8_sail_14 ?_
    refine lv_iconst (v := (0 : Int32)) C.1 C.2.1 dX8_sail_17 (by decide) ?_
    obtain ⟨hg, hf⟩ := g_if hf
    refine al_m1 C hP hg dX8_sail_18 ?_
    refine lv_iload_n C.1 C.2.1 dX8_sail_19 rfl (lv_at hl 1 rfl) ?_
    refine lv_iadd C.1 C.2.1 dX8_sail_20 ?_
    refine lv_sipush (v := (9999 : Int32)) C.1 C.2.1 dX8_sail_21 (by decide) ?_
    refine lv_icmp_le (tgt := 30) C.1 C.2.1 dX8_sail_24 (by decide) (fun hc => ?_) (fun hc => ?_)
    · have hf := g_t hc hf
      refine lv_aload_n C.1 C.2.1 dX8_sail_30 rfl (lv_at hl 0 rfl) ?_
      obtain ⟨q2, eq2, hf⟩ := g_b hf
      refine cv_X8_129 hA C hX hP hS eq2 ⟨Nat.le_of_ble_eq_true rfl, Nat.le_of_ble_eq_true rfl⟩ hl.1 (Nat.le_of_ble_eq_true rfl) dX8_sail_31 (fun H locs hP hS => ?_)
      refine lv_aload_n C.1 C.2.1 dX8_sail_34 rfl (lv_at hl 0 rfl) ?_
      refine lv_iconst (v := (4 : Int32)) C.1 C.2.1 dX8_sail_35 (by decide) ?_
      obtain ⟨q3, eq3, hf⟩ := g_b hf
      refine cv_X8_136 hA C hX hP hS eq3 ⟨Nat.le_of_ble_eq_true rfl, Nat.le_of_ble_eq_true rfl⟩ hl.1 (Nat.le_of_ble_eq_true rfl) dX8_sail_36 (fun H locs hP hS => ?_)
      refine lv_istore_n (lv' := [(2, .int q3.1), (0, .ref (ad 0)), (1, .int a1)]) C.1 C.2.1 dX8_sail_39 rfl hl (by decide) rfl (fun ls hl => ?_)
      refine lv_iconst (v := (0 : Int32)) C.1 C.2.1 dX8_sail_40 (by decide) ?_
      refine lv_istore_n (lv' := [(3, .int (0 : Int32)), (2, .int q3.1), (0, .ref (ad 0)), (1, .int a1)]) C.1 C.2.1 dX8_sail_41 rfl hl (by decide) rfl (fun ls hl => ?_)
      exact w_X8_sail_42 hA C hX _ _ _ _ _ _ _ _ hf hP hS (lv_sub hl [2, 3, 1, 0] rfl)
    · have hf := g_f hc hf
      refine lv_bipush (v := (-3 : Int32)) C.1 C.2.1 dX8_sail_27 (by decide) ?_
      obtain rfl := Option.some.inj hf
      exact u_iret C hP hS dX8_sail_29
  · have hf := g_t hc hf
    refine lv_bipush (v := (-2 : Int32)) C.1 C.2.1 dX8_sail_10 (by decide) ?_
    obtain rfl := Option.some.inj hf
    exact u_iret C hP hS dX8_sail_12
theorem c_X8_sail (l : Launch) (D : va_G) (ids : Nat → ClassId) (ad : Nat → Nat) (hA : adOk ad 12) {a1 : Int32} {h : Hp} {rv : Int32 × Hp} (hf : f_X8_sail h a1 = some rv) : Met l yX8_sail (ws_ yX8_sail cX8_sail 4 (some .int)) rm_X8_sail (va_Pc [.ref (ad 0), .int a1] (WB D ids (cEM ids ad) ad 12 ExM h)) (QW D (cEM ids ad) ad 12 (some (.int rv.1)) rv.2) 0 0 (inW ad 12) :=
  u_met (own := RX8) (by decide) rfl (Nat.le_of_ble_eq_true rfl) rfl (fun p e s m args below meth c H ls C hX hP hS hl => w_X8_sail hA C hX _ _ _ _ _ hf hP hS hl)
theorem as_m5 {p : Program} {l : Launch} {e : Env} {R : Room} {s : State} {m : MethodId} {args : Array Value} {below : List Frame} {meth : Method} {c : Code} {H : Heap} {locs : List Loc} {cells slots : Nat} {Q : State → Prop} {cc : ByteArray} {nL : Nat} {ret : Option FieldType} {own : String} {pc : Nat} {ls : Array Slot} {rest : List Value} {D : va_G} {ids : Nat → ClassId} {ad : Nat → Nat} {h : Hp} {i x : Int32} (hA : adOk ad 12) (C : CX p s m args meth c cc nL ret own D ids) (hP : wp D (cEM ids ad) ad 12 h H) (hS : va_S (inW ad 12) s.heap H locs) (hg : inb i 60 = true) (hdg : decode cc pc = .ok (.iastore, 1)) (kk : ∀ (H1 : Heap) (locs1 : List Loc), wp D (cEM ids ad) ad 12 (hs h 5 i.toNatClampNeg x) H1 → va_S (inW ad 12) s.heap H1 locs1 → W p l e R s m args below meth c H1 locs1 cells slots Q (F0 m (pc + 1) ls rest)) : W p l e R s m args below meth c H locs cells slots Q (F0 m pc ls (.int x :: .int i :: .ref (ad 5) :: rest)) :=
  u_iast hA C hP hS (by decide) cE_m5 hg hdg kk
theorem pf_X8_142 {p : Program} {l : Launch} {e : Env} {R : Room} {s : State} {m : MethodId} {args : Array Value} {below : List Frame} {meth : Method} {c : Code} {H : Heap} {locs : List Loc} {cells slots : Nat} {Q : State → Prop} {cc : ByteArray} {nL : Nat} {ret : Option FieldType} {pc : Nat} {ls : Array Slot} {rest : List Value} {D : va_G} {ids : Nat → ClassId} {ad : Nat → Nat} {h : Hp} {x : Int32} (hA : adOk ad 12) (C : CX p s m args meth c cc nL ret RX8 D ids) (hP : wp D (cEM ids ad) ad 12 h H) (hS : va_S (inW ad 12) s.heap H locs) (hdg : decode cc pc = .ok (.putfield 142, 3)) (kk : ∀ (H1 : Heap) (locs1 : List Loc), wp D (cEM ids ad) ad 12 (hs h 0 13 x) H1 → va_S (inW ad 12) s.heap H1 locs1 → W p l e R s m args below meth c H1 locs1 cells slots Q (F0 m (pc + 3) ls rest)) : W p l e R s m args below meth c H locs cells slots Q (F0 m pc ls (.int x :: .ref (ad 0) :: rest)) :=
  u_put hA C hP hS (by decide) cE_X8 rfl inX8 tyX8 tyX8_ok nmX8 13 (by decide) rfl q_240 rfl (ty := .int) rfl rfl rfl hdg kk
abbrev rm_X8_type : Room := { frames := 0, cells := 0, slots := 0, locals := 0 }
set_option maxRecDepth 100000 in
set_option maxHeartbeats 4000000 in
theorem w_X8_type_32 {p : Program} {l : Launch} {e : Env} {s : State} {m : MethodId} {args : Array Value} {below : List Frame} {meth : Method} {c : Code} {D : va_G} {ids : Nat → ClassId} {ad : Nat → Nat} {rv : Int32 × Hp} (hA : adOk ad 12) (C : CX p s m args meth c cX8_type 2 (some .int) RX8 D ids) (hX : ExM s s.heap) : ∀ (h : Hp) (H : Heap) (locs : List Loc) (ls : Array Slot), f_X8_type_32 h = some rv → wp D (cEM ids ad) ad 12 h H → va_S (inW ad 12) s.heap H locs → lv_has ls 2 [(0, .ref (ad 0))] → W p l e rm_X8_type s m args below meth c H locs 0 0 (MQ below (QW D (cEM ids ad) ad 12 (some (.int rv.1)) rv.2) args s 0 0 (inW ad 12)) (F0 m 32 ls []) := by
  intro h H locs ls hf hP hS hl
  unfold f_X8_type_32 at hf
  refine lv_aload_n C.1 C.2.1 dX8_type_32 rfl (lv_at hl 0 rfl) ?_
  refine gf_X8_142 C hP dX8_type_33 ?_
  obtain rfl := Option.some.inj hf
  exact u_iret C hP hS dX8_type_36
set_option maxRecDepth 100000 in
set_option maxHeartbeats 4000000 in
theorem w_X8_type {p : Program} {l : Launch} {e : Env} {s : State} {m : MethodId} {args : Array Value} {below : List Frame} {meth : Method} {c : Code} {D : va_G} {ids : Nat → ClassId} {ad : Nat → Nat} {rv : Int32 × Hp} (hA : adOk ad 12) (C : CX p s m args meth c cX8_type 2 (some .int) RX8 D ids) (hX : ExM s s.heap) : ∀ (h : Hp) (a1 : Int32) (H : Heap) (locs : List Loc) (ls : Array Slot), f_X8_type h a1 = some rv → wp D (cEM ids ad) ad 12 h H → va_S (inW ad 12) s.heap H locs → lv_has ls 2 [(0, .ref (ad 0)), (1, .int a1)] → W p l e rm_X8_type s m args below meth c H locs 0 0 (MQ below (QW D (cEM ids ad) ad 12 (some (.int rv.1)) rv.2) args s 0 0 (inW ad 12)) (F0 m 0 ls []) := by
  intro h a1 H locs ls hf hP hS hl
  unfold f_X8_type at hf
  refine lv_aload_n C.1 C.2.1 dX8_type_0 rfl (lv_at hl 0 rfl) ?_
  refine gf_X8_142 C hP dX8_type_1 ?_
  refine lv_bipush (v := (60 : Int32)) C.1 C.2.1 dX8_type_4 (by decide) ?_
  refine lv_icmp_ne (tgt := 12) C.1 C.2.1 dX8_type_6 (by decide) (fun hc => ?_) (fun hc => ?_)
  · have hf := g_f hc hf
    refine lv_aload_n C.1 C.2.1 dX8_type_12 rfl (lv_at hl 0 rfl) ?_
    refine gf_X8_22 C hP dX8_type_13 ?_
    refine lv_aload_n C.1 C.2.1 dX8_type_16 rfl (lv_at hl 0 rfl) ?_
    refine gf_X8_142 C hP dX8_type_17 ?_
    refine lv_iload_n C.1 C.2.1 dX8_type_20 rfl (lv_at hl 1 rfl) ?_
    obtain ⟨hg, hf⟩ := g_if hf
    refine as_m5 hA C hP hS hg dX8_type_21 (fun H locs hP hS => ?_)
    refine lv_aload_n C.1 C.2.1 dX8_type_22 rfl (lv_at hl 0 rfl) ?_
    refine lv_dup C.1 C.2.1 dX8_type_23 rfl ?_
    refine gf_X8_142 C hP dX8_type_24 ?_
    refine lv_iconst (v := (1 : Int32)) C.1 C.2.1 dX8_type_27 (by decide) ?_
    refine lv_iadd C.1 C.2.1 dX8_type_28 ?_
    refine pf_X8_142 hA C hP hS dX8_type_29 (fun H locs hP hS => ?_)
    exact w_X8_type_32 hA C hX _ _ _ _ hf hP hS (lv_sub hl [0] rfl)
  · have hf := g_t hc hf
    refine lv_bipush (v := (-3 : Int32)) C.1 C.2.1 dX8_type_9 (by decide) ?_
    obtain rfl := Option.some.inj hf
    exact u_iret C hP hS dX8_type_11
theorem c_X8_type (l : Launch) (D : va_G) (ids : Nat → ClassId) (ad : Nat → Nat) (hA : adOk ad 12) {a1 : Int32} {h : Hp} {rv : Int32 × Hp} (hf : f_X8_type h a1 = some rv) : Met l yX8_type (ws_ yX8_type cX8_type 2 (some .int)) rm_X8_type (va_Pc [.ref (ad 0), .int a1] (WB D ids (cEM ids ad) ad 12 ExM h)) (QW D (cEM ids ad) ad 12 (some (.int rv.1)) rv.2) 0 0 (inW ad 12) :=
  u_met (own := RX8) (by decide) rfl (Nat.le_of_ble_eq_true rfl) rfl (fun p e s m args below meth c H ls C hX hP hS hl => w_X8_type hA C hX _ _ _ _ _ hf hP hS hl)
abbrev rm_X8_clearText : Room := { frames := 0, cells := 0, slots := 0, locals := 0 }
set_option maxRecDepth 100000 in
set_option maxHeartbeats 4000000 in
theorem w_X8_clearText {p : Program} {l : Launch} {e : Env} {s : State} {m : MethodId} {args : Array Value} {below : List Frame} {meth : Method} {c : Code} {D : va_G} {ids : Nat → ClassId} {ad : Nat → Nat} {rv : Int32 × Hp} (hA : adOk ad 12) (C : CX p s m args meth c cX8_clearText 2 (some .int) RX8 D ids) (hX : ExM s s.heap) : ∀ (h : Hp) (H : Heap) (locs : List Loc) (ls : Array Slot), f_X8_clearText h = some rv → wp D (cEM ids ad) ad 12 h H → va_S (inW ad 12) s.heap H locs → lv_has ls 2 [(0, .ref (ad 0))] → W p l e rm_X8_clearText s m args below meth c H locs 0 0 (MQ below (QW D (cEM ids ad) ad 12 (some (.int rv.1)) rv.2) args s 0 0 (inW ad 12)) (F0 m 0 ls []) := by
  intro h H locs ls hf hP hS hl
  unfold f_X8_clearText at hf
  refine lv_aload_n C.1 C.2.1 dX8_clearText_0 rfl (lv_at hl 0 rfl) ?_
  refine gf_X8_142 C hP dX8_clearText_1 ?_
  refine lv_istore_n (lv' := [(1, .int (h 0 13)), (0, .ref (ad 0))]) C.1 C.2.1 dX8_clearText_4 rfl hl (by decide) rfl (fun ls hl => ?_)
  refine lv_aload_n C.1 C.2.1 dX8_clearText_5 rfl (lv_at hl 1 rfl) ?_
  refine lv_iconst (v := (0 : Int32)) C.1 C.2.1 dX8_clearText_6 (by decide) ?_
  refine pf_X8_142 hA C hP hS dX8_clearText_7 (fun H locs hP hS => ?_)
  refine lv_iload_n C.1 C.2.1 dX8_clearText_10 rfl (lv_at hl 0 rfl) ?_
  obtain rfl := Option.some.inj hf
  exact u_iret C hP hS dX8_clearText_11
theorem c_X8_clearText (l : Launch) (D : va_G) (ids : Nat → ClassId) (ad : Nat → Nat) (hA : adOk ad 12) {h : Hp} {rv : Int32 × Hp} (hf : f_X8_clearText h = some rv) : Met l yX8_clearText (ws_ yX8_clearText cX8_clearText 2 (some .int)) rm_X8_clearText (va_Pc [.ref (ad 0)] (WB D ids (cEM ids ad) ad 12 ExM h)) (QW D (cEM ids ad) ad 12 (some (.int rv.1)) rv.2) 0 0 (inW ad 12) :=
  u_met (own := RX8) (by decide) rfl (Nat.le_of_ble_eq_true rfl) rfl (fun p e s m args below meth c H ls C hX hP hS hl => w_X8_clearText hA C hX _ _ _ _ hf hP hS hl)
abbrev rm_X8_fault : Room := { frames := 6, cells := 0, slots := 0, locals := 132 }
set_option maxRecDepth 100000 in
set_option maxHeartbeats 4000000 in
theorem w_X8_fault {p : Program} {l : Launch} {e : Env} {s : State} {m : MethodId} {args : Array Value} {below : List Frame} {meth : Method} {c : Code} {D : va_G} {ids : Nat → ClassId} {ad : Nat → Nat} {rv : Int32 × Hp} (hA : adOk ad 12) (C : CX p s m args meth c cX8_fault 2 (some .int) RX8 D ids) (hX : ExM s s.heap) : ∀ (h : Hp) (H : Heap) (locs : List Loc) (ls : Array Slot), f_X8_fault h = some rv → wp D (cEM ids ad) ad 12 h H → va_S (inW ad 12) s.heap H locs → lv_has ls 2 [(0, .ref (ad 0))] → W p l e rm_X8_fault s m args below meth c H locs 0 0 (MQ below (QW D (cEM ids ad) ad 12 (some (.int rv.1)) rv.2) args s 0 0 (inW ad 12)) (F0 m 0 ls []) := by
  intro h H locs ls hf hP hS hl
  unfold f_X8_fault at hf
  refine lv_aload_n C.1 C.2.1 dX8_fault_0 rfl (lv_at hl 0 rfl) ?_
  obtain ⟨q1, eq1, hf⟩ := g_b hf
  refine cv_X8_165 hA C hX hP hS eq1 ⟨Nat.le_of_ble_eq_true rfl, Nat.le_of_ble_eq_true rfl⟩ hl.1 (Nat.le_of_ble_eq_true rfl) dX8_fault_1 (fun H locs hP hS => ?_)
  refine lv_istore_n (lv' := [(1, .int q1.1), (0, .ref (ad 0))]) C.1 C.2.1 dX8_fault_4 rfl hl (by decide) rfl (fun ls hl => ?_)
  refine lv_iload_n C.1 C.2.1 dX8_fault_5 rfl (lv_at hl 0 rfl) ?_
  refine lv_if_ge (tgt := 16) C.1 C.2.1 dX8_fault_6 (by decide) (fun hc => ?_) (fun hc => ?_)
  · have hf := g_t hc hf
    refine lv_bipush (v := (-5 : Int32)) C.1 C.2.1 dX8_fault_16 (by decide) ?_
    obtain rfl := Option.some.inj hf
    exact u_iret C hP hS dX8_fault_18
  · have hf := g_f hc hf
    refine lv_bipush (v := (-100 : Int32)) C.1 C.2.1 dX8_fault_9 (by decide) ?_
    refine lv_iload_n C.1 C.2.1 dX8_fault_11 rfl (lv_at hl 0 rfl) ?_
    refine lv_isub C.1 C.2.1 dX8_fault_12 ?_
    refine lv_goto (tgt := 18) C.1 C.2.1 dX8_fault_13 (by decide) ?_
    obtain rfl := Option.some.inj hf
    exact u_iret C hP hS dX8_fault_18
theorem c_X8_fault (l : Launch) (D : va_G) (ids : Nat → ClassId) (ad : Nat → Nat) (hA : adOk ad 12) {h : Hp} {rv : Int32 × Hp} (hf : f_X8_fault h = some rv) : Met l yX8_fault (ws_ yX8_fault cX8_fault 2 (some .int)) rm_X8_fault (va_Pc [.ref (ad 0)] (WB D ids (cEM ids ad) ad 12 ExM h)) (QW D (cEM ids ad) ad 12 (some (.int rv.1)) rv.2) 0 0 (inW ad 12) :=
  u_met (own := RX8) (by decide) rfl (Nat.le_of_ble_eq_true rfl) rfl (fun p e s m args below meth c H ls C hX hP hS hl => w_X8_fault hA C hX _ _ _ _ hf hP hS hl)
abbrev rm_X8_undo : Room := { frames := 0, cells := 0, slots := 0, locals := 0 }
set_option maxRecDepth 100000 in
set_option maxHeartbeats 4000000 in
theorem w_X8_undo_22 {p : Program} {l : Launch} {e : Env} {s : State} {m : MethodId} {args : Array Value} {below : List Frame} {meth : Method} {c : Code} {D : va_G} {ids : Nat → ClassId} {ad : Nat → Nat} {rv : Int32 × Hp} (hA : adOk ad 12) (C : CX p s m args meth c cX8_undo 2 (some .int) RX8 D ids) (hX : ExM s s.heap) : ∀ (fu : Nat), ∀ (h : Hp) (x1 : Int32) (H : Heap) (locs : List Loc) (ls : Array Slot), f_X8_undo_22 fu h x1 = some rv → wp D (cEM ids ad) ad 12 h H → va_S (inW ad 12) s.heap H locs → lv_has ls 2 [(0, .ref (ad 0)), (1, .int x1)] → W p l e rm_X8_undo s m args below meth c H locs 0 0 (MQ below (QW D (cEM ids ad) ad 12 (some (.int rv.1)) rv.2) args s 0 0 (inW ad 12)) (F0 m 22 ls []) := by
  intro fu
  induction fu with
  | zero =>
    intro h x1 H locs ls hf hP hS hl
    cases hf
  | succ fu ih =>
    intro h x1 H locs ls hf hP hS hl
    rw [f_X8_undo_22_s] at hf
    refine lv_iload_n C.1 C.2.1 dX8_undo_22 rfl (lv_at hl 1 rfl) ?_
    refine lv_bipush (v := (36 : Int32)) C.1 C.2.1 dX8_undo_23 (by decide) ?_
    refine lv_icmp_ge (tgt := 54) C.1 C.2.1 dX8_undo_25 (by decide) (fun hc => ?_) (fun hc => ?_)
    · have hf := g_t hc hf
      refine lv_aload_n C.1 C.2.1 dX8_undo_54 rfl (lv_at hl 0 rfl) ?_
      refine gf_X8_47 C hP dX8_undo_55 ?_
      obtain rfl := Option.some.inj hf
      exact u_iret C hP hS dX8_undo_58
    · have hf := g_f hc hf
      refine lv_aload_n C.1 C.2.1 dX8_undo_28 rfl (lv_at hl 0 rfl) ?_
      refine gf_X8_7 C hP dX8_undo_29 ?_
      refine lv_iload_n C.1 C.2.1 dX8_undo_32 rfl (lv_at hl 1 rfl) ?_
      refine lv_aload_n C.1 C.2.1 dX8_undo_33 rfl (lv_at hl 0 rfl) ?_
      refine gf_X8_19 C hP dX8_undo_34 ?_
      refine lv_bipush (v := (36 : Int32)) C.1 C.2.1 dX8_undo_37 (by decide) ?_
      refine lv_aload_n C.1 C.2.1 dX8_undo_39 rfl (lv_at hl 0 rfl) ?_
      refine gf_X8_47 C hP dX8_undo_40 ?_
      refine lv_imul C.1 C.2.1 dX8_undo_43 ?_
      refine lv_iload_n C.1 C.2.1 dX8_undo_44 rfl (lv_at hl 1 rfl) ?_
      refine lv_iadd C.1 C.2.1 dX8_undo_45 ?_
      obtain ⟨hg, hf⟩ := g_if hf
      refine al_m4 C hP hg dX8_undo_46 ?_
      obtain ⟨hg, hf⟩ := g_if hf
      refine as_m1 hA C hP hS hg dX8_undo_47 (fun H locs hP hS => ?_)
      refine lv_iinc (v := (x1 + 1)) (lv' := [(1, .int (x1 + 1)), (0, .ref (ad 0))]) C.1 C.2.1 dX8_undo_48 hl (k := 1) rfl (by rfl) (by decide) rfl (fun ls hl => ?_)
      refine lv_goto (tgt := 22) C.1 C.2.1 dX8_undo_51 (by decide) ?_
      exact ih _ _ _ _ _ hf hP hS (lv_sub hl [1, 0] rfl)
set_option maxRecDepth 100000 in
set_option maxHeartbeats 4000000 in
theorem w_X8_undo {p : Program} {l : Launch} {e : Env} {s : State} {m : MethodId} {args : Array Value} {below : List Frame} {meth : Method} {c : Code} {D : va_G} {ids : Nat → ClassId} {ad : Nat → Nat} {rv : Int32 × Hp} (hA : adOk ad 12) (C : CX p s m args meth c cX8_undo 2 (some .int) RX8 D ids) (hX : ExM s s.heap) : ∀ (h : Hp) (H : Heap) (locs : List Loc) (ls : Array Slot), f_X8_undo h = some rv → wp D (cEM ids ad) ad 12 h H → va_S (inW ad 12) s.heap H locs → lv_has ls 2 [(0, .ref (ad 0))] → W p l e rm_X8_undo s m args below meth c H locs 0 0 (MQ below (QW D (cEM ids ad) ad 12 (some (.int rv.1)) rv.2) args s 0 0 (inW ad 12)) (F0 m 0 ls []) := by
  intro h H locs ls hf hP hS hl
  unfold f_X8_undo at hf
  refine lv_aload_n C.1 C.2.1 dX8_undo_0 rfl (lv_at hl 0 rfl) ?_
  refine gf_X8_47 C hP dX8_undo_1 ?_
  refine lv_if_ne (tgt := 10) C.1 C.2.1 dX8_undo_4 (by decide) (fun hc => ?_) (fun hc => ?_)
  · have hf := g_f hc hf
    refine lv_aload_n C.1 C.2.1 dX8_undo_10 rfl (lv_at hl 0 rfl) ?_
    refine lv_dup C.1 C.2.1 dX8_undo_11 rfl ?_
    refine gf_X8_47 C hP dX8_undo_12 ?_
    refine lv_iconst (v := (1 : Int32)) C.1 C.2.1 dX8_undo_15 (by decide) ?_
    refine lv_isub C.1 C.2.1 dX8_undo_16 ?_
    refine pf_X8_47 hA C hP hS dX8_undo_17 (fun H locs hP hS => ?_)
    refine lv_iconst (v := (0 : Int32)) C.1 C.2.1 dX8_undo_20 (by decide) ?_
    refine lv_istore_n (lv' := [(1, .int (0 : Int32)), (0, .ref (ad 0))]) C.1 C.2.1 dX8_undo_21 rfl hl (by decide) rfl (fun ls hl => ?_)
    exact w_X8_undo_22 hA C hX _ _ _ _ _ _ hf hP hS (lv_sub hl [1, 0] rfl)
  · have hf := g_t hc hf
    refine lv_bipush (v := (-5 : Int32)) C.1 C.2.1 dX8_undo_7 (by decide) ?_
    obtain rfl := Option.some.inj hf
    exact u_iret C hP hS dX8_undo_9
theorem c_X8_undo (l : Launch) (D : va_G) (ids : Nat → ClassId) (ad : Nat → Nat) (hA : adOk ad 12) {h : Hp} {rv : Int32 × Hp} (hf : f_X8_undo h = some rv) : Met l yX8_undo (ws_ yX8_undo cX8_undo 2 (some .int)) rm_X8_undo (va_Pc [.ref (ad 0)] (WB D ids (cEM ids ad) ad 12 ExM h)) (QW D (cEM ids ad) ad 12 (some (.int rv.1)) rv.2) 0 0 (inW ad 12) :=
  u_met (own := RX8) (by decide) rfl (Nat.le_of_ble_eq_true rfl) rfl (fun p e s m args below meth c H ls C hX hP hS hl => w_X8_undo hA C hX _ _ _ _ hf hP hS hl)
theorem pf_X8_168 {p : Program} {l : Launch} {e : Env} {R : Room} {s : State} {m : MethodId} {args : Array Value} {below : List Frame} {meth : Method} {c : Code} {H : Heap} {locs : List Loc} {cells slots : Nat} {Q : State → Prop} {cc : ByteArray} {nL : Nat} {ret : Option FieldType} {pc : Nat} {ls : Array Slot} {rest : List Value} {D : va_G} {ids : Nat → ClassId} {ad : Nat → Nat} {h : Hp} {x : Int32} (hA : adOk ad 12) (C : CX p s m args meth c cc nL ret RX8 D ids) (hz : isb x = true) (hP : wp D (cEM ids ad) ad 12 h H) (hS : va_S (inW ad 12) s.heap H locs) (hdg : decode cc pc = .ok (.putfield 168, 3)) (kk : ∀ (H1 : Heap) (locs1 : List Loc), wp D (cEM ids ad) ad 12 (hs h 0 14 x) H1 → va_S (inW ad 12) s.heap H1 locs1 → W p l e R s m args below meth c H1 locs1 cells slots Q (F0 m (pc + 3) ls rest)) : W p l e R s m args below meth c H locs cells slots Q (F0 m pc ls (.int x :: .ref (ad 0) :: rest)) :=
  u_put hA C hP hS (by decide) cE_X8 rfl inX8 tyX8 tyX8_ok nmX8 14 (by decide) rfl q_526 rfl (ty := .boolean) rfl (isb_n hz).1 (isb_n hz).2 hdg kk
theorem gf_X8_13 {p : Program} {l : Launch} {e : Env} {R : Room} {s : State} {m : MethodId} {args : Array Value} {below : List Frame} {meth : Method} {c : Code} {H : Heap} {locs : List Loc} {cells slots : Nat} {Q : State → Prop} {cc : ByteArray} {nL : Nat} {ret : Option FieldType} {pc : Nat} {ls : Array Slot} {rest : List Value} {D : va_G} {ids : Nat → ClassId} {ad : Nat → Nat} {h : Hp} (C : CX p s m args meth c cc nL ret RX8 D ids) (hP : wp D (cEM ids ad) ad 12 h H) (hdg : decode cc pc = .ok (.getfield 13, 3)) (kk : W p l e R s m args below meth c H locs cells slots Q (F0 m (pc + 3) ls (.ref (ad 2) :: rest))) : W p l e R s m args below meth c H locs cells slots Q (F0 m pc ls (.ref (ad 0) :: rest)) :=
  u_get C hP (by decide) cE_X8 rfl inX8 1 (by decide) rfl q_115 hdg kk
theorem as_m2 {p : Program} {l : Launch} {e : Env} {R : Room} {s : State} {m : MethodId} {args : Array Value} {below : List Frame} {meth : Method} {c : Code} {H : Heap} {locs : List Loc} {cells slots : Nat} {Q : State → Prop} {cc : ByteArray} {nL : Nat} {ret : Option FieldType} {own : String} {pc : Nat} {ls : Array Slot} {rest : List Value} {D : va_G} {ids : Nat → ClassId} {ad : Nat → Nat} {h : Hp} {i x : Int32} (hA : adOk ad 12) (C : CX p s m args meth c cc nL ret own D ids) (hP : wp D (cEM ids ad) ad 12 h H) (hS : va_S (inW ad 12) s.heap H locs) (hg : inb i 36 = true) (hdg : decode cc pc = .ok (.iastore, 1)) (kk : ∀ (H1 : Heap) (locs1 : List Loc), wp D (cEM ids ad) ad 12 (hs h 2 i.toNatClampNeg x) H1 → va_S (inW ad 12) s.heap H1 locs1 → W p l e R s m args below meth c H1 locs1 cells slots Q (F0 m (pc + 1) ls rest)) : W p l e R s m args below meth c H locs cells slots Q (F0 m pc ls (.int x :: .int i :: .ref (ad 2) :: rest)) :=
  u_iast hA C hP hS (by decide) cE_m2 hg hdg kk
abbrev rm_X8_keep : Room := { frames := 0, cells := 0, slots := 0, locals := 0 }
set_option maxRecDepth 100000 in
set_option maxHeartbeats 4000000 in
theorem w_X8_keep_31 {p : Program} {l : Launch} {e : Env} {s : State} {m : MethodId} {args : Array Value} {below : List Frame} {meth : Method} {c : Code} {D : va_G} {ids : Nat → ClassId} {ad : Nat → Nat} {rv : Int32 × Hp} (hA : adOk ad 12) (C : CX p s m args meth c cX8_keep 2 (some .int) RX8 D ids) (hX : ExM s s.heap) : ∀ (h : Hp) (H : Heap) (locs : List Loc) (ls : Array Slot), f_X8_keep_31 h = some rv → wp D (cEM ids ad) ad 12 h H → va_S (inW ad 12) s.heap H locs → lv_has ls 2 [(0, .ref (ad 0))] → W p l e rm_X8_keep s m args below meth c H locs 0 0 (MQ below (QW D (cEM ids ad) ad 12 (some (.int rv.1)) rv.2) args s 0 0 (inW ad 12)) (F0 m 31 ls []) := by
  intro h H locs ls hf hP hS hl
  unfold f_X8_keep_31 at hf
  refine lv_aload_n C.1 C.2.1 dX8_keep_31 rfl (lv_at hl 0 rfl) ?_
  refine gf_X8_7 C hP dX8_keep_32 ?_
  refine lv_iconst (v := (0 : Int32)) C.1 C.2.1 dX8_keep_35 (by decide) ?_
  obtain ⟨hg, hf⟩ := g_if hf
  refine al_m1 C hP hg dX8_keep_36 ?_
  obtain rfl := Option.some.inj hf
  exact u_iret C hP hS dX8_keep_37
set_option maxRecDepth 100000 in
set_option maxHeartbeats 4000000 in
theorem w_X8_keep_2 {p : Program} {l : Launch} {e : Env} {s : State} {m : MethodId} {args : Array Value} {below : List Frame} {meth : Method} {c : Code} {D : va_G} {ids : Nat → ClassId} {ad : Nat → Nat} {rv : Int32 × Hp} (hA : adOk ad 12) (C : CX p s m args meth c cX8_keep 2 (some .int) RX8 D ids) (hX : ExM s s.heap) : ∀ (fu : Nat), ∀ (h : Hp) (x1 : Int32) (H : Heap) (locs : List Loc) (ls : Array Slot), f_X8_keep_2 fu h x1 = some rv → wp D (cEM ids ad) ad 12 h H → va_S (inW ad 12) s.heap H locs → lv_has ls 2 [(0, .ref (ad 0)), (1, .int x1)] → W p l e rm_X8_keep s m args below meth c H locs 0 0 (MQ below (QW D (cEM ids ad) ad 12 (some (.int rv.1)) rv.2) args s 0 0 (inW ad 12)) (F0 m 2 ls []) := by
  intro fu
  induction fu with
  | zero =>
    intro h x1 H locs ls hf hP hS hl
    cases hf
  | succ fu ih =>
    intro h x1 H locs ls hf hP hS hl
    rw [f_X8_keep_2_s] at hf
    refine lv_iload_n C.1 C.2.1 dX8_keep_2 rfl (lv_at hl 1 rfl) ?_
    refine lv_bipush (v := (36 : Int32)) C.1 C.2.1 dX8_keep_3 (by decide) ?_
    refine lv_icmp_ge (tgt := 26) C.1 C.2.1 dX8_keep_5 (by decide) (fun hc => ?_) (fun hc => ?_)
    · have hf := g_t hc hf
      refine lv_aload_n C.1 C.2.1 dX8_keep_26 rfl (lv_at hl 0 rfl) ?_
      refine lv_iconst (v := (1 : Int32)) C.1 C.2.1 dX8_keep_27 (by decide) ?_
      refine pf_X8_168 hA C isb_1 hP hS dX8_keep_28 (fun H locs hP hS => ?_)
      exact w_X8_keep_31 hA C hX _ _ _ _ hf hP hS (lv_sub hl [0] rfl)
    · have hf := g_f hc hf
      refine lv_aload_n C.1 C.2.1 dX8_keep_8 rfl (lv_at hl 0 rfl) ?_
      refine gf_X8_13 C hP dX8_keep_9 ?_
      refine lv_iload_n C.1 C.2.1 dX8_keep_12 rfl (lv_at hl 1 rfl) ?_
      refine lv_aload_n C.1 C.2.1 dX8_keep_13 rfl (lv_at hl 0 rfl) ?_
      refine gf_X8_7 C hP dX8_keep_14 ?_
      refine lv_iload_n C.1 C.2.1 dX8_keep_17 rfl (lv_at hl 1 rfl) ?_
      obtain ⟨hg, hf⟩ := g_if hf
      refine al_m1 C hP hg dX8_keep_18 ?_
      obtain ⟨hg, hf⟩ := g_if hf
      refine as_m2 hA C hP hS hg dX8_keep_19 (fun H locs hP hS => ?_)
      refine lv_iinc (v := (x1 + 1)) (lv' := [(1, .int (x1 + 1)), (0, .ref (ad 0))]) C.1 C.2.1 dX8_keep_20 hl (k := 1) rfl (by rfl) (by decide) rfl (fun ls hl => ?_)
      refine lv_goto (tgt := 2) C.1 C.2.1 dX8_keep_23 (by decide) ?_
      exact ih _ _ _ _ _ hf hP hS (lv_sub hl [1, 0] rfl)
set_option maxRecDepth 100000 in
set_option maxHeartbeats 4000000 in
theorem w_X8_keep {p : Program} {l : Launch} {e : Env} {s : State} {m : MethodId} {args : Array Value} {below : List Frame} {meth : Method} {c : Code} {D : va_G} {ids : Nat → ClassId} {ad : Nat → Nat} {rv : Int32 × Hp} (hA : adOk ad 12) (C : CX p s m args meth c cX8_keep 2 (some .int) RX8 D ids) (hX : ExM s s.heap) : ∀ (h : Hp) (H : Heap) (locs : List Loc) (ls : Array Slot), f_X8_keep h = some rv → wp D (cEM ids ad) ad 12 h H → va_S (inW ad 12) s.heap H locs → lv_has ls 2 [(0, .ref (ad 0))] → W p l e rm_X8_keep s m args below meth c H locs 0 0 (MQ below (QW D (cEM ids ad) ad 12 (some (.int rv.1)) rv.2) args s 0 0 (inW ad 12)) (F0 m 0 ls []) := by
  intro h H locs ls hf hP hS hl
  unfold f_X8_keep at hf
  refine lv_iconst (v := (0 : Int32)) C.1 C.2.1 dX8_keep_0 (by decide) ?_
  refine lv_istore_n (lv' := [(1, .int (0 : Int32)), (0, .ref (ad 0))]) C.1 C.2.1 dX8_keep_1 rfl hl (by decide) rfl (fun ls hl => ?_)
  exact w_X8_keep_2 hA C hX _ _ _ _ _ _ hf hP hS (lv_sub hl [1, 0] rfl)
theorem c_X8_keep (l : Launch) (D : va_G) (ids : Nat → ClassId) (ad : Nat → Nat) (hA : adOk ad 12) {h : Hp} {rv : Int32 × Hp} (hf : f_X8_keep h = some rv) : Met l yX8_keep (ws_ yX8_keep cX8_keep 2 (some .int)) rm_X8_keep (va_Pc [.ref (ad 0)] (WB D ids (cEM ids ad) ad 12 ExM h)) (QW D (cEM ids ad) ad 12 (some (.int rv.1)) rv.2) 0 0 (inW ad 12) :=
  u_met (own := RX8) (by decide) rfl (Nat.le_of_ble_eq_true rfl) rfl (fun p e s m args below meth c H ls C hX hP hS hl => w_X8_keep hA C hX _ _ _ _ hf hP hS hl)
theorem gf_X8_168 {p : Program} {l : Launch} {e : Env} {R : Room} {s : State} {m : MethodId} {args : Array Value} {below : List Frame} {meth : Method} {c : Code} {H : Heap} {locs : List Loc} {cells slots : Nat} {Q : State → Prop} {cc : ByteArray} {nL : Nat} {ret : Option FieldType} {pc : Nat} {ls : Array Slot} {rest : List Value} {D : va_G} {ids : Nat → ClassId} {ad : Nat → Nat} {h : Hp} (C : CX p s m args meth c cc nL ret RX8 D ids) (hP : wp D (cEM ids ad) ad 12 h H) (hdg : decode cc pc = .ok (.getfield 168, 3)) (kk : W p l e R s m args below meth c H locs cells slots Q (F0 m (pc + 3) ls (.int (h 0 14) :: rest))) : W p l e R s m args below meth c H locs cells slots Q (F0 m pc ls (.ref (ad 0) :: rest)) :=
  u_get C hP (by decide) cE_X8 rfl inX8 14 (by decide) rfl q_526 hdg kk
theorem al_m2 {p : Program} {l : Launch} {e : Env} {R : Room} {s : State} {m : MethodId} {args : Array Value} {below : List Frame} {meth : Method} {c : Code} {H : Heap} {locs : List Loc} {cells slots : Nat} {Q : State → Prop} {cc : ByteArray} {nL : Nat} {ret : Option FieldType} {own : String} {pc : Nat} {ls : Array Slot} {rest : List Value} {D : va_G} {ids : Nat → ClassId} {ad : Nat → Nat} {h : Hp} (C : CX p s m args meth c cc nL ret own D ids) (hP : wp D (cEM ids ad) ad 12 h H) {i : Int32} (hg : inb i 36 = true) (hdg : decode cc pc = .ok (.iaload, 1)) (kk : W p l e R s m args below meth c H locs cells slots Q (F0 m (pc + 1) ls (.int (h 2 i.toNatClampNeg) :: rest))) : W p l e R s m args below meth c H locs cells slots Q (F0 m pc ls (.int i :: .ref (ad 2) :: rest)) :=
  u_iald C hP (by decide) cE_m2 hg hdg kk
abbrev rm_X8_restore : Room := { frames := 1, cells := 0, slots := 0, locals := 21 }
set_option maxRecDepth 100000 in
set_option maxHeartbeats 4000000 in
theorem w_X8_restore_16 {p : Program} {l : Launch} {e : Env} {s : State} {m : MethodId} {args : Array Value} {below : List Frame} {meth : Method} {c : Code} {D : va_G} {ids : Nat → ClassId} {ad : Nat → Nat} {rv : Int32 × Hp} (hA : adOk ad 12) (C : CX p s m args meth c cX8_restore 2 (some .int) RX8 D ids) (hX : ExM s s.heap) : ∀ (fu : Nat), ∀ (h : Hp) (x1 : Int32) (H : Heap) (locs : List Loc) (ls : Array Slot), f_X8_restore_16 fu h x1 = some rv → wp D (cEM ids ad) ad 12 h H → va_S (inW ad 12) s.heap H locs → lv_has ls 2 [(0, .ref (ad 0)), (1, .int x1)] → W p l e rm_X8_restore s m args below meth c H locs 0 0 (MQ below (QW D (cEM ids ad) ad 12 (some (.int rv.1)) rv.2) args s 0 0 (inW ad 12)) (F0 m 16 ls []) := by
  intro fu
  induction fu with
  | zero =>
    intro h x1 H locs ls hf hP hS hl
    cases hf
  | succ fu ih =>
    intro h x1 H locs ls hf hP hS hl
    rw [f_X8_restore_16_s] at hf
    refine lv_iload_n C.1 C.2.1 dX8_restore_16 rfl (lv_at hl 1 rfl) ?_
    refine lv_bipush (v := (36 : Int32)) C.1 C.2.1 dX8_restore_17 (by decide) ?_
    refine lv_icmp_ge (tgt := 40) C.1 C.2.1 dX8_restore_19 (by decide) (fun hc => ?_) (fun hc => ?_)
    · have hf := g_t hc hf
      refine lv_aload_n C.1 C.2.1 dX8_restore_40 rfl (lv_at hl 0 rfl) ?_
      refine gf_X8_7 C hP dX8_restore_41 ?_
      refine lv_iconst (v := (0 : Int32)) C.1 C.2.1 dX8_restore_44 (by decide) ?_
      obtain ⟨hg, hf⟩ := g_if hf
      refine al_m1 C hP hg dX8_restore_45 ?_
      obtain rfl := Option.some.inj hf
      exact u_iret C hP hS dX8_restore_46
    · have hf := g_f hc hf
      refine lv_aload_n C.1 C.2.1 dX8_restore_22 rfl (lv_at hl 0 rfl) ?_
      refine gf_X8_7 C hP dX8_restore_23 ?_
      refine lv_iload_n C.1 C.2.1 dX8_restore_26 rfl (lv_at hl 1 rfl) ?_
      refine lv_aload_n C.1 C.2.1 dX8_restore_27 rfl (lv_at hl 0 rfl) ?_
      refine gf_X8_13 C hP dX8_restore_28 ?_
      refine lv_iload_n C.1 C.2.1 dX8_restore_31 rfl (lv_at hl 1 rfl) ?_
      obtain ⟨hg, hf⟩ := g_if hf
      refine al_m2 C hP hg dX8_restore_32 ?_
      obtain ⟨hg, hf⟩ := g_if hf
      refine as_m1 hA C hP hS hg dX8_restore_33 (fun H locs hP hS => ?_)
      refine lv_iinc (v := (x1 + 1)) (lv' := [(1, .int (x1 + 1)), (0, .ref (ad 0))]) C.1 C.2.1 dX8_restore_34 hl (k := 1) rfl (by rfl) (by decide) rfl (fun ls hl => ?_)
      refine lv_goto (tgt := 16) C.1 C.2.1 dX8_restore_37 (by decide) ?_
      exact ih _ _ _ _ _ hf hP hS (lv_sub hl [1, 0] rfl)
set_option maxRecDepth 100000 in
set_option maxHeartbeats 4000000 in
theorem w_X8_restore {p : Program} {l : Launch} {e : Env} {s : State} {m : MethodId} {args : Array Value} {below : List Frame} {meth : Method} {c : Code} {D : va_G} {ids : Nat → ClassId} {ad : Nat → Nat} {rv : Int32 × Hp} (hA : adOk ad 12) (C : CX p s m args meth c cX8_restore 2 (some .int) RX8 D ids) (hX : ExM s s.heap) : ∀ (h : Hp) (H : Heap) (locs : List Loc) (ls : Array Slot), f_X8_restore h = some rv → wp D (cEM ids ad) ad 12 h H → va_S (inW ad 12) s.heap H locs → lv_has ls 2 [(0, .ref (ad 0))] → W p l e rm_X8_restore s m args below meth c H locs 0 0 (MQ below (QW D (cEM ids ad) ad 12 (some (.int rv.1)) rv.2) args s 0 0 (inW ad 12)) (F0 m 0 ls []) := by
  intro h H locs ls hf hP hS hl
  unfold f_X8_restore at hf
  refine lv_aload_n C.1 C.2.1 dX8_restore_0 rfl (lv_at hl 0 rfl) ?_
  refine gf_X8_168 C hP dX8_restore_1 ?_
  refine lv_if_ne (tgt := 10) C.1 C.2.1 dX8_restore_4 (by decide) (fun hc => ?_) (fun hc => ?_)
  · have hf := g_f hc hf
    refine lv_aload_n C.1 C.2.1 dX8_restore_10 rfl (lv_at hl 0 rfl) ?_
    obtain ⟨q1, eq1, hf⟩ := g_b hf
    refine cv_X8_129 hA C hX hP hS eq1 ⟨Nat.le_of_ble_eq_true rfl, Nat.le_of_ble_eq_true rfl⟩ hl.1 (Nat.le_of_ble_eq_true rfl) dX8_restore_11 (fun H locs hP hS => ?_)
    refine lv_iconst (v := (0 : Int32)) C.1 C.2.1 dX8_restore_14 (by decide) ?_
    refine lv_istore_n (lv' := [(1, .int (0 : Int32)), (0, .ref (ad 0))]) C.1 C.2.1 dX8_restore_15 rfl hl (by decide) rfl (fun ls hl => ?_)
    exact w_X8_restore_16 hA C hX _ _ _ _ _ _ hf hP hS (lv_sub hl [1, 0] rfl)
  · have hf := g_t hc hf
    refine lv_bipush (v := (-5 : Int32)) C.1 C.2.1 dX8_restore_7 (by decide) ?_
    obtain rfl := Option.some.inj hf
    exact u_iret C hP hS dX8_restore_9
theorem c_X8_restore (l : Launch) (D : va_G) (ids : Nat → ClassId) (ad : Nat → Nat) (hA : adOk ad 12) {h : Hp} {rv : Int32 × Hp} (hf : f_X8_restore h = some rv) : Met l yX8_restore (ws_ yX8_restore cX8_restore 2 (some .int)) rm_X8_restore (va_Pc [.ref (ad 0)] (WB D ids (cEM ids ad) ad 12 ExM h)) (QW D (cEM ids ad) ad 12 (some (.int rv.1)) rv.2) 0 0 (inW ad 12) :=
  u_met (own := RX8) (by decide) rfl (Nat.le_of_ble_eq_true rfl) rfl (fun p e s m args below meth c H ls C hX hP hS hl => w_X8_restore hA C hX _ _ _ _ hf hP hS hl)
abbrev rm_X8_captainOf : Room := { frames := 3, cells := 0, slots := 0, locals := 67 }
set_option maxRecDepth 100000 in
set_option maxHeartbeats 4000000 in
theorem w_X8_captainOf {p : Program} {l : Launch} {e : Env} {s : State} {m : MethodId} {args : Array Value} {below : List Frame} {meth : Method} {c : Code} {D : va_G} {ids : Nat → ClassId} {ad : Nat → Nat} {rv : Int32 × Hp} (hA : adOk ad 12) (C : CX p s m args meth c cX8_captainOf 3 (some .int) RX8 D ids) (hX : ExM s s.heap) : ∀ (h : Hp) (a1 : Int32) (a2 : Int32) (H : Heap) (locs : List Loc) (ls : Array Slot), f_X8_captainOf h a1 a2 = some rv → wp D (cEM ids ad) ad 12 h H → va_S (inW ad 12) s.heap H locs → lv_has ls 3 [(0, .ref (ad 0)), (1, .int a1), (2, .int a2)] → W p l e rm_X8_captainOf s m args below meth c H locs 0 0 (MQ below (QW D (cEM ids ad) ad 12 (some (.int rv.1)) rv.2) args s 0 0 (inW ad 12)) (F0 m 0 ls []) := by
  intro h a1 a2 H locs ls hf hP hS hl
  unfold f_X8_captainOf at hf
  refine lv_iload_n C.1 C.2.1 dX8_captainOf_0 rfl (lv_at hl 1 rfl) ?_
  obtain ⟨q1, eq1, hf⟩ := g_b hf
  refine cv_X8_119 hA C hX hP hS eq1 ⟨Nat.le_of_ble_eq_true rfl, Nat.le_of_ble_eq_true rfl⟩ hl.1 (Nat.le_of_ble_eq_true rfl) dX8_captainOf_1 (fun H locs hP hS => ?_)
  refine lv_if_ne (tgt := 9) C.1 C.2.1 dX8_captainOf_4 (by decide) (fun hc => ?_) (fun hc => ?_)
  · have hf := g_f hc hf
    refine lv_iload_n C.1 C.2.1 dX8_captainOf_9 rfl (lv_at hl 2 rfl) ?_
    refine lv_iconst (v := (0 : Int32)) C.1 C.2.1 dX8_captainOf_10 (by decide) ?_
    refine lv_iconst (v := (3 : Int32)) C.1 C.2.1 dX8_captainOf_11 (by decide) ?_
    obtain ⟨q2, eq2, hf⟩ := g_b hf
    refine cv_X8_51 hA C hX hP hS eq2 ⟨Nat.le_of_ble_eq_true rfl, Nat.le_of_ble_eq_true rfl⟩ hl.1 (Nat.le_of_ble_eq_true rfl) dX8_captainOf_12 (fun H locs hP hS => ?_)
    refine lv_if_eq (tgt := 25) C.1 C.2.1 dX8_captainOf_15 (by decide) (fun hc => ?_) (fun hc => ?_)
    · have hf := g_t hc hf
      refine lv_iload_n C.1 C.2.1 dX8_captainOf_25 rfl (lv_at hl 2 rfl) ?_
      refine lv_iconst (v := (4 : Int32)) C.1 C.2.1 dX8_captainOf_26 (by decide) ?_
      refine lv_icmp_ne (tgt := 42) C.1 C.2.1 dX8_captainOf_27 (by decide) (fun hc => ?_) (fun hc => ?_)
      · have hf := g_f hc hf
        refine lv_iload_n C.1 C.2.1 dX8_captainOf_42 rfl (lv_at hl 2 rfl) ?_
        refine lv_iconst (v := (5 : Int32)) C.1 C.2.1 dX8_captainOf_43 (by decide) ?_
        refine lv_bipush (v := (10 : Int32)) C.1 C.2.1 dX8_captainOf_44 (by decide) ?_
        obtain ⟨q3, eq3, hf⟩ := g_b hf
        refine cv_X8_51 hA C hX hP hS eq3 ⟨Nat.le_of_ble_eq_true rfl, Nat.le_of_ble_eq_true rfl⟩ hl.1 (Nat.le_of_ble_eq_true rfl) dX8_captainOf_46 (fun H locs hP hS => ?_)
        refine lv_if_eq (tgt := 65) C.1 C.2.1 dX8_captainOf_49 (by decide) (fun hc => ?_) (fun hc => ?_)
        · have hf := g_t hc hf
          refine lv_bipush (v := (-2 : Int32)) C.1 C.2.1 dX8_captainOf_65 (by decide) ?_
          obtain rfl := Option.some.inj hf
          exact u_iret C hP hS dX8_captainOf_67
        · have hf := g_f hc hf
          refine lv_aload_n C.1 C.2.1 dX8_captainOf_52 rfl (lv_at hl 0 rfl) ?_
          refine lv_iload_n C.1 C.2.1 dX8_captainOf_53 rfl (lv_at hl 1 rfl) ?_
          refine lv_iconst (v := (4 : Int32)) C.1 C.2.1 dX8_captainOf_54 (by decide) ?_
          refine lv_iload_n C.1 C.2.1 dX8_captainOf_55 rfl (lv_at hl 2 rfl) ?_
          refine lv_iadd C.1 C.2.1 dX8_captainOf_56 ?_
          refine lv_iconst (v := (5 : Int32)) C.1 C.2.1 dX8_captainOf_57 (by decide) ?_
          refine lv_isub C.1 C.2.1 dX8_captainOf_58 ?_
          obtain ⟨q4, eq4, hf⟩ := g_b hf
          refine cv_X8_55 hA C hX hP hS eq4 ⟨Nat.le_of_ble_eq_true rfl, Nat.le_of_ble_eq_true rfl⟩ hl.1 (Nat.le_of_ble_eq_true rfl) dX8_captainOf_59 (fun H locs hP hS => ?_)
          refine lv_goto (tgt := 67) C.1 C.2.1 dX8_captainOf_62 (by decide) ?_
          obtain rfl := Option.some.inj hf
          exact u_iret C hP hS dX8_captainOf_67
      · have hf := g_t hc hf
        refine lv_aload_n C.1 C.2.1 dX8_captainOf_30 rfl (lv_at hl 0 rfl) ?_
        refine lv_iload_n C.1 C.2.1 dX8_captainOf_31 rfl (lv_at hl 1 rfl) ?_
        obtain ⟨q5, eq5, hf⟩ := g_b hf
        refine cv_X8_65 hA C hX hP hS eq5 ⟨Nat.le_of_ble_eq_true rfl, Nat.le_of_ble_eq_true rfl⟩ hl.1 (Nat.le_of_ble_eq_true rfl) dX8_captainOf_32 (fun H locs hP hS => ?_)
        refine lv_aload_n C.1 C.2.1 dX8_captainOf_35 rfl (lv_at hl 0 rfl) ?_
        refine gf_X8_28 C hP dX8_captainOf_36 ?_
        refine lv_iload_n C.1 C.2.1 dX8_captainOf_39 rfl (lv_at hl 1 rfl) ?_
        obtain ⟨hg, hf⟩ := g_if hf
        refine al_m7 C hP hg dX8_captainOf_40 ?_
        obtain rfl := Option.some.inj hf
        exact u_iret C hP hS dX8_captainOf_41
    · have hf := g_f hc hf
      refine lv_aload_n C.1 C.2.1 dX8_captainOf_18 rfl (lv_at hl 0 rfl) ?_
      refine lv_iload_n C.1 C.2.1 dX8_captainOf_19 rfl (lv_at hl 1 rfl) ?_
      refine lv_iload_n C.1 C.2.1 dX8_captainOf_20 rfl (lv_at hl 2 rfl) ?_
      obtain ⟨q6, eq6, hf⟩ := g_b hf
      refine cv_X8_55 hA C hX hP hS eq6 ⟨Nat.le_of_ble_eq_true rfl, Nat.le_of_ble_eq_true rfl⟩ hl.1 (Nat.le_of_ble_eq_true rfl) dX8_captainOf_21 (fun H locs hP hS => ?_)
      obtain rfl := Option.some.inj hf
      exact u_iret C hP hS dX8_captainOf_24
  · have hf := g_t hc hf
    refine lv_iconst (v := (-1 : Int32)) C.1 C.2.1 dX8_captainOf_7 (by decide) ?_
    obtain rfl := Option.some.inj hf
    exact u_iret C hP hS dX8_captainOf_8
theorem c_X8_captainOf (l : Launch) (D : va_G) (ids : Nat → ClassId) (ad : Nat → Nat) (hA : adOk ad 12) {a1 : Int32} {a2 : Int32} {h : Hp} {rv : Int32 × Hp} (hf : f_X8_captainOf h a1 a2 = some rv) : Met l yX8_captainOf (ws_ yX8_captainOf cX8_captainOf 3 (some .int)) rm_X8_captainOf (va_Pc [.ref (ad 0), .int a1, .int a2] (WB D ids (cEM ids ad) ad 12 ExM h)) (QW D (cEM ids ad) ad 12 (some (.int rv.1)) rv.2) 0 0 (inW ad 12) :=
  u_met (own := RX8) (by decide) rfl (Nat.le_of_ble_eq_true rfl) rfl (fun p e s m args below meth c H ls C hX hP hS hl => w_X8_captainOf hA C hX _ _ _ _ _ _ hf hP hS hl)
abbrev rm_X8_pierOf : Room := { frames := 1, cells := 0, slots := 0, locals := 22 }
set_option maxRecDepth 100000 in
set_option maxHeartbeats 4000000 in
theorem w_X8_pierOf {p : Program} {l : Launch} {e : Env} {s : State} {m : MethodId} {args : Array Value} {below : List Frame} {meth : Method} {c : Code} {D : va_G} {ids : Nat → ClassId} {ad : Nat → Nat} {rv : Int32 × Hp} (hA : adOk ad 12) (C : CX p s m args meth c cX8_pierOf 3 (some .int) RX8 D ids) (hX : ExM s s.heap) : ∀ (h : Hp) (a1 : Int32) (a2 : Int32) (H : Heap) (locs : List Loc) (ls : Array Slot), f_X8_pierOf h a1 a2 = some rv → wp D (cEM ids ad) ad 12 h H → va_S (inW ad 12) s.heap H locs → lv_has ls 3 [(0, .ref (ad 0)), (1, .int a1), (2, .int a2)] → W p l e rm_X8_pierOf s m args below meth c H locs 0 0 (MQ below (QW D (cEM ids ad) ad 12 (some (.int rv.1)) rv.2) args s 0 0 (inW ad 12)) (F0 m 0 ls []) := by
  intro h a1 a2 H locs ls hf hP hS hl
  unfold f_X8_pierOf at hf
  refine lv_aload_n C.1 C.2.1 dX8_pierOf_0 rfl (lv_at hl 0 rfl) ?_
  refine lv_iload_n C.1 C.2.1 dX8_pierOf_1 rfl (lv_at hl 1 rfl) ?_
  refine lv_iconst (v := (3 : Int32)) C.1 C.2.1 dX8_pierOf_2 (by decide) ?_
  obtain ⟨q1, eq1, hf⟩ := g_b hf
  refine cv_X8_55 hA C hX hP hS eq1 ⟨Nat.le_of_ble_eq_true rfl, Nat.le_of_ble_eq_true rfl⟩ hl.1 (Nat.le_of_ble_eq_true rfl) dX8_pierOf_3 (fun H locs hP hS => ?_)
  refine lv_iload_n C.1 C.2.1 dX8_pierOf_6 rfl (lv_at hl 2 rfl) ?_
  refine lv_iadd C.1 C.2.1 dX8_pierOf_7 ?_
  refine lv_iconst (v := (2 : Int32)) C.1 C.2.1 dX8_pierOf_8 (by decide) ?_
  refine lv_irem C.1 C.2.1 dX8_pierOf_9 (by decide) ?_
  obtain rfl := Option.some.inj hf
  exact u_iret C hP hS dX8_pierOf_10
theorem c_X8_pierOf (l : Launch) (D : va_G) (ids : Nat → ClassId) (ad : Nat → Nat) (hA : adOk ad 12) {a1 : Int32} {a2 : Int32} {h : Hp} {rv : Int32 × Hp} (hf : f_X8_pierOf h a1 a2 = some rv) : Met l yX8_pierOf (ws_ yX8_pierOf cX8_pierOf 3 (some .int)) rm_X8_pierOf (va_Pc [.ref (ad 0), .int a1, .int a2] (WB D ids (cEM ids ad) ad 12 ExM h)) (QW D (cEM ids ad) ad 12 (some (.int rv.1)) rv.2) 0 0 (inW ad 12) :=
  u_met (own := RX8) (by decide) rfl (Nat.le_of_ble_eq_true rfl) rfl (fun p e s m args below meth c H ls C hX hP hS hl => w_X8_pierOf hA C hX _ _ _ _ _ _ hf hP hS hl)
theorem cv_X8_72 {p : Program} {l : Launch} {e : Env} {R : Room} {s : State} {m : MethodId} {args : Array Value} {below : List Frame} {meth : Method} {c : Code} {H : Heap} {locs : List Loc} {Q : State → Prop} {cc : ByteArray} {nL : Nat} {ret : Option FieldType} {pc : Nat} {ls : Array Slot} {rest : List Value} {D : va_G} {ids : Nat → ClassId} {ad : Nat → Nat} {h : Hp} (hA : adOk ad 12) (C : CX p s m args meth c cc nL ret RX8 D ids) (hX : ExM s s.heap) (hP : wp D (cEM ids ad) ad 12 h H) (hS : va_S (inW ad 12) s.heap H locs) {a1 : Int32} {a2 : Int32} {rv : Int32 × Hp} (hf : f_X8_pierOf h a1 a2 = some rv) (hR : 1 + 1 ≤ R.frames ∧ 8 + (3 + 11) + 22 ≤ R.locals) (hsz : ls.size = nL) (hcat : (rest.map fun v => v.category).sum ≤ 8) (hdg : decode cc pc = .ok (.invokevirtual 72, 3)) (kk : ∀ (H1 : Heap) (locs1 : List Loc), wp D (cEM ids ad) ad 12 rv.2 H1 → va_S (inW ad 12) s.heap H1 locs1 → W p l e R s m args below meth c H1 locs1 0 0 Q (F0 m (pc + 3) ls (.int rv.1 :: rest))) : W p l e R s m args below meth c H locs 0 0 Q (F0 m pc ls (.int a2 :: .int a1 :: .ref (ad 0) :: rest)) :=
  u_callV (As := [.int a1, .int a2]) (rv := (some (.int rv.1))) C exM_ok hX (c_X8_pierOf l D ids ad hA hf) q_583 q_584 q_585 q_5 q_586 ⟨rfl, rfl⟩ (by refine ⟨by decide +kernel, by decide +kernel, ?_⟩; show _ = some 2; decide +kernel) hR (by decide) (cE_X8 _) rfl hP hS hsz hcat rfl hdg kk
abbrev rm_X8_printed : Room := { frames := 3, cells := 0, slots := 0, locals := 67 }
set_option maxRecDepth 100000 in
set_option maxHeartbeats 4000000 in
theorem w_X8_printed {p : Program} {l : Launch} {e : Env} {s : State} {m : MethodId} {args : Array Value} {below : List Frame} {meth : Method} {c : Code} {D : va_G} {ids : Nat → ClassId} {ad : Nat → Nat} {rv : Int32 × Hp} (hA : adOk ad 12) (C : CX p s m args meth c cX8_printed 4 (some .int) RX8 D ids) (hX : ExM s s.heap) : ∀ (h : Hp) (a1 : Int32) (a2 : Int32) (a3 : Int32) (H : Heap) (locs : List Loc) (ls : Array Slot), f_X8_printed h a1 a2 a3 = some rv → wp D (cEM ids ad) ad 12 h H → va_S (inW ad 12) s.heap H locs → lv_has ls 4 [(0, .ref (ad 0)), (1, .int a1), (2, .int a2), (3, .int a3)] → W p l e rm_X8_printed s m args below meth c H locs 0 0 (MQ below (QW D (cEM ids ad) ad 12 (some (.int rv.1)) rv.2) args s 0 0 (inW ad 12)) (F0 m 0 ls []) := by
  intro h a1 a2 a3 H locs ls hf hP hS hl
  unfold f_X8_printed at hf
  refine lv_iload_n C.1 C.2.1 dX8_printed_0 rfl (lv_at hl 1 rfl) ?_
  obtain ⟨q1, eq1, hf⟩ := g_b hf
  refine cv_X8_119 hA C hX hP hS eq1 ⟨Nat.le_of_ble_eq_true rfl, Nat.le_of_ble_eq_true rfl⟩ hl.1 (Nat.le_of_ble_eq_true rfl) dX8_printed_1 (fun H locs hP hS => ?_)
  refine lv_if_ne (tgt := 9) C.1 C.2.1 dX8_printed_4 (by decide) (fun hc => ?_) (fun hc => ?_)
  · have hf := g_f hc hf
    refine lv_aload_n C.1 C.2.1 dX8_printed_9 rfl (lv_at hl 0 rfl) ?_
    refine lv_iload_n C.1 C.2.1 dX8_printed_10 rfl (lv_at hl 1 rfl) ?_
    obtain ⟨q2, eq2, hf⟩ := g_b hf
    refine cv_X8_65 hA C hX hP hS eq2 ⟨Nat.le_of_ble_eq_true rfl, Nat.le_of_ble_eq_true rfl⟩ hl.1 (Nat.le_of_ble_eq_true rfl) dX8_printed_11 (fun H locs hP hS => ?_)
    refine lv_iload_n C.1 C.2.1 dX8_printed_14 rfl (lv_at hl 2 rfl) ?_
    refine lv_iconst (v := (0 : Int32)) C.1 C.2.1 dX8_printed_15 (by decide) ?_
    refine lv_aload_n C.1 C.2.1 dX8_printed_16 rfl (lv_at hl 0 rfl) ?_
    refine gf_X8_28 C hP dX8_printed_17 ?_
    refine lv_iload_n C.1 C.2.1 dX8_printed_20 rfl (lv_at hl 1 rfl) ?_
    obtain ⟨hg, hf⟩ := g_if hf
    refine al_m7 C hP hg dX8_printed_21 ?_
    refine lv_iconst (v := (1 : Int32)) C.1 C.2.1 dX8_printed_22 (by decide) ?_
    refine lv_isub C.1 C.2.1 dX8_printed_23 ?_
    obtain ⟨q3, eq3, hf⟩ := g_b hf
    refine cv_X8_51 hA C hX hP hS eq3 ⟨Nat.le_of_ble_eq_true rfl, Nat.le_of_ble_eq_true rfl⟩ hl.1 (Nat.le_of_ble_eq_true rfl) dX8_printed_24 (fun H locs hP hS => ?_)
    refine lv_if_ne (tgt := 32) C.1 C.2.1 dX8_printed_27 (by decide) (fun hc => ?_) (fun hc => ?_)
    · have hf := g_f hc hf
      refine lv_iload_n C.1 C.2.1 dX8_printed_32 rfl (lv_at hl 3 rfl) ?_
      refine lv_if_ne (tgt := 45) C.1 C.2.1 dX8_printed_33 (by decide) (fun hc => ?_) (fun hc => ?_)
      · have hf := g_f hc hf
        refine lv_iload_n C.1 C.2.1 dX8_printed_45 rfl (lv_at hl 3 rfl) ?_
        refine lv_iconst (v := (1 : Int32)) C.1 C.2.1 dX8_printed_46 (by decide) ?_
        refine lv_icmp_ne (tgt := 59) C.1 C.2.1 dX8_printed_47 (by decide) (fun hc => ?_) (fun hc => ?_)
        · have hf := g_f hc hf
          refine lv_bipush (v := (-2 : Int32)) C.1 C.2.1 dX8_printed_59 (by decide) ?_
          obtain rfl := Option.some.inj hf
          exact u_iret C hP hS dX8_printed_61
        · have hf := g_t hc hf
          refine lv_aload_n C.1 C.2.1 dX8_printed_50 rfl (lv_at hl 0 rfl) ?_
          refine lv_iload_n C.1 C.2.1 dX8_printed_51 rfl (lv_at hl 1 rfl) ?_
          refine lv_iload_n C.1 C.2.1 dX8_printed_52 rfl (lv_at hl 2 rfl) ?_
          obtain ⟨q4, eq4, hf⟩ := g_b hf
          refine cv_X8_72 hA C hX hP hS eq4 ⟨Nat.le_of_ble_eq_true rfl, Nat.le_of_ble_eq_true rfl⟩ hl.1 (Nat.le_of_ble_eq_true rfl) dX8_printed_53 (fun H locs hP hS => ?_)
          refine lv_goto (tgt := 61) C.1 C.2.1 dX8_printed_56 (by decide) ?_
          obtain rfl := Option.some.inj hf
          exact u_iret C hP hS dX8_printed_61
      · have hf := g_t hc hf
        refine lv_aload_n C.1 C.2.1 dX8_printed_36 rfl (lv_at hl 0 rfl) ?_
        refine lv_iload_n C.1 C.2.1 dX8_printed_37 rfl (lv_at hl 1 rfl) ?_
        refine lv_iload_n C.1 C.2.1 dX8_printed_38 rfl (lv_at hl 2 rfl) ?_
        obtain ⟨q5, eq5, hf⟩ := g_b hf
        refine cv_X8_69 hA C hX hP hS eq5 ⟨Nat.le_of_ble_eq_true rfl, Nat.le_of_ble_eq_true rfl⟩ hl.1 (Nat.le_of_ble_eq_true rfl) dX8_printed_39 (fun H locs hP hS => ?_)
        refine lv_goto (tgt := 61) C.1 C.2.1 dX8_printed_42 (by decide) ?_
        obtain rfl := Option.some.inj hf
        exact u_iret C hP hS dX8_printed_61
    · have hf := g_t hc hf
      refine lv_iconst (v := (-1 : Int32)) C.1 C.2.1 dX8_printed_30 (by decide) ?_
      obtain rfl := Option.some.inj hf
      exact u_iret C hP hS dX8_printed_31
  · have hf := g_t hc hf
    refine lv_iconst (v := (-1 : Int32)) C.1 C.2.1 dX8_printed_7 (by decide) ?_
    obtain rfl := Option.some.inj hf
    exact u_iret C hP hS dX8_printed_8
theorem c_X8_printed (l : Launch) (D : va_G) (ids : Nat → ClassId) (ad : Nat → Nat) (hA : adOk ad 12) {a1 : Int32} {a2 : Int32} {a3 : Int32} {h : Hp} {rv : Int32 × Hp} (hf : f_X8_printed h a1 a2 a3 = some rv) : Met l yX8_printed (ws_ yX8_printed cX8_printed 4 (some .int)) rm_X8_printed (va_Pc [.ref (ad 0), .int a1, .int a2, .int a3] (WB D ids (cEM ids ad) ad 12 ExM h)) (QW D (cEM ids ad) ad 12 (some (.int rv.1)) rv.2) 0 0 (inW ad 12) :=
  u_met (own := RX8) (by decide) rfl (Nat.le_of_ble_eq_true rfl) rfl (fun p e s m args below meth c H ls C hX hP hS hl => w_X8_printed hA C hX _ _ _ _ _ _ _ hf hP hS hl)
