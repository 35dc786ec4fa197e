theorem gf_X8_7 {p : Program} {l : Launch} {e : Env} {R : Room} {s : State} {m : MethodId} {args : Array Value} {below : List Frame} {meth : Method} {c : Code} {H : Heap} {locs : List Loc} {cells slots : Nat} {Q : State → Prop} {cc : ByteArray} {nL : Nat} {ret : Option FieldType} {pc : Nat} {ls : Array Slot} {rest : List Value} {D : va_G} {ids : Nat → ClassId} {ad : Nat → Nat} {h : Hp} (C : CX p s m args meth c cc nL ret RX8 D ids) (hP : wp D (cEM ids ad) ad 12 h H) (hdg : decode cc pc = .ok (.getfield 7, 3)) (kk : W p l e R s m args below meth c H locs cells slots Q (F0 m (pc + 3) ls (.ref (ad 1) :: rest))) : W p l e R s m args below meth c H locs cells slots Q (F0 m pc ls (.ref (ad 0) :: rest)) :=
  u_get C hP (by decide) cE_X8 rfl inX8 0 (by decide) rfl q_114 hdg kk
theorem as_m1 {p : Program} {l : Launch} {e : Env} {R : Room} {s : State} {m : MethodId} {args : Array Value} {below : List Frame} {meth : Method} {c : Code} {H : Heap} {locs : List Loc} {cells slots : Nat} {Q : State → Prop} {cc : ByteArray} {nL : Nat} {ret : Option FieldType} {own : String} {pc : Nat} {ls : Array Slot} {rest : List Value} {D : va_G} {ids : Nat → ClassId} {ad : Nat → Nat} {h : Hp} {i x : Int32} (hA : adOk ad 12) (C : CX p s m args meth c cc nL ret own D ids) (hP : wp D (cEM ids ad) ad 12 h H) (hS : va_S (inW ad 12) s.heap H locs) (hg : inb i 36 = true) (hdg : decode cc pc = .ok (.iastore, 1)) (kk : ∀ (H1 : Heap) (locs1 : List Loc), wp D (cEM ids ad) ad 12 (hs h 1 i.toNatClampNeg x) H1 → va_S (inW ad 12) s.heap H1 locs1 → W p l e R s m args below meth c H1 locs1 cells slots Q (F0 m (pc + 1) ls rest)) : W p l e R s m args below meth c H locs cells slots Q (F0 m pc ls (.int x :: .int i :: .ref (ad 1) :: rest)) :=
  u_iast hA C hP hS (by decide) cE_m1 hg hdg kk
abbrev rm_X8_put : Room := { frames := 0, cells := 0, slots := 0, locals := 0 }
set_option maxRecDepth 100000 in
set_option maxHeartbeats 4000000 in
theorem w_X8_put {p : Program} {l : Launch} {e : Env} {s : State} {m : MethodId} {args : Array Value} {below : List Frame} {meth : Method} {c : Code} {D : va_G} {ids : Nat → ClassId} {ad : Nat → Nat} {rv : Hp} (hA : adOk ad 12) (C : CX p s m args meth c cX8_put 4 none RX8 D ids) (hX : ExM s s.heap) : ∀ (h : Hp) (a1 : Int32) (a2 : Int32) (a3 : Int32) (H : Heap) (locs : List Loc) (ls : Array Slot), f_X8_put h a1 a2 a3 = some rv → wp D (cEM ids ad) ad 12 h H → va_S (inW ad 12) s.heap H locs → lv_has ls 4 [(0, .ref (ad 0)), (1, .int a1), (2, .int a2), (3, .int a3)] → W p l e rm_X8_put s m args below meth c H locs 0 0 (MQ below (QW D (cEM ids ad) ad 12 none rv) args s 0 0 (inW ad 12)) (F0 m 0 ls []) := by
  intro h a1 a2 a3 H locs ls hf hP hS hl
  unfold f_X8_put at hf
  refine lv_aload_n C.1 C.2.1 dX8_put_0 rfl (lv_at hl 0 rfl) ?_
  refine gf_X8_7 C hP dX8_put_1 ?_
  refine lv_bipush (v := (6 : Int32)) C.1 C.2.1 dX8_put_4 (by decide) ?_
  refine lv_bipush (v := (10 : Int32)) C.1 C.2.1 dX8_put_6 (by decide) ?_
  refine lv_iload_n C.1 C.2.1 dX8_put_8 rfl (lv_at hl 1 rfl) ?_
  refine lv_imul C.1 C.2.1 dX8_put_9 ?_
  refine lv_iadd C.1 C.2.1 dX8_put_10 ?_
  refine lv_iload_n C.1 C.2.1 dX8_put_11 rfl (lv_at hl 2 rfl) ?_
  refine lv_iadd C.1 C.2.1 dX8_put_12 ?_
  refine lv_iload_n C.1 C.2.1 dX8_put_13 rfl (lv_at hl 3 rfl) ?_
  obtain ⟨hg, hf⟩ := g_if hf
  refine as_m1 hA C hP hS hg dX8_put_14 (fun H locs hP hS => ?_)
  obtain rfl := Option.some.inj hf
  exact u_vret C hP hS dX8_put_15
theorem c_X8_put (l : Launch) (D : va_G) (ids : Nat → ClassId) (ad : Nat → Nat) (hA : adOk ad 12) {a1 : Int32} {a2 : Int32} {a3 : Int32} {h : Hp} {rv : Hp} (hf : f_X8_put h a1 a2 a3 = some rv) : Met l yX8_put (ws_ yX8_put cX8_put 4 none) rm_X8_put (va_Pc [.ref (ad 0), .int a1, .int a2, .int a3] (WB D ids (cEM ids ad) ad 12 ExM h)) (QW D (cEM ids ad) ad 12 none rv) 0 0 (inW ad 12) :=
  u_met (own := RX8) (by decide) rfl (Nat.le_of_ble_eq_true rfl) rfl (fun p e s m args below meth c H ls C hX hP hS hl => w_X8_put hA C hX _ _ _ _ _ _ _ hf hP hS hl)
abbrev rm_X8_in : Room := { frames := 0, cells := 0, slots := 0, locals := 0 }
set_option maxRecDepth 100000 in
set_option maxHeartbeats 4000000 in
theorem w_X8_in {p : Program} {l : Launch} {e : Env} {s : State} {m : MethodId} {args : Array Value} {below : List Frame} {meth : Method} {c : Code} {D : va_G} {ids : Nat → ClassId} {ad : Nat → Nat} {rv : Int32 × Hp} (hA : adOk ad 12) (C : CX p s m args meth c cX8_in 3 (some .boolean) RX8 D ids) (hX : ExM s s.heap) : ∀ (h : Hp) (a1 : Int32) (a2 : Int32) (a3 : Int32) (H : Heap) (locs : List Loc) (ls : Array Slot), f_X8_in h a1 a2 a3 = some rv → wp D (cEM ids ad) ad 12 h H → va_S (inW ad 12) s.heap H locs → lv_has ls 3 [(0, .int a1), (1, .int a2), (2, .int a3)] → W p l e rm_X8_in s m args below meth c H locs 0 0 (MQ below (QW D (cEM ids ad) ad 12 (some (.int rv.1)) rv.2) args s 0 0 (inW ad 12)) (F0 m 0 ls []) := by
  intro h a1 a2 a3 H locs ls hf hP hS hl
  unfold f_X8_in at hf
  refine lv_iload_n C.1 C.2.1 dX8_in_0 rfl (lv_at hl 0 rfl) ?_
  refine lv_iload_n C.1 C.2.1 dX8_in_1 rfl (lv_at hl 1 rfl) ?_
  refine lv_icmp_lt (tgt := 14) C.1 C.2.1 dX8_in_2 (by decide) (fun hc => ?_) (fun hc => ?_)
  · have hf := g_t hc hf
    refine lv_iconst (v := (0 : Int32)) C.1 C.2.1 dX8_in_14 (by decide) ?_
    obtain rfl := Option.some.inj hf
    exact u_zret C hP hS isb_0 dX8_in_15
  · have hf := g_f hc hf
    refine lv_iload_n C.1 C.2.1 dX8_in_5 rfl (lv_at hl 0 rfl) ?_
    refine lv_iload_n C.1 C.2.1 dX8_in_6 rfl (lv_at hl 2 rfl) ?_
    refine lv_icmp_gt (tgt := 14) C.1 C.2.1 dX8_in_7 (by decide) (fun hc => ?_) (fun hc => ?_)
    · have hf := g_t hc hf
      refine lv_iconst (v := (0 : Int32)) C.1 C.2.1 dX8_in_14 (by decide) ?_
      obtain rfl := Option.some.inj hf
      exact u_zret C hP hS isb_0 dX8_in_15
    · have hf := g_f hc hf
      refine lv_iconst (v := (1 : Int32)) C.1 C.2.1 dX8_in_10 (by decide) ?_
      refine lv_goto (tgt := 15) C.1 C.2.1 dX8_in_11 (by decide) ?_
      obtain rfl := Option.some.inj hf
      exact u_zret C hP hS isb_1 dX8_in_15
theorem c_X8_in (l : Launch) (D : va_G) (ids : Nat → ClassId) (ad : Nat → Nat) (hA : adOk ad 12) {a1 : Int32} {a2 : Int32} {a3 : Int32} {h : Hp} {rv : Int32 × Hp} (hf : f_X8_in h a1 a2 a3 = some rv) : Met l yX8_in (ws_ yX8_in cX8_in 3 (some .boolean)) rm_X8_in (va_Pc [.int a1, .int a2, .int a3] (WB D ids (cEM ids ad) ad 12 ExM h)) (QW D (cEM ids ad) ad 12 (some (.int rv.1)) rv.2) 0 0 (inW ad 12) :=
  u_met (own := RX8) (by decide) rfl (Nat.le_of_ble_eq_true rfl) rfl (fun p e s m args below meth c H ls C hX hP hS hl => w_X8_in hA C hX _ _ _ _ _ _ _ hf hP hS hl)
theorem cv_X8_51 {p : Program} {l : Launch} {e : Env} {R : Room} {s : State} {m : MethodId} {args : Array Value} {below : List Frame} {meth : Method} {c : Code} {H : Heap} {locs : List Loc} {Q : State → Prop} {cc : ByteArray} {nL : Nat} {ret : Option FieldType} {pc : Nat} {ls : Array Slot} {rest : List Value} {D : va_G} {ids : Nat → ClassId} {ad : Nat → Nat} {h : Hp} (hA : adOk ad 12) (C : CX p s m args meth c cc nL ret RX8 D ids) (hX : ExM s s.heap) (hP : wp D (cEM ids ad) ad 12 h H) (hS : va_S (inW ad 12) s.heap H locs) {a1 : Int32} {a2 : Int32} {a3 : Int32} {rv : Int32 × Hp} (hf : f_X8_in h a1 a2 a3 = some rv) (hR : 0 + 1 ≤ R.frames ∧ 8 + (3 + 11) + 0 ≤ R.locals) (hsz : ls.size = nL) (hcat : (rest.map fun v => v.category).sum ≤ 8) (hdg : decode cc pc = .ok (.invokestatic 51, 3)) (kk : ∀ (H1 : Heap) (locs1 : List Loc), wp D (cEM ids ad) ad 12 rv.2 H1 → va_S (inW ad 12) s.heap H1 locs1 → W p l e R s m args below meth c H1 locs1 0 0 Q (F0 m (pc + 3) ls (.int rv.1 :: rest))) : W p l e R s m args below meth c H locs 0 0 Q (F0 m pc ls (.int a3 :: .int a2 :: .int a1 :: rest)) :=
  u_callS (As := [.int a1, .int a2, .int a3]) (rv := (some (.int rv.1))) C exM_ok hX (c_X8_in l D ids ad hA hf) q_172 q_173 q_5 q_174 ⟨rfl, rfl⟩ (by refine ⟨by decide +kernel, by decide +kernel, ?_⟩; show _ = some 3; decide +kernel) hR hP hS hsz hcat rfl hdg kk
abbrev rm_X8_isCaptain : Room := { frames := 1, cells := 0, slots := 0, locals := 22 }
set_option maxRecDepth 100000 in
set_option maxHeartbeats 4000000 in
theorem w_X8_isCaptain {p : Program} {l : Launch} {e : Env} {s : State} {m : MethodId} {args : Array Value} {below : List Frame} {meth : Method} {c : Code} {D : va_G} {ids : Nat → ClassId} {ad : Nat → Nat} {rv : Int32 × Hp} (hA : adOk ad 12) (C : CX p s m args meth c cX8_isCaptain 1 (some .boolean) RX8 D ids) (hX : ExM s s.heap) : ∀ (h : Hp) (a1 : Int32) (H : Heap) (locs : List Loc) (ls : Array Slot), f_X8_isCaptain h a1 = some rv → wp D (cEM ids ad) ad 12 h H → va_S (inW ad 12) s.heap H locs → lv_has ls 1 [(0, .int a1)] → W p l e rm_X8_isCaptain s m args below meth c H locs 0 0 (MQ below (QW D (cEM ids ad) ad 12 (some (.int rv.1)) rv.2) args s 0 0 (inW ad 12)) (F0 m 0 ls []) := by
  intro h a1 H locs ls hf hP hS hl
  unfold f_X8_isCaptain at hf
  refine lv_iload_n C.1 C.2.1 dX8_isCaptain_0 rfl (lv_at hl 0 rfl) ?_
  refine lv_iconst (v := (0 : Int32)) C.1 C.2.1 dX8_isCaptain_1 (by decide) ?_
  refine lv_iconst (v := (2 : Int32)) C.1 C.2.1 dX8_isCaptain_2 (by decide) ?_
  obtain ⟨q1, eq1, hf⟩ := g_b hf
  refine cv_X8_51 hA C hX hP hS eq1 ⟨Nat.le_of_ble_eq_true rfl, Nat.le_of_ble_eq_true rfl⟩ hl.1 (Nat.le_of_ble_eq_true rfl) dX8_isCaptain_3 (fun H locs hP hS => ?_)
  obtain ⟨hg, hf⟩ := g_if hf
  obtain rfl := Option.some.inj hf
  exact u_zret C hP hS hg dX8_isCaptain_6
theorem c_X8_isCaptain (l : Launch) (D : va_G) (ids : Nat → ClassId) (ad : Nat → Nat) (hA : adOk ad 12) {a1 : Int32} {h : Hp} {rv : Int32 × Hp} (hf : f_X8_isCaptain h a1 = some rv) : Met l yX8_isCaptain (ws_ yX8_isCaptain cX8_isCaptain 1 (some .boolean)) rm_X8_isCaptain (va_Pc [.int a1] (WB D ids (cEM ids ad) ad 12 ExM h)) (QW D (cEM ids ad) ad 12 (some (.int rv.1)) rv.2) 0 0 (inW ad 12) :=
  u_met (own := RX8) (by decide) rfl (Nat.le_of_ble_eq_true rfl) rfl (fun p e s m args below meth c H ls C hX hP hS hl => w_X8_isCaptain hA C hX _ _ _ _ _ hf hP hS hl)
abbrev rm_X8_least : Room := { frames := 0, cells := 0, slots := 0, locals := 0 }
set_option maxRecDepth 100000 in
set_option maxHeartbeats 4000000 in
theorem w_X8_least {p : Program} {l : Launch} {e : Env} {s : State} {m : MethodId} {args : Array Value} {below : List Frame} {meth : Method} {c : Code} {D : va_G} {ids : Nat → ClassId} {ad : Nat → Nat} {rv : Int32 × Hp} (hA : adOk ad 12) (C : CX p s m args meth c cX8_least 1 (some .int) RX8 D ids) (hX : ExM s s.heap) : ∀ (h : Hp) (a1 : Int32) (H : Heap) (locs : List Loc) (ls : Array Slot), f_X8_least h a1 = some rv → wp D (cEM ids ad) ad 12 h H → va_S (inW ad 12) s.heap H locs → lv_has ls 1 [(0, .int a1)] → W p l e rm_X8_least s m args below meth c H locs 0 0 (MQ below (QW D (cEM ids ad) ad 12 (some (.int rv.1)) rv.2) args s 0 0 (inW ad 12)) (F0 m 0 ls []) := by
  intro h a1 H locs ls hf hP hS hl
  unfold f_X8_least at hf
  refine lv_iload_n C.1 C.2.1 dX8_least_0 rfl (lv_at hl 0 rfl) ?_
  refine lv_iconst (v := (1 : Int32)) C.1 C.2.1 dX8_least_1 (by decide) ?_
  refine lv_icmp_ne (tgt := 9) C.1 C.2.1 dX8_least_2 (by decide) (fun hc => ?_) (fun hc => ?_)
  · have hf := g_f hc hf
    refine lv_iconst (v := (0 : Int32)) C.1 C.2.1 dX8_least_9 (by decide) ?_
    obtain rfl := Option.some.inj hf
    exact u_iret C hP hS dX8_least_10
  · have hf := g_t hc hf
    refine lv_iconst (v := (1 : Int32)) C.1 C.2.1 dX8_least_5 (by decide) ?_
    refine lv_goto (tgt := 10) C.1 C.2.1 dX8_least_6 (by decide) ?_
    obtain rfl := Option.some.inj hf
    exact u_iret C hP hS dX8_least_10
theorem c_X8_least (l : Launch) (D : va_G) (ids : Nat → ClassId) (ad : Nat → Nat) (hA : adOk ad 12) {a1 : Int32} {h : Hp} {rv : Int32 × Hp} (hf : f_X8_least h a1 = some rv) : Met l yX8_least (ws_ yX8_least cX8_least 1 (some .int)) rm_X8_least (va_Pc [.int a1] (WB D ids (cEM ids ad) ad 12 ExM h)) (QW D (cEM ids ad) ad 12 (some (.int rv.1)) rv.2) 0 0 (inW ad 12) :=
  u_met (own := RX8) (by decide) rfl (Nat.le_of_ble_eq_true rfl) rfl (fun p e s m args below meth c H ls C hX hP hS hl => w_X8_least hA C hX _ _ _ _ _ hf hP hS hl)
abbrev rm_X8_most : Room := { frames := 0, cells := 0, slots := 0, locals := 0 }
set_option maxRecDepth 100000 in
set_option maxHeartbeats 4000000 in
theorem w_X8_most {p : Program} {l : Launch} {e : Env} {s : State} {m : MethodId} {args : Array Value} {below : List Frame} {meth : Method} {c : Code} {D : va_G} {ids : Nat → ClassId} {ad : Nat → Nat} {rv : Int32 × Hp} (hA : adOk ad 12) (C : CX p s m args meth c cX8_most 1 (some .int) RX8 D ids) (hX : ExM s s.heap) : ∀ (h : Hp) (a1 : Int32) (H : Heap) (locs : List Loc) (ls : Array Slot), f_X8_most h a1 = some rv → wp D (cEM ids ad) ad 12 h H → va_S (inW ad 12) s.heap H locs → lv_has ls 1 [(0, .int a1)] → W p l e rm_X8_most s m args below meth c H locs 0 0 (MQ below (QW D (cEM ids ad) ad 12 (some (.int rv.1)) rv.2) args s 0 0 (inW ad 12)) (F0 m 0 ls []) := by
  intro h a1 H locs ls hf hP hS hl
  unfold f_X8_most at hf
  refine lv_iload_n C.1 C.2.1 dX8_most_0 rfl (lv_at hl 0 rfl) ?_
  refine lv_if_ne (tgt := 9) C.1 C.2.1 dX8_most_1 (by decide) (fun hc => ?_) (fun hc => ?_)
  · have hf := g_f hc hf
    refine lv_iload_n C.1 C.2.1 dX8_most_9 rfl (lv_at hl 0 rfl) ?_
    refine lv_iconst (v := (1 : Int32)) C.1 C.2.1 dX8_most_10 (by decide) ?_
    refine lv_icmp_ne (tgt := 19) C.1 C.2.1 dX8_most_11 (by decide) (fun hc => ?_) (fun hc => ?_)
    · have hf := g_f hc hf
      refine lv_iload_n C.1 C.2.1 dX8_most_19 rfl (lv_at hl 0 rfl) ?_
      refine lv_iconst (v := (2 : Int32)) C.1 C.2.1 dX8_most_20 (by decide) ?_
      refine lv_icmp_ne (tgt := 29) C.1 C.2.1 dX8_most_21 (by decide) (fun hc => ?_) (fun hc => ?_)
      · have hf := g_f hc hf
        refine lv_iconst (v := (1 : Int32)) C.1 C.2.1 dX8_most_29 (by decide) ?_
        obtain rfl := Option.some.inj hf
        exact u_iret C hP hS dX8_most_30
      · have hf := g_t hc hf
        refine lv_bipush (v := (23 : Int32)) C.1 C.2.1 dX8_most_24 (by decide) ?_
        refine lv_goto (tgt := 30) C.1 C.2.1 dX8_most_26 (by decide) ?_
        obtain rfl := Option.some.inj hf
        exact u_iret C hP hS dX8_most_30
    · have hf := g_t hc hf
      refine lv_bipush (v := (6 : Int32)) C.1 C.2.1 dX8_most_14 (by decide) ?_
      refine lv_goto (tgt := 30) C.1 C.2.1 dX8_most_16 (by decide) ?_
      obtain rfl := Option.some.inj hf
      exact u_iret C hP hS dX8_most_30
  · have hf := g_t hc hf
    refine lv_bipush (v := (11 : Int32)) C.1 C.2.1 dX8_most_4 (by decide) ?_
    refine lv_goto (tgt := 30) C.1 C.2.1 dX8_most_6 (by decide) ?_
    obtain rfl := Option.some.inj hf
    exact u_iret C hP hS dX8_most_30
theorem c_X8_most (l : Launch) (D : va_G) (ids : Nat → ClassId) (ad : Nat → Nat) (hA : adOk ad 12) {a1 : Int32} {h : Hp} {rv : Int32 × Hp} (hf : f_X8_most h a1 = some rv) : Met l yX8_most (ws_ yX8_most cX8_most 1 (some .int)) rm_X8_most (va_Pc [.int a1] (WB D ids (cEM ids ad) ad 12 ExM h)) (QW D (cEM ids ad) ad 12 (some (.int rv.1)) rv.2) 0 0 (inW ad 12) :=
  u_met (own := RX8) (by decide) rfl (Nat.le_of_ble_eq_true rfl) rfl (fun p e s m args below meth c H ls C hX hP hS hl => w_X8_most hA C hX _ _ _ _ _ hf hP hS hl)
theorem al_m1 {p : Program} {l : Launch} {e : Env} {R : Room} {s : State} {m : MethodId} {args : Array Value} {below : List Frame} {meth : Method} {c : Code} {H : Heap} {locs : List Loc} {cells slots : Nat} {Q : State → Prop} {cc : ByteArray} {nL : Nat} {ret : Option FieldType} {own : String} {pc : Nat} {ls : Array Slot} {rest : List Value} {D : va_G} {ids : Nat → ClassId} {ad : Nat → Nat} {h : Hp} (C : CX p s m args meth c cc nL ret own D ids) (hP : wp D (cEM ids ad) ad 12 h H) {i : Int32} (hg : inb i 36 = true) (hdg : decode cc pc = .ok (.iaload, 1)) (kk : W p l e R s m args below meth c H locs cells slots Q (F0 m (pc + 1) ls (.int (h 1 i.toNatClampNeg) :: rest))) : W p l e R s m args below meth c H locs cells slots Q (F0 m pc ls (.int i :: .ref (ad 1) :: rest)) :=
  u_iald C hP (by decide) cE_m1 hg hdg kk
abbrev rm_X8_of : Room := { frames := 0, cells := 0, slots := 0, locals := 0 }
set_option maxRecDepth 100000 in
set_option maxHeartbeats 4000000 in
theorem w_X8_of {p : Program} {l : Launch} {e : Env} {s : State} {m : MethodId} {args : Array Value} {below : List Frame} {meth : Method} {c : Code} {D : va_G} {ids : Nat → ClassId} {ad : Nat → Nat} {rv : Int32 × Hp} (hA : adOk ad 12) (C : CX p s m args meth c cX8_of 3 (some .int) RX8 D ids) (hX : ExM s s.heap) : ∀ (h : Hp) (a1 : Int32) (a2 : Int32) (H : Heap) (locs : List Loc) (ls : Array Slot), f_X8_of h a1 a2 = some rv → wp D (cEM ids ad) ad 12 h H → va_S (inW ad 12) s.heap H locs → lv_has ls 3 [(0, .ref (ad 0)), (1, .int a1), (2, .int a2)] → W p l e rm_X8_of s m args below meth c H locs 0 0 (MQ below (QW D (cEM ids ad) ad 12 (some (.int rv.1)) rv.2) args s 0 0 (inW ad 12)) (F0 m 0 ls []) := by
  intro h a1 a2 H locs ls hf hP hS hl
  unfold f_X8_of at hf
  refine lv_aload_n C.1 C.2.1 dX8_of_0 rfl (lv_at hl 0 rfl) ?_
  refine gf_X8_7 C hP dX8_of_1 ?_
  refine lv_bipush (v := (6 : Int32)) C.1 C.2.1 dX8_of_4 (by decide) ?_
  refine lv_bipush (v := (10 : Int32)) C.1 C.2.1 dX8_of_6 (by decide) ?_
  refine lv_iload_n C.1 C.2.1 dX8_of_8 rfl (lv_at hl 1 rfl) ?_
  refine lv_imul C.1 C.2.1 dX8_of_9 ?_
  refine lv_iadd C.1 C.2.1 dX8_of_10 ?_
  refine lv_iload_n C.1 C.2.1 dX8_of_11 rfl (lv_at hl 2 rfl) ?_
  refine lv_iadd C.1 C.2.1 dX8_of_12 ?_
  obtain ⟨hg, hf⟩ := g_if hf
  refine al_m1 C hP hg dX8_of_13 ?_
  obtain rfl := Option.some.inj hf
  exact u_iret C hP hS dX8_of_14
theorem c_X8_of (l : Launch) (D : va_G) (ids : Nat → ClassId) (ad : Nat → Nat) (hA : adOk ad 12) {a1 : Int32} {a2 : Int32} {h : Hp} {rv : Int32 × Hp} (hf : f_X8_of h a1 a2 = some rv) : Met l yX8_of (ws_ yX8_of cX8_of 3 (some .int)) rm_X8_of (va_Pc [.ref (ad 0), .int a1, .int a2] (WB D ids (cEM ids ad) ad 12 ExM h)) (QW D (cEM ids ad) ad 12 (some (.int rv.1)) rv.2) 0 0 (inW ad 12) :=
  u_met (own := RX8) (by decide) rfl (Nat.le_of_ble_eq_true rfl) rfl (fun p e s m args below meth c H ls C hX hP hS hl => w_X8_of hA C hX _ _ _ _ _ _ hf hP hS hl)
theorem gf_X8_47 {p : Program} {l : Launch} {e : Env} {R : Room} {s : State} {m : MethodId} {args : Array Value} {below : List Frame} {meth : Method} {c : Code} {H : Heap} {locs : List Loc} {cells slots : Nat} {Q : State → Prop} {cc : ByteArray} {nL : Nat} {ret : Option FieldType} {pc : Nat} {ls : Array Slot} {rest : List Value} {D : va_G} {ids : Nat → ClassId} {ad : Nat → Nat} {h : Hp} (C : CX p s m args meth c cc nL ret RX8 D ids) (hP : wp D (cEM ids ad) ad 12 h H) (hdg : decode cc pc = .ok (.getfield 47, 3)) (kk : W p l e R s m args below meth c H locs cells slots Q (F0 m (pc + 3) ls (.int (h 0 12) :: rest))) : W p l e R s m args below meth c H locs cells slots Q (F0 m pc ls (.ref (ad 0) :: rest)) :=
  u_get C hP (by decide) cE_X8 rfl inX8 12 (by decide) rfl q_189 hdg kk
theorem pf_X8_47 {p : Program} {l : Launch} {e : Env} {R : Room} {s : State} {m : MethodId} {args : Array Value} {below : List Frame} {meth : Method} {c : Code} {H : Heap} {locs : List Loc} {cells slots : Nat} {Q : State → Prop} {cc : ByteArray} {nL : Nat} {ret : Option FieldType} {pc : Nat} {ls : Array Slot} {rest : List Value} {D : va_G} {ids : Nat → ClassId} {ad : Nat → Nat} {h : Hp} {x : Int32} (hA : adOk ad 12) (C : CX p s m args meth c cc nL ret RX8 D ids) (hP : wp D (cEM ids ad) ad 12 h H) (hS : va_S (inW ad 12) s.heap H locs) (hdg : decode cc pc = .ok (.putfield 47, 3)) (kk : ∀ (H1 : Heap) (locs1 : List Loc), wp D (cEM ids ad) ad 12 (hs h 0 12 x) H1 → va_S (inW ad 12) s.heap H1 locs1 → W p l e R s m args below meth c H1 locs1 cells slots Q (F0 m (pc + 3) ls rest)) : W p l e R s m args below meth c H locs cells slots Q (F0 m pc ls (.int x :: .ref (ad 0) :: rest)) :=
  u_put hA C hP hS (by decide) cE_X8 rfl inX8 tyX8 tyX8_ok nmX8 12 (by decide) rfl q_189 rfl (ty := .int) rfl rfl rfl hdg kk
theorem gf_X8_19 {p : Program} {l : Launch} {e : Env} {R : Room} {s : State} {m : MethodId} {args : Array Value} {below : List Frame} {meth : Method} {c : Code} {H : Heap} {locs : List Loc} {cells slots : Nat} {Q : State → Prop} {cc : ByteArray} {nL : Nat} {ret : Option FieldType} {pc : Nat} {ls : Array Slot} {rest : List Value} {D : va_G} {ids : Nat → ClassId} {ad : Nat → Nat} {h : Hp} (C : CX p s m args meth c cc nL ret RX8 D ids) (hP : wp D (cEM ids ad) ad 12 h H) (hdg : decode cc pc = .ok (.getfield 19, 3)) (kk : W p l e R s m args below meth c H locs cells slots Q (F0 m (pc + 3) ls (.ref (ad 4) :: rest))) : W p l e R s m args below meth c H locs cells slots Q (F0 m pc ls (.ref (ad 0) :: rest)) :=
  u_get C hP (by decide) cE_X8 rfl inX8 3 (by decide) rfl q_117 hdg kk
theorem al_m4 {p : Program} {l : Launch} {e : Env} {R : Room} {s : State} {m : MethodId} {args : Array Value} {below : List Frame} {meth : Method} {c : Code} {H : Heap} {locs : List Loc} {cells slots : Nat} {Q : State → Prop} {cc : ByteArray} {nL : Nat} {ret : Option FieldType} {own : String} {pc : Nat} {ls : Array Slot} {rest : List Value} {D : va_G} {ids : Nat → ClassId} {ad : Nat → Nat} {h : Hp} (C : CX p s m args meth c cc nL ret own D ids) (hP : wp D (cEM ids ad) ad 12 h H) {i : Int32} (hg : inb i 144 = true) (hdg : decode cc pc = .ok (.iaload, 1)) (kk : W p l e R s m args below meth c H locs cells slots Q (F0 m (pc + 1) ls (.int (h 4 i.toNatClampNeg) :: rest))) : W p l e R s m args below meth c H locs cells slots Q (F0 m pc ls (.int i :: .ref (ad 4) :: rest)) :=
  u_iald C hP (by decide) cE_m4 hg hdg kk
theorem as_m4 {p : Program} {l : Launch} {e : Env} {R : Room} {s : State} {m : MethodId} {args : Array Value} {below : List Frame} {meth : Method} {c : Code} {H : Heap} {locs : List Loc} {cells slots : Nat} {Q : State → Prop} {cc : ByteArray} {nL : Nat} {ret : Option FieldType} {own : String} {pc : Nat} {ls : Array Slot} {rest : List Value} {D : va_G} {ids : Nat → ClassId} {ad : Nat → Nat} {h : Hp} {i x : Int32} (hA : adOk ad 12) (C : CX p s m args meth c cc nL ret own D ids) (hP : wp D (cEM ids ad) ad 12 h H) (hS : va_S (inW ad 12) s.heap H locs) (hg : inb i 144 = true) (hdg : decode cc pc = .ok (.iastore, 1)) (kk : ∀ (H1 : Heap) (locs1 : List Loc), wp D (cEM ids ad) ad 12 (hs h 4 i.toNatClampNeg x) H1 → va_S (inW ad 12) s.heap H1 locs1 → W p l e R s m args below meth c H1 locs1 cells slots Q (F0 m (pc + 1) ls rest)) : W p l e R s m args below meth c H locs cells slots Q (F0 m pc ls (.int x :: .int i :: .ref (ad 4) :: rest)) :=
  u_iast hA C hP hS (by decide) cE_m4 hg hdg kk
abbrev rm_X8_record : Room := { frames := 0, cells := 0, slots := 0, locals := 0 }
set_option maxRecDepth 100000 in
set_option maxHeartbeats 4000000 in
theorem w_X8_record_49 {p : Program} {l : Launch} {e : Env} {s : State} {m : MethodId} {args : Array Value} {below : List Frame} {meth : Method} {c : Code} {D : va_G} {ids : Nat → ClassId} {ad : Nat → Nat} {rv : Hp} (hA : adOk ad 12) (C : CX p s m args meth c cX8_record 2 none RX8 D ids) (hX : ExM s s.heap) : ∀ (fu : Nat), ∀ (h : Hp) (x1 : Int32) (H : Heap) (locs : List Loc) (ls : Array Slot), f_X8_record_49 fu h x1 = some rv → wp D (cEM ids ad) ad 12 h H → va_S (inW ad 12) s.heap H locs → lv_has ls 2 [(0, .ref (ad 0)), (1, .int x1)] → W p l e rm_X8_record s m args below meth c H locs 0 0 (MQ below (QW D (cEM ids ad) ad 12 none rv) args s 0 0 (inW ad 12)) (F0 m 49 ls []) := by
  intro fu
  induction fu with
  | zero =>
    intro h x1 H locs ls hf hP hS hl
    cases hf
  | succ fu ih =>
    intro h x1 H locs ls hf hP hS hl
    rw [f_X8_record_49_s] at hf
    refine lv_iload_n C.1 C.2.1 dX8_record_49 rfl (lv_at hl 1 rfl) ?_
    refine lv_bipush (v := (36 : Int32)) C.1 C.2.1 dX8_record_50 (by decide) ?_
    refine lv_icmp_ge (tgt := 81) C.1 C.2.1 dX8_record_52 (by decide) (fun hc => ?_) (fun hc => ?_)
    · have hf := g_t hc hf
      refine lv_aload_n C.1 C.2.1 dX8_record_81 rfl (lv_at hl 0 rfl) ?_
      refine lv_dup C.1 C.2.1 dX8_record_82 rfl ?_
      refine gf_X8_47 C hP dX8_record_83 ?_
      refine lv_iconst (v := (1 : Int32)) C.1 C.2.1 dX8_record_86 (by decide) ?_
      refine lv_iadd C.1 C.2.1 dX8_record_87 ?_
      refine pf_X8_47 hA C hP hS dX8_record_88 (fun H locs hP hS => ?_)
      obtain rfl := Option.some.inj hf
      exact u_vret C hP hS dX8_record_91
    · have hf := g_f hc hf
      refine lv_aload_n C.1 C.2.1 dX8_record_55 rfl (lv_at hl 0 rfl) ?_
      refine gf_X8_19 C hP dX8_record_56 ?_
      refine lv_bipush (v := (36 : Int32)) C.1 C.2.1 dX8_record_59 (by decide) ?_
      refine lv_aload_n C.1 C.2.1 dX8_record_61 rfl (lv_at hl 0 rfl) ?_
      refine gf_X8_47 C hP dX8_record_62 ?_
      refine lv_imul C.1 C.2.1 dX8_record_65 ?_
      refine lv_iload_n C.1 C.2.1 dX8_record_66 rfl (lv_at hl 1 rfl) ?_
      refine lv_iadd C.1 C.2.1 dX8_record_67 ?_
      refine lv_aload_n C.1 C.2.1 dX8_record_68 rfl (lv_at hl 0 rfl) ?_
      refine gf_X8_7 C hP dX8_record_69 ?_
      refine lv_iload_n C.1 C.2.1 dX8_record_72 rfl (lv_at hl 1 rfl) ?_
      obtain ⟨hg, hf⟩ := g_if hf
      refine al_m1 C hP hg dX8_record_73 ?_
      obtain ⟨hg, hf⟩ := g_if hf
      refine as_m4 hA C hP hS hg dX8_record_74 (fun H locs hP hS => ?_)
      refine lv_iinc (v := (x1 + 1)) (lv' := [(1, .int (x1 + 1)), (0, .ref (ad 0))]) C.1 C.2.1 dX8_record_75 hl (k := 1) rfl (by rfl) (by decide) rfl (fun ls hl => ?_)
      refine lv_goto (tgt := 49) C.1 C.2.1 dX8_record_78 (by decide) ?_
      exact ih _ _ _ _ _ hf hP hS (lv_sub hl [1, 0] rfl)
set_option maxRecDepth 100000 in
set_option maxHeartbeats 4000000 in
theorem w_X8_record_47 {p : Program} {l : Launch} {e : Env} {s : State} {m : MethodId} {args : Array Value} {below : List Frame} {meth : Method} {c : Code} {D : va_G} {ids : Nat → ClassId} {ad : Nat → Nat} {rv : Hp} (hA : adOk ad 12) (C : CX p s m args meth c cX8_record 2 none RX8 D ids) (hX : ExM s s.heap) : ∀ (h : Hp) (H : Heap) (locs : List Loc) (ls : Array Slot), f_X8_record_47 h = some rv → wp D (cEM ids ad) ad 12 h H → va_S (inW ad 12) s.heap H locs → lv_has ls 2 [(0, .ref (ad 0))] → W p l e rm_X8_record s m args below meth c H locs 0 0 (MQ below (QW D (cEM ids ad) ad 12 none rv) args s 0 0 (inW ad 12)) (F0 m 47 ls []) := by
  intro h H locs ls hf hP hS hl
  unfold f_X8_record_47 at hf
  refine lv_iconst (v := (0 : Int32)) C.1 C.2.1 dX8_record_47 (by decide) ?_
  refine lv_istore_n (lv' := [(1, .int (0 : Int32)), (0, .ref (ad 0))]) C.1 C.2.1 dX8_record_48 rfl hl (by decide) rfl (fun ls hl => ?_)
  exact w_X8_record_49 hA C hX _ _ _ _ _ _ hf hP hS (lv_sub hl [1, 0] rfl)
set_option maxRecDepth 100000 in
set_option maxHeartbeats 4000000 in
theorem w_X8_record_10 {p : Program} {l : Launch} {e : Env} {s : State} {m : MethodId} {args : Array Value} {below : List Frame} {meth : Method} {c : Code} {D : va_G} {ids : Nat → ClassId} {ad : Nat → Nat} {rv : Hp} (hA : adOk ad 12) (C : CX p s m args meth c cX8_record 2 none RX8 D ids) (hX : ExM s s.heap) : ∀ (fu : Nat), ∀ (h : Hp) (x1 : Int32) (H : Heap) (locs : List Loc) (ls : Array Slot), f_X8_record_10 fu h x1 = some rv → wp D (cEM ids ad) ad 12 h H → va_S (inW ad 12) s.heap H locs → lv_has ls 2 [(0, .ref (ad 0)), (1, .int x1)] → W p l e rm_X8_record s m args below meth c H locs 0 0 (MQ below (QW D (cEM ids ad) ad 12 none rv) args s 0 0 (inW ad 12)) (F0 m 10 ls []) := by
  intro fu
  induction fu with
  | zero =>
    intro h x1 H locs ls hf hP hS hl
    cases hf
  | succ fu ih =>
    intro h x1 H locs ls hf hP hS hl
    rw [f_X8_record_10_s] at hf
    refine lv_iload_n C.1 C.2.1 dX8_record_10 rfl (lv_at hl 1 rfl) ?_
    refine lv_bipush (v := (108 : Int32)) C.1 C.2.1 dX8_record_11 (by decide) ?_
    refine lv_icmp_ge (tgt := 37) C.1 C.2.1 dX8_record_13 (by decide) (fun hc => ?_) (fun hc => ?_)
    · have hf := g_t hc hf
      refine lv_aload_n C.1 C.2.1 dX8_record_37 rfl (lv_at hl 0 rfl) ?_
      refine lv_dup C.1 C.2.1 dX8_record_38 rfl ?_
      refine gf_X8_47 C hP dX8_record_39 ?_
      refine lv_iconst (v := (1 : Int32)) C.1 C.2.1 dX8_record_42 (by decide) ?_
      refine lv_isub C.1 C.2.1 dX8_record_43 ?_
      refine pf_X8_47 hA C hP hS dX8_record_44 (fun H locs hP hS => ?_)
      exact w_X8_record_47 hA C hX _ _ _ _ hf hP hS (lv_sub hl [0] rfl)
    · have hf := g_f hc hf
      refine lv_aload_n C.1 C.2.1 dX8_record_16 rfl (lv_at hl 0 rfl) ?_
      refine gf_X8_19 C hP dX8_record_17 ?_
      refine lv_iload_n C.1 C.2.1 dX8_record_20 rfl (lv_at hl 1 rfl) ?_
      refine lv_aload_n C.1 C.2.1 dX8_record_21 rfl (lv_at hl 0 rfl) ?_
      refine gf_X8_19 C hP dX8_record_22 ?_
      refine lv_iload_n C.1 C.2.1 dX8_record_25 rfl (lv_at hl 1 rfl) ?_
      refine lv_bipush (v := (36 : Int32)) C.1 C.2.1 dX8_record_26 (by decide) ?_
      refine lv_iadd C.1 C.2.1 dX8_record_28 ?_
      obtain ⟨hg, hf⟩ := g_if hf
      refine al_m4 C hP hg dX8_record_29 ?_
      obtain ⟨hg, hf⟩ := g_if hf
      refine as_m4 hA C hP hS hg dX8_record_30 (fun H locs hP hS => ?_)
      refine lv_iinc (v := (x1 + 1)) (lv' := [(1, .int (x1 + 1)), (0, .ref (ad 0))]) C.1 C.2.1 dX8_record_31 hl (k := 1) rfl (by rfl) (by decide) rfl (fun ls hl => ?_)
      refine lv_goto (tgt := 10) C.1 C.2.1 dX8_record_34 (by decide) ?_
      exact ih _ _ _ _ _ hf hP hS (lv_sub hl [1, 0] rfl)
set_option maxRecDepth 100000 in
set_option maxHeartbeats 4000000 in
theorem w_X8_record {p : Program} {l : Launch} {e : Env} {s : State} {m : MethodId} {args : Array Value} {below : List Frame} {meth : Method} {c : Code} {D : va_G} {ids : Nat → ClassId} {ad : Nat → Nat} {rv : Hp} (hA : adOk ad 12) (C : CX p s m args meth c cX8_record 2 none RX8 D ids) (hX : ExM s s.heap) : ∀ (h : Hp) (H : Heap) (locs : List Loc) (ls : Array Slot), f_X8_record h = some rv → wp D (cEM ids ad) ad 12 h H → va_S (inW ad 12) s.heap H locs → lv_has ls 2 [(0, .ref (ad 0))] → W p l e rm_X8_record s m args below meth c H locs 0 0 (MQ below (QW D (cEM ids ad) ad 12 none rv) args s 0 0 (inW ad 12)) (F0 m 0 ls []) := by
  intro h H locs ls hf hP hS hl
  unfold f_X8_record at hf
  refine lv_aload_n C.1 C.2.1 dX8_record_0 rfl (lv_at hl 0 rfl) ?_
  refine gf_X8_47 C hP dX8_record_1 ?_
  refine lv_iconst (v := (4 : Int32)) C.1 C.2.1 dX8_record_4 (by decide) ?_
  refine lv_icmp_ne (tgt := 47) C.1 C.2.1 dX8_record_5 (by decide) (fun hc => ?_) (fun hc => ?_)
  · have hf := g_f hc hf
    exact w_X8_record_47 hA C hX _ _ _ _ hf hP hS (lv_sub hl [0] rfl)
  · have hf := g_t hc hf
    refine lv_iconst (v := (0 : Int32)) C.1 C.2.1 dX8_record_8 (by decide) ?_
    refine lv_istore_n (lv' := [(1, .int (0 : Int32)), (0, .ref (ad 0))]) C.1 C.2.1 dX8_record_9 rfl hl (by decide) rfl (fun ls hl => ?_)
    exact w_X8_record_10 hA C hX _ _ _ _ _ _ hf hP hS (lv_sub hl [1, 0] rfl)
theorem c_X8_record (l : Launch) (D : va_G) (ids : Nat → ClassId) (ad : Nat → Nat) (hA : adOk ad 12) {h : Hp} {rv : Hp} (hf : f_X8_record h = some rv) : Met l yX8_record (ws_ yX8_record cX8_record 2 none) rm_X8_record (va_Pc [.ref (ad 0)] (WB D ids (cEM ids ad) ad 12 ExM h)) (QW D (cEM ids ad) ad 12 none rv) 0 0 (inW ad 12) :=
  u_met (own := RX8) (by decide) rfl (Nat.le_of_ble_eq_true rfl) rfl (fun p e s m args below meth c H ls C hX hP hS hl => w_X8_record hA C hX _ _ _ _ hf hP hS hl)
theorem cv_X8_119 {p : Program} {l : Launch} {e : Env} {R : Room} {s : State} {m : MethodId} {args : Array Value} {below : List Frame} {meth : Method} {c : Code} {H : Heap} {locs : List Loc} {Q : State → Prop} {cc : ByteArray} {nL : Nat} {ret : Option FieldType} {pc : Nat} {ls : Array Slot} {rest : List Value} {D : va_G} {ids : Nat → ClassId} {ad : Nat → Nat} {h : Hp} (hA : adOk ad 12) (C : CX p s m args meth c cc nL ret RX8 D ids) (hX : ExM s s.heap) (hP : wp D (cEM ids ad) ad 12 h H) (hS : va_S (inW ad 12) s.heap H locs) {a1 : Int32} {rv : Int32 × Hp} (hf : f_X8_isCaptain h a1 = some rv) (hR : 1 + 1 ≤ R.frames ∧ 8 + (1 + 11) + 22 ≤ R.locals) (hsz : ls.size = nL) (hcat : (rest.map fun v => v.category).sum ≤ 8) (hdg : decode cc pc = .ok (.invokestatic 119, 3)) (kk : ∀ (H1 : Heap) (locs1 : List Loc), wp D (cEM ids ad) ad 12 rv.2 H1 → va_S (inW ad 12) s.heap H1 locs1 → W p l e R s m args below meth c H1 locs1 0 0 Q (F0 m (pc + 3) ls (.int rv.1 :: rest))) : W p l e R s m args below meth c H locs 0 0 Q (F0 m pc ls (.int a1 :: rest)) :=
  u_callS (As := [.int a1]) (rv := (some (.int rv.1))) C exM_ok hX (c_X8_isCaptain l D ids ad hA hf) q_169 q_170 q_5 q_171 ⟨rfl, rfl⟩ (by refine ⟨by decide +kernel, by decide +kernel, ?_⟩; show _ = some 1; decide +kernel) hR hP hS hsz hcat rfl hdg kk
theorem cv_X8_123 {p : Program} {l : Launch} {e : Env} {R : Room} {s : State} {m : MethodId} {args : Array Value} {below : List Frame} {meth : Method} {c : Code} {H : Heap} {locs : List Loc} {Q : State → Prop} {cc : ByteArray} {nL : Nat} {ret : Option FieldType} {pc : Nat} {ls : Array Slot} {rest : List Value} {D : va_G} {ids : Nat → ClassId} {ad : Nat → Nat} {h : Hp} (hA : adOk ad 12) (C : CX p s m args meth c cc nL ret RX8 D ids) (hX : ExM s s.heap) (hP : wp D (cEM ids ad) ad 12 h H) (hS : va_S (inW ad 12) s.heap H locs) {a1 : Int32} {rv : Int32 × Hp} (hf : f_X8_least h a1 = some rv) (hR : 0 + 1 ≤ R.frames ∧ 8 + (1 + 11) + 0 ≤ R.locals) (hsz : ls.size = nL) (hcat : (rest.map fun v => v.category).sum ≤ 8) (hdg : decode cc pc = .ok (.invokestatic 123, 3)) (kk : ∀ (H1 : Heap) (locs1 : List Loc), wp D (cEM ids ad) ad 12 rv.2 H1 → va_S (inW ad 12) s.heap H1 locs1 → W p l e R s m args below meth c H1 locs1 0 0 Q (F0 m (pc + 3) ls (.int rv.1 :: rest))) : W p l e R s m args below meth c H locs 0 0 Q (F0 m pc ls (.int a1 :: rest)) :=
  u_callS (As := [.int a1]) (rv := (some (.int rv.1))) C exM_ok hX (c_X8_least l D ids ad hA hf) q_175 q_176 q_5 q_177 ⟨rfl, rfl⟩ (by refine ⟨by decide +kernel, by decide +kernel, ?_⟩; show _ = some 1; decide +kernel) hR hP hS hsz hcat rfl hdg kk
theorem cv_X8_126 {p : Program} {l : Launch} {e : Env} {R : Room} {s : State} {m : MethodId} {args : Array Value} {below : List Frame} {meth : Method} {c : Code} {H : Heap} {locs : List Loc} {Q : State → Prop} {cc : ByteArray} {nL : Nat} {ret : Option FieldType} {pc : Nat} {ls : Array Slot} {rest : List Value} {D : va_G} {ids : Nat → ClassId} {ad : Nat → Nat} {h : Hp} (hA : adOk ad 12) (C : CX p s m args meth c cc nL ret RX8 D ids) (hX : ExM s s.heap) (hP : wp D (cEM ids ad) ad 12 h H) (hS : va_S (inW ad 12) s.heap H locs) {a1 : Int32} {rv : Int32 × Hp} (hf : f_X8_most h a1 = some rv) (hR : 0 + 1 ≤ R.frames ∧ 8 + (1 + 11) + 0 ≤ R.locals) (hsz : ls.size = nL) (hcat : (rest.map fun v => v.category).sum ≤ 8) (hdg : decode cc pc = .ok (.invokestatic 126, 3)) (kk : ∀ (H1 : Heap) (locs1 : List Loc), wp D (cEM ids ad) ad 12 rv.2 H1 → va_S (inW ad 12) s.heap H1 locs1 → W p l e R s m args below meth c H1 locs1 0 0 Q (F0 m (pc + 3) ls (.int rv.1 :: rest))) : W p l e R s m args below meth c H locs 0 0 Q (F0 m pc ls (.int a1 :: rest)) :=
  u_callS (As := [.int a1]) (rv := (some (.int rv.1))) C exM_ok hX (c_X8_most l D ids ad hA hf) q_178 q_179 q_5 q_180 ⟨rfl, rfl⟩ (by refine ⟨by decide +kernel, by decide +kernel, ?_⟩; show _ = some 1; decide +kernel) hR hP hS hsz hcat rfl hdg kk
theorem cv_X8_55 {p : Program} {l : Launch} {e : Env} {R : Room} {s : State} {m : MethodId} {args : Array Value} {below : List Frame} {meth : Method} {c : Code} {H : Heap} {locs : List Loc} {Q : State → Prop} {cc : ByteArray} {nL : Nat} {ret : Option FieldType} {pc : Nat} {ls : Array Slot} {rest : List Value} {D : va_G} {ids : Nat → ClassId} {ad : Nat → Nat} {h : Hp} (hA : adOk ad 12) (C : CX p s m args meth c cc nL ret RX8 D ids) (hX : ExM s s.heap) (hP : wp D (cEM ids ad) ad 12 h H) (hS : va_S (inW ad 12) s.heap H locs) {a1 : Int32} {a2 : Int32} {rv : Int32 × Hp} (hf : f_X8_of h a1 a2 = some rv) (hR : 0 + 1 ≤ R.frames ∧ 8 + (3 + 11) + 0 ≤ R.locals) (hsz : ls.size = nL) (hcat : (rest.map fun v => v.category).sum ≤ 8) (hdg : decode cc pc = .ok (.invokevirtual 55, 3)) (kk : ∀ (H1 : Heap) (locs1 : List Loc), wp D (cEM ids ad) ad 12 rv.2 H1 → va_S (inW ad 12) s.heap H1 locs1 → W p l e R s m args below meth c H1 locs1 0 0 Q (F0 m (pc + 3) ls (.int rv.1 :: rest))) : W p l e R s m args below meth c H locs 0 0 Q (F0 m pc ls (.int a2 :: .int a1 :: .ref (ad 0) :: rest)) :=
  u_callV (As := [.int a1, .int a2]) (rv := (some (.int rv.1))) C exM_ok hX (c_X8_of l D ids ad hA hf) q_181 q_182 q_183 q_5 q_184 ⟨rfl, rfl⟩ (by refine ⟨by decide +kernel, by decide +kernel, ?_⟩; show _ = some 2; decide +kernel) hR (by decide) (cE_X8 _) rfl hP hS hsz hcat rfl hdg kk
theorem cv_X8_129 {p : Program} {l : Launch} {e : Env} {R : Room} {s : State} {m : MethodId} {args : Array Value} {below : List Frame} {meth : Method} {c : Code} {H : Heap} {locs : List Loc} {Q : State → Prop} {cc : ByteArray} {nL : Nat} {ret : Option FieldType} {pc : Nat} {ls : Array Slot} {rest : List Value} {D : va_G} {ids : Nat → ClassId} {ad : Nat → Nat} {h : Hp} (hA : adOk ad 12) (C : CX p s m args meth c cc nL ret RX8 D ids) (hX : ExM s s.heap) (hP : wp D (cEM ids ad) ad 12 h H) (hS : va_S (inW ad 12) s.heap H locs) {rv : Hp} (hf : f_X8_record h = some rv) (hR : 0 + 1 ≤ R.frames ∧ 8 + (2 + 11) + 0 ≤ R.locals) (hsz : ls.size = nL) (hcat : (rest.map fun v => v.category).sum ≤ 8) (hdg : decode cc pc = .ok (.invokevirtual 129, 3)) (kk : ∀ (H1 : Heap) (locs1 : List Loc), wp D (cEM ids ad) ad 12 rv H1 → va_S (inW ad 12) s.heap H1 locs1 → W p l e R s m args below meth c H1 locs1 0 0 Q (F0 m (pc + 3) ls (rest))) : W p l e R s m args below meth c H locs 0 0 Q (F0 m pc ls (.ref (ad 0) :: rest)) :=
  u_callV (As := []) (rv := none) C exM_ok hX (c_X8_record l D ids ad hA hf) q_185 q_186 q_187 q_5 q_188 ⟨rfl, rfl⟩ (by refine ⟨by decide +kernel, by decide +kernel, ?_⟩; show _ = some 0; decide +kernel) hR (by decide) (cE_X8 _) rfl hP hS hsz hcat rfl hdg kk
theorem cv_X8_43 {p : Program} {l : Launch} {e : Env} {R : Room} {s : State} {m : MethodId} {args : Array Value} {below : List Frame} {meth : Method} {c : Code} {H : Heap} {locs : List Loc} {Q : State → Prop} {cc : ByteArray} {nL : Nat} {ret : Option FieldType} {pc : Nat} {ls : Array Slot} {rest : List Value} {D : va_G} {ids : Nat → ClassId} {ad : Nat → Nat} {h : Hp} (hA : adOk ad 12) (C : CX p s m args meth c cc nL ret RX8 D ids) (hX : ExM s s.heap) (hP : wp D (cEM ids ad) ad 12 h H) (hS : va_S (inW ad 12) s.heap H locs) {a1 : Int32} {a2 : Int32} {a3 : Int32} {rv : Hp} (hf : f_X8_put h a1 a2 a3 = some rv) (hR : 0 + 1 ≤ R.frames ∧ 8 + (4 + 11) + 0 ≤ R.locals) (hsz : ls.size = nL) (hcat : (rest.map fun v => v.category).sum ≤ 8) (hdg : decode cc pc = .ok (.invokevirtual 43, 3)) (kk : ∀ (H1 : Heap) (locs1 : List Loc), wp D (cEM ids ad) ad 12 rv H1 → va_S (inW ad 12) s.heap H1 locs1 → W p l e R s m args below meth c H1 locs1 0 0 Q (F0 m (pc + 3) ls (rest))) : W p l e R s m args below meth c H locs 0 0 Q (F0 m pc ls (.int a3 :: .int a2 :: .int a1 :: .ref (ad 0) :: rest)) :=
  u_callV (As := [.int a1, .int a2, .int a3]) (rv := none) C exM_ok hX (c_X8_put l D ids ad hA hf) q_125 q_126 q_127 q_5 q_128 ⟨rfl, rfl⟩ (by refine ⟨by decide +kernel, by decide +kernel, ?_⟩; show _ = some 3; decide +kernel) hR (by decide) (cE_X8 _) rfl hP hS hsz hcat rfl hdg kk
abbrev rm_X8_captain : Room := { frames := 2, cells := 0, slots := 0, locals := 42 }
set_option maxRecDepth 100000 in
set_option maxHeartbeats 4000000 in
theorem w_X8_captain {p : Program} {l : Launch} {e : Env} {s : State} {m : MethodId} {args : Array Value} {below : List Frame} {meth : Method} {c : Code} {D : va_G} {ids : Nat → ClassId} {ad : Nat → Nat} {rv : Int32 × Hp} (hA : adOk ad 12) (C : CX p s m args meth c cX8_captain 5 (some .int) RX8 D ids) (hX : ExM s s.heap) : ∀ (h : Hp) (a1 : Int32) (a2 : Int32) (a3 : Int32) (H : Heap) (locs : List Loc) (ls : Array Slot), f_X8_captain h a1 a2 a3 = some rv → wp D (cEM ids ad) ad 12 h H → va_S (inW ad 12) s.heap H locs → lv_has ls 5 [(0, .ref (ad 0)), (1, .int a1), (2, .int a2), (3, .int a3)] → W p l e rm_X8_captain s m args below meth c H locs 0 0 (MQ below (QW D (cEM ids ad) ad 12 (some (.int rv.1)) rv.2) args s 0 0 (inW ad 12)) (F0 m 0 ls []) := by
  intro h a1 a2 a3 H locs ls hf hP hS hl
  unfold f_X8_captain at hf
  refine lv_iload_n C.1 C.2.1 dX8_captain_0 rfl (lv_at hl 1 rfl) ?_
  obtain ⟨q1, eq1, hf⟩ := g_b hf
  refine cv_X8_119 hA C hX hP hS eq1 ⟨Nat.le_of_ble_eq_true rfl, Nat.le_of_ble_eq_true rfl⟩ hl.1 (Nat.le_of_ble_eq_true rfl) dX8_captain_1 (fun H locs hP hS => ?_)
  refine lv_if_ne (tgt := 9) C.1 C.2.1 dX8_captain_4 (by decide) (fun hc => ?_) (fun hc => ?_)
  · have hf := g_f hc hf
    refine lv_iload_n C.1 C.2.1 dX8_captain_9 rfl (lv_at hl 2 rfl) ?_
    refine lv_iconst (v := (0 : Int32)) C.1 C.2.1 dX8_captain_10 (by decide) ?_
    refine lv_iconst (v := (3 : Int32)) C.1 C.2.1 dX8_captain_11 (by decide) ?_
    obtain ⟨q2, eq2, hf⟩ := g_b hf
    refine cv_X8_51 hA C hX hP hS eq2 ⟨Nat.le_of_ble_eq_true rfl, Nat.le_of_ble_eq_true rfl⟩ hl.1 (Nat.le_of_ble_eq_true rfl) dX8_captain_12 (fun H locs hP hS => ?_)
    refine lv_if_eq (tgt := 33) C.1 C.2.1 dX8_captain_15 (by decide) (fun hc => ?_) (fun hc => ?_)
    · have hf := g_t hc hf
      refine lv_bipush (v := (-2 : Int32)) C.1 C.2.1 dX8_captain_33 (by decide) ?_
      obtain rfl := Option.some.inj hf
      exact u_iret C hP hS dX8_captain_35
    · have hf := g_f hc hf
      refine lv_iload_n C.1 C.2.1 dX8_captain_18 rfl (lv_at hl 3 rfl) ?_
      refine lv_iload_n C.1 C.2.1 dX8_captain_19 rfl (lv_at hl 2 rfl) ?_
      obtain ⟨q3, eq3, hf⟩ := g_b hf
      refine cv_X8_123 hA C hX hP hS eq3 ⟨Nat.le_of_ble_eq_true rfl, Nat.le_of_ble_eq_true rfl⟩ hl.1 (Nat.le_of_ble_eq_true rfl) dX8_captain_20 (fun H locs hP hS => ?_)
      refine lv_iload_n C.1 C.2.1 dX8_captain_23 rfl (lv_at hl 2 rfl) ?_
      obtain ⟨q4, eq4, hf⟩ := g_b hf
      refine cv_X8_126 hA C hX hP hS eq4 ⟨Nat.le_of_ble_eq_true rfl, Nat.le_of_ble_eq_true rfl⟩ hl.1 (Nat.le_of_ble_eq_true rfl) dX8_captain_24 (fun H locs hP hS => ?_)
      obtain ⟨q5, eq5, hf⟩ := g_b hf
      refine cv_X8_51 hA C hX hP hS eq5 ⟨Nat.le_of_ble_eq_true rfl, Nat.le_of_ble_eq_true rfl⟩ hl.1 (Nat.le_of_ble_eq_true rfl) dX8_captain_27 (fun H locs hP hS => ?_)
      refine lv_if_ne (tgt := 36) C.1 C.2.1 dX8_captain_30 (by decide) (fun hc => ?_) (fun hc => ?_)
      · have hf := g_f hc hf
        refine lv_aload_n C.1 C.2.1 dX8_captain_36 rfl (lv_at hl 0 rfl) ?_
        refine lv_iload_n C.1 C.2.1 dX8_captain_37 rfl (lv_at hl 1 rfl) ?_
        refine lv_iload_n C.1 C.2.1 dX8_captain_38 rfl (lv_at hl 2 rfl) ?_
        obtain ⟨q6, eq6, hf⟩ := g_b hf
        refine cv_X8_55 hA C hX hP hS eq6 ⟨Nat.le_of_ble_eq_true rfl, Nat.le_of_ble_eq_true rfl⟩ hl.1 (Nat.le_of_ble_eq_true rfl) dX8_captain_39 (fun H locs hP hS => ?_)
        refine lv_istore (lv' := [(4, .int q6.1), (0, .ref (ad 0)), (1, .int a1), (2, .int a2), (3, .int a3)]) C.1 C.2.1 dX8_captain_42 hl (by decide) rfl (fun ls hl => ?_)
        refine lv_iload C.1 C.2.1 dX8_captain_44 (lv_at hl 0 rfl) ?_
        refine lv_iload_n C.1 C.2.1 dX8_captain_46 rfl (lv_at hl 4 rfl) ?_
        refine lv_icmp_ne (tgt := 53) C.1 C.2.1 dX8_captain_47 (by decide) (fun hc => ?_) (fun hc => ?_)
        · have hf := g_f hc hf
          refine lv_aload_n C.1 C.2.1 dX8_captain_53 rfl (lv_at hl 1 rfl) ?_
          obtain ⟨q7, eq7, hf⟩ := g_b hf
          refine cv_X8_129 hA C hX hP hS eq7 ⟨Nat.le_of_ble_eq_true rfl, Nat.le_of_ble_eq_true rfl⟩ hl.1 (Nat.le_of_ble_eq_true rfl) dX8_captain_54 (fun H locs hP hS => ?_)
          refine lv_aload_n C.1 C.2.1 dX8_captain_57 rfl (lv_at hl 1 rfl) ?_
          refine lv_iload_n C.1 C.2.1 dX8_captain_58 rfl (lv_at hl 2 rfl) ?_
          refine lv_iload_n C.1 C.2.1 dX8_captain_59 rfl (lv_at hl 3 rfl) ?_
          refine lv_iload_n C.1 C.2.1 dX8_captain_60 rfl (lv_at hl 4 rfl) ?_
          obtain ⟨q8, eq8, hf⟩ := g_b hf
          refine cv_X8_43 hA C hX hP hS eq8 ⟨Nat.le_of_ble_eq_true rfl, Nat.le_of_ble_eq_true rfl⟩ hl.1 (Nat.le_of_ble_eq_true rfl) dX8_captain_61 (fun H locs hP hS => ?_)
          refine lv_iload C.1 C.2.1 dX8_captain_64 (lv_at hl 0 rfl) ?_
          obtain rfl := Option.some.inj hf
          exact u_iret C hP hS dX8_captain_66
        · have hf := g_t hc hf
          refine lv_bipush (v := (-5 : Int32)) C.1 C.2.1 dX8_captain_50 (by decide) ?_
          obtain rfl := Option.some.inj hf
          exact u_iret C hP hS dX8_captain_52
      · have hf := g_t hc hf
        refine lv_bipush (v := (-2 : Int32)) C.1 C.2.1 dX8_captain_33 (by decide) ?_
        obtain rfl := Option.some.inj hf
        exact u_iret C hP hS dX8_captain_35
  · have hf := g_t hc hf
    refine lv_iconst (v := (-1 : Int32)) C.1 C.2.1 dX8_captain_7 (by decide) ?_
    obtain rfl := Option.some.inj hf
    exact u_iret C hP hS dX8_captain_8
theorem c_X8_captain (l : Launch) (D : va_G) (ids : Nat → ClassId) (ad : Nat → Nat) (hA : adOk ad 12) {a1 : Int32} {a2 : Int32} {a3 : Int32} {h : Hp} {rv : Int32 × Hp} (hf : f_X8_captain h a1 a2 a3 = some rv) : Met l yX8_captain (ws_ yX8_captain cX8_captain 5 (some .int)) rm_X8_captain (va_Pc [.ref (ad 0), .int a1, .int a2, .int a3] (WB D ids (cEM ids ad) ad 12 ExM h)) (QW D (cEM ids ad) ad 12 (some (.int rv.1)) rv.2) 0 0 (inW ad 12) :=
  u_met (own := RX8) (by decide) rfl (Nat.le_of_ble_eq_true rfl) rfl (fun p e s m args below meth c H ls C hX hP hS hl => w_X8_captain hA C hX _ _ _ _ _ _ _ hf hP hS hl)
theorem gf_X8_145 {p : Program} {l : Launch} {e : Env} {R : Room} {s : State} {m : MethodId} {args : Array Value} {below : List Frame} {meth : Method} {c : Code} {H : Heap} {locs : List Loc} {cells slots : Nat} {Q : State → Prop} {cc : ByteArray} {nL : Nat} {ret : Option FieldType} {pc : Nat} {ls : Array Slot} {rest : List Value} {D : va_G} {ids : Nat → ClassId} {ad : Nat → Nat} {h : Hp} (C : CX p s m args meth c cc nL ret RX8 D ids) (hP : wp D (cEM ids ad) ad 12 h H) (hdg : decode cc pc = .ok (.getfield 145, 3)) (kk : W p l e R s m args below meth c H locs cells slots Q (F0 m (pc + 3) ls (.int (h 0 11) :: rest))) : W p l e R s m args below meth c H locs cells slots Q (F0 m pc ls (.ref (ad 0) :: rest)) :=
  u_get C hP (by decide) cE_X8 rfl inX8 11 (by decide) rfl q_235 hdg kk
theorem gf_X8_142 {p : Program} {l : Launch} {e : Env} {R : Room} {s : State} {m : MethodId} {args : Array Value} {below : List Frame} {meth : Method} {c : Code} {H : Heap} {locs : List Loc} {cells slots : Nat} {Q : State → Prop} {cc : ByteArray} {nL : Nat} {ret : Option FieldType} {pc : Nat} {ls : Array Slot} {rest : List Value} {D : va_G} {ids : Nat → ClassId} {ad : Nat → Nat} {h : Hp} (C : CX p s m args meth c cc nL ret RX8 D ids) (hP : wp D (cEM ids ad) ad 12 h H) (hdg : decode cc pc = .ok (.getfield 142, 3)) (kk : W p l e R s m args below meth c H locs cells slots Q (F0 m (pc + 3) ls (.int (h 0 13) :: rest))) : W p l e R s m args below meth c H locs cells slots Q (F0 m pc ls (.ref (ad 0) :: rest)) :=
  u_get C hP (by decide) cE_X8 rfl inX8 13 (by decide) rfl q_240 hdg kk
theorem gf_X8_22 {p : Program} {l : Launch} {e : Env} {R : Room} {s : State} {m : MethodId} {args : Array Value} {below : List Frame} {meth : Method} {c : Code} {H : Heap} {locs : List Loc} {cells slots : Nat} {Q : State → Prop} {cc : ByteArray} {nL : Nat} {ret : Option FieldType} {pc : Nat} {ls : Array Slot} {rest : List Value} {D : va_G} {ids : Nat → ClassId} {ad : Nat → Nat} {h : Hp} (C : CX p s m args meth c cc nL ret RX8 D ids) (hP : wp D (cEM ids ad) ad 12 h H) (hdg : decode cc pc = .ok (.getfield 22, 3)) (kk : W p l e R s m args below meth c H locs cells slots Q (F0 m (pc + 3) ls (.ref (ad 5) :: rest))) : W p l e R s m args below meth c H locs cells slots Q (F0 m pc ls (.ref (ad 0) :: rest)) :=
  u_get C hP (by decide) cE_X8 rfl inX8 4 (by decide) rfl q_118 hdg kk
theorem al_m5 {p : Program} {l : Launch} {e : Env} {R : Room} {s : State} {m : MethodId} {args : Array Value} {below : List Frame} {meth : Method} {c : Code} {H : Heap} {locs : List Loc} {cells slots : Nat} {Q : State → Prop} {cc : ByteArray} {nL : Nat} {ret : Option FieldType} {own : String} {pc : Nat} {ls : Array Slot} {rest : List Value} {D : va_G} {ids : Nat → ClassId} {ad : Nat → Nat} {h : Hp} (C : CX p s m args meth c cc nL ret own D ids) (hP : wp D (cEM ids ad) ad 12 h H) {i : Int32} (hg : inb i 60 = true) (hdg : decode cc pc = .ok (.iaload, 1)) (kk : W p l e R s m args below meth c H locs cells slots Q (F0 m (pc + 1) ls (.int (h 5 i.toNatClampNeg) :: rest))) : W p l e R s m args below meth c H locs cells slots Q (F0 m pc ls (.int i :: .ref (ad 5) :: rest)) :=
  u_iald C hP (by decide) cE_m5 hg hdg kk
abbrev rm_X8_isNext : Room := { frames := 1, cells := 0, slots := 0, locals := 22 }
set_option maxRecDepth 100000 in
set_option maxHeartbeats 4000000 in
theorem w_X8_isNext {p : Program} {l : Launch} {e : Env} {s : State} {m : MethodId} {args : Array Value} {below : List Frame} {meth : Method} {c : Code} {D : va_G} {ids : Nat → ClassId} {ad : Nat → Nat} {rv : Int32 × Hp} (hA : adOk ad 12) (C : CX p s m args meth c cX8_isNext 3 (some .boolean) RX8 D ids) (hX : ExM s s.heap) : ∀ (h : Hp) (a1 : Int32) (a2 : Int32) (H : Heap) (locs : List Loc) (ls : Array Slot), f_X8_isNext h a1 a2 = some rv → wp D (cEM ids ad) ad 12 h H → va_S (inW ad 12) s.heap H locs → lv_has ls 3 [(0, .ref (ad 0)), (1, .int a1), (2, .int a2)] → W p l e rm_X8_isNext s m args below meth c H locs 0 0 (MQ below (QW D (cEM ids ad) ad 12 (some (.int rv.1)) rv.2) args s 0 0 (inW ad 12)) (F0 m 0 ls []) := by
  intro h a1 a2 H locs ls hf hP hS hl
  unfold f_X8_isNext at hf
  refine lv_aload_n C.1 C.2.1 dX8_isNext_0 rfl (lv_at hl 0 rfl) ?_
  refine gf_X8_145 C hP dX8_isNext_1 ?_
  refine lv_aload_n C.1 C.2.1 dX8_isNext_4 rfl (lv_at hl 0 rfl) ?_
  refine gf_X8_142 C hP dX8_isNext_5 ?_
  refine lv_icmp_ge (tgt := 32) C.1 C.2.1 dX8_isNext_8 (by decide) (fun hc => ?_) (fun hc => ?_)
  · have hf := g_t hc hf
    refine lv_iconst (v := (0 : Int32)) C.1 C.2.1 dX8_isNext_32 (by decide) ?_
    obtain rfl := Option.some.inj hf
    exact u_zret C hP hS isb_0 dX8_isNext_33
  · have hf := g_f hc hf
    refine lv_aload_n C.1 C.2.1 dX8_isNext_11 rfl (lv_at hl 0 rfl) ?_
    refine gf_X8_22 C hP dX8_isNext_12 ?_
    refine lv_aload_n C.1 C.2.1 dX8_isNext_15 rfl (lv_at hl 0 rfl) ?_
    refine gf_X8_145 C hP dX8_isNext_16 ?_
    obtain ⟨hg, hf⟩ := g_if hf
    refine al_m5 C hP hg dX8_isNext_19 ?_
    refine lv_iload_n C.1 C.2.1 dX8_isNext_20 rfl (lv_at hl 1 rfl) ?_
    refine lv_iload_n C.1 C.2.1 dX8_isNext_21 rfl (lv_at hl 2 rfl) ?_
    obtain ⟨q1, eq1, hf⟩ := g_b hf
    refine cv_X8_51 hA C hX hP hS eq1 ⟨Nat.le_of_ble_eq_true rfl, Nat.le_of_ble_eq_true rfl⟩ hl.1 (Nat.le_of_ble_eq_true rfl) dX8_isNext_22 (fun H locs hP hS => ?_)
    refine lv_if_eq (tgt := 32) C.1 C.2.1 dX8_isNext_25 (by decide) (fun hc => ?_) (fun hc => ?_)
    · have hf := g_t hc hf
      refine lv_iconst (v := (0 : Int32)) C.1 C.2.1 dX8_isNext_32 (by decide) ?_
      obtain rfl := Option.some.inj hf
      exact u_zret C hP hS isb_0 dX8_isNext_33
    · have hf := g_f hc hf
      refine lv_iconst (v := (1 : Int32)) C.1 C.2.1 dX8_isNext_28 (by decide) ?_
      refine lv_goto (tgt := 33) C.1 C.2.1 dX8_isNext_29 (by decide) ?_
      obtain rfl := Option.some.inj hf
      exact u_zret C hP hS isb_1 dX8_isNext_33
theorem c_X8_isNext (l : Launch) (D : va_G) (ids : Nat → ClassId) (ad : Nat → Nat) (hA : adOk ad 12) {a1 : Int32} {a2 : Int32} {h : Hp} {rv : Int32 × Hp} (hf : f_X8_isNext h a1 a2 = some rv) : Met l yX8_isNext (ws_ yX8_isNext cX8_isNext 3 (some .boolean)) rm_X8_isNext (va_Pc [.ref (ad 0), .int a1, .int a2] (WB D ids (cEM ids ad) ad 12 ExM h)) (QW D (cEM ids ad) ad 12 (some (.int rv.1)) rv.2) 0 0 (inW ad 12) :=
  u_met (own := RX8) (by decide) rfl (Nat.le_of_ble_eq_true rfl) rfl (fun p e s m args below meth c H ls C hX hP hS hl => w_X8_isNext hA C hX _ _ _ _ _ _ hf hP hS hl)
theorem cv_X8_148 {p : Program} {l : Launch} {e : Env} {R : Room} {s : State} {m : MethodId} {args : Array Value} {below : List Frame} {meth : Method} {c : Code} {H : Heap} {locs : List Loc} {Q : State → Prop} {cc : ByteArray} {nL : Nat} {ret : Option FieldType} {pc : Nat} {ls : Array Slot} {rest : List Value} {D : va_G} {ids : Nat → ClassId} {ad : Nat → Nat} {h : Hp} (hA : adOk ad 12) (C : CX p s m args meth c cc nL ret RX8 D ids) (hX : ExM s s.heap) (hP : wp D (cEM ids ad) ad 12 h H) (hS : va_S (inW ad 12) s.heap H locs) {a1 : Int32} {a2 : Int32} {rv : Int32 × Hp} (hf : f_X8_isNext h a1 a2 = some rv) (hR : 1 + 1 ≤ R.frames ∧ 8 + (3 + 11) + 22 ≤ R.locals) (hsz : ls.size = nL) (hcat : (rest.map fun v => v.category).sum ≤ 8) (hdg : decode cc pc = .ok (.invokevirtual 148, 3)) (kk : ∀ (H1 : Heap) (locs1 : List Loc), wp D (cEM ids ad) ad 12 rv.2 H1 → va_S (inW ad 12) s.heap H1 locs1 → W p l e R s m args below meth c H1 locs1 0 0 Q (F0 m (pc + 3) ls (.int rv.1 :: rest))) : W p l e R s m args below meth c H locs 0 0 Q (F0 m pc ls (.int a2 :: .int a1 :: .ref (ad 0) :: rest)) :=
  u_callV (As := [.int a1, .int a2]) (rv := (some (.int rv.1))) C exM_ok hX (c_X8_isNext l D ids ad hA hf) q_249 q_250 q_251 q_5 q_252 ⟨rfl, rfl⟩ (by refine ⟨by decide +kernel, by decide +kernel, ?_⟩; show _ = some 2; decide +kernel) hR (by decide) (cE_X8 _) rfl hP hS hsz hcat rfl hdg kk
theorem pf_X8_145 {p : Program} {l : Launch} {e : Env} {R : Room} {s : State} {m : MethodId} {args : Array Value} {below : List Frame} {meth : Method} {c : Code} {H : Heap} {locs : List Loc} {cells slots : Nat} {Q : State → Prop} {cc : ByteArray} {nL : Nat} {ret : Option FieldType} {pc : Nat} {ls : Array Slot} {rest : List Value} {D : va_G} {ids : Nat → ClassId} {ad : Nat → Nat} {h : Hp} {x : Int32} (hA : adOk ad 12) (C : CX p s m args meth c cc nL ret RX8 D ids) (hP : wp D (cEM ids ad) ad 12 h H) (hS : va_S (inW ad 12) s.heap H locs) (hdg : decode cc pc = .ok (.putfield 145, 3)) (kk : ∀ (H1 : Heap) (locs1 : List Loc), wp D (cEM ids ad) ad 12 (hs h 0 11 x) H1 → va_S (inW ad 12) s.heap H1 locs1 → W p l e R s m args below meth c H1 locs1 cells slots Q (F0 m (pc + 3) ls rest)) : W p l e R s m args below meth c H locs cells slots Q (F0 m pc ls (.int x :: .ref (ad 0) :: rest)) :=
  u_put hA C hP hS (by decide) cE_X8 rfl inX8 tyX8 tyX8_ok nmX8 11 (by decide) rfl q_235 rfl (ty := .int) rfl rfl rfl hdg kk
abbrev rm_X8_number : Room := { frames := 2, cells := 0, slots := 0, locals := 44 }
set_option maxRecDepth 100000 in
set_option maxHeartbeats 4000000 in
theorem w_X8_number_52 {p : Program} {l : Launch} {e : Env} {s : State} {m : MethodId} {args : Array Value} {below : List Frame} {meth : Method} {c : Code} {D : va_G} {ids : Nat → ClassId} {ad : Nat → Nat} {rv : Int32 × Hp} (hA : adOk ad 12) (C : CX p s m args meth c cX8_number 4 (some .int) RX8 D ids) (hX : ExM s s.heap) : ∀ (fu : Nat), ∀ (h : Hp) (x2 : Int32) (x3 : Int32) (H : Heap) (locs : List Loc) (ls : Array Slot), f_X8_number_52 fu h x2 x3 = some rv → wp D (cEM ids ad) ad 12 h H → va_S (inW ad 12) s.heap H locs → lv_has ls 4 [(0, .ref (ad 0)), (2, .int x2), (3, .int x3)] → W p l e rm_X8_number s m args below meth c H locs 0 0 (MQ below (QW D (cEM ids ad) ad 12 (some (.int rv.1)) rv.2) args s 0 0 (inW ad 12)) (F0 m 52 ls []) := by
  intro fu
  induction fu with
  | zero =>
    intro h x2 x3 H locs ls hf hP hS hl
    cases hf
  | succ fu ih =>
    intro h x2 x3 H locs ls hf hP hS hl
    rw [f_X8_number_52_s] at hf
    refine lv_iload_n C.1 C.2.1 dX8_number_52 rfl (lv_at hl 2 rfl) ?_
    refine lv_if_le (tgt := 119) C.1 C.2.1 dX8_number_53 (by decide) (fun hc => ?_) (fun hc => ?_)
    · have hf := g_t hc hf
      refine lv_iload_n C.1 C.2.1 dX8_number_119 rfl (lv_at hl 2 rfl) ?_
      obtain rfl := Option.some.inj hf
      exact u_iret C hP hS dX8_number_120
    · have hf := g_f hc hf
      refine lv_aload_n C.1 C.2.1 dX8_number_56 rfl (lv_at hl 0 rfl) ?_
      refine lv_bipush (v := (48 : Int32)) C.1 C.2.1 dX8_number_57 (by decide) ?_
      refine lv_bipush (v := (57 : Int32)) C.1 C.2.1 dX8_number_59 (by decide) ?_
      obtain ⟨q1, eq1, hf⟩ := g_b hf
      refine cv_X8_148 hA C hX hP hS eq1 ⟨Nat.le_of_ble_eq_true rfl, Nat.le_of_ble_eq_true rfl⟩ hl.1 (Nat.le_of_ble_eq_true rfl) dX8_number_61 (fun H locs hP hS => ?_)
      refine lv_if_eq (tgt := 119) C.1 C.2.1 dX8_number_64 (by decide) (fun hc => ?_) (fun hc => ?_)
      · have hf := g_t hc hf
        refine lv_iload_n C.1 C.2.1 dX8_number_119 rfl (lv_at hl 2 rfl) ?_
        obtain rfl := Option.some.inj hf
        exact u_iret C hP hS dX8_number_120
      · have hf := g_f hc hf
        refine lv_bipush (v := (10 : Int32)) C.1 C.2.1 dX8_number_67 (by decide) ?_
        refine lv_iload_n C.1 C.2.1 dX8_number_69 rfl (lv_at hl 2 rfl) ?_
        refine lv_imul C.1 C.2.1 dX8_number_70 ?_
        refine lv_aload_n C.1 C.2.1 dX8_number_71 rfl (lv_at hl 0 rfl) ?_
        refine gf_X8_22 C hP dX8_number_72 ?_
        refine lv_aload_n C.1 C.2.1 dX8_number_75 rfl (lv_at hl 0 rfl) ?_
        refine gf_X8_145 C hP dX8_number_76 ?_
        obtain ⟨hg, hf⟩ := g_if hf
        refine al_m5 C hP hg dX8_number_79 ?_
        refine lv_iadd C.1 C.2.1 dX8_number_80 ?_
        refine lv_bipush (v := (48 : Int32)) C.1 C.2.1 dX8_number_81 (by decide) ?_
        refine lv_isub C.1 C.2.1 dX8_number_83 ?_
        refine lv_iload_n C.1 C.2.1 dX8_number_84 rfl (lv_at hl 1 rfl) ?_
        refine lv_icmp_gt (tgt := 119) C.1 C.2.1 dX8_number_85 (by decide) (fun hc => ?_) (fun hc => ?_)
        · have hf := g_t hc hf
          refine lv_iload_n C.1 C.2.1 dX8_number_119 rfl (lv_at hl 2 rfl) ?_
          obtain rfl := Option.some.inj hf
          exact u_iret C hP hS dX8_number_120
        · have hf := g_f hc hf
          refine lv_bipush (v := (10 : Int32)) C.1 C.2.1 dX8_number_88 (by decide) ?_
          refine lv_iload_n C.1 C.2.1 dX8_number_90 rfl (lv_at hl 2 rfl) ?_
          refine lv_imul C.1 C.2.1 dX8_number_91 ?_
          refine lv_aload_n C.1 C.2.1 dX8_number_92 rfl (lv_at hl 0 rfl) ?_
          refine gf_X8_22 C hP dX8_number_93 ?_
          refine lv_aload_n C.1 C.2.1 dX8_number_96 rfl (lv_at hl 0 rfl) ?_
          refine gf_X8_145 C hP dX8_number_97 ?_
          obtain ⟨hg, hf⟩ := g_if hf
          refine al_m5 C hP hg dX8_number_100 ?_
          refine lv_iadd C.1 C.2.1 dX8_number_101 ?_
          refine lv_bipush (v := (48 : Int32)) C.1 C.2.1 dX8_number_102 (by decide) ?_
          refine lv_isub C.1 C.2.1 dX8_number_104 ?_
          refine lv_istore_n (lv' := [(3, .int ((((10 : Int32) * x3) + (q1.2 5 (q1.2 0 11).toNatClampNeg)) - (48 : Int32))), (0, .ref (ad 0)), (2, .int x2)]) C.1 C.2.1 dX8_number_105 rfl hl (by decide) rfl (fun ls hl => ?_)
          refine lv_aload_n C.1 C.2.1 dX8_number_106 rfl (lv_at hl 1 rfl) ?_
          refine lv_dup C.1 C.2.1 dX8_number_107 rfl ?_
          refine gf_X8_145 C hP dX8_number_108 ?_
          refine lv_iconst (v := (1 : Int32)) C.1 C.2.1 dX8_number_111 (by decide) ?_
          refine lv_iadd C.1 C.2.1 dX8_number_112 ?_
          refine pf_X8_145 hA C hP hS dX8_number_113 (fun H locs hP hS => ?_)
          refine lv_goto (tgt := 52) C.1 C.2.1 dX8_number_116 (by decide) ?_
          exact ih _ _ _ _ _ _ hf hP hS (lv_sub hl [1, 2, 0] rfl)
set_option maxRecDepth 100000 in
set_option maxHeartbeats 4000000 in
theorem w_X8_number_20 {p : Program} {l : Launch} {e : Env} {s : State} {m : MethodId} {args : Array Value} {below : List Frame} {meth : Method} {c : Code} {D : va_G} {ids : Nat → ClassId} {ad : Nat → Nat} {rv : Int32 × Hp} (hA : adOk ad 12) (C : CX p s m args meth c cX8_number 4 (some .int) RX8 D ids) (hX : ExM s s.heap) : ∀ (h : Hp) (x2 : Int32) (t1 : Int32) (t2 : Int32) (H : Heap) (locs : List Loc) (ls : Array Slot), f_X8_number_20 h x2 t1 t2 = some rv → wp D (cEM ids ad) ad 12 h H → va_S (inW ad 12) s.heap H locs → lv_has ls 4 [(0, .ref (ad 0)), (2, .int x2)] → W p l e rm_X8_number s m args below meth c H locs 0 0 (MQ below (QW D (cEM ids ad) ad 12 (some (.int rv.1)) rv.2) args s 0 0 (inW ad 12)) (F0 m 20 ls [.int t2, .int t1, .ref (ad 0)]) := by
  intro h x2 t1 t2 H locs ls hf hP hS hl
  unfold f_X8_number_20 at hf
  obtain ⟨q1, eq1, hf⟩ := g_b hf
  refine cv_X8_148 hA C hX hP hS eq1 ⟨Nat.le_of_ble_eq_true rfl, Nat.le_of_ble_eq_true rfl⟩ hl.1 (Nat.le_of_ble_eq_true rfl) dX8_number_20 (fun H locs hP hS => ?_)
  refine lv_if_ne (tgt := 29) C.1 C.2.1 dX8_number_23 (by decide) (fun hc => ?_) (fun hc => ?_)
  · have hf := g_f hc hf
    refine lv_aload_n C.1 C.2.1 dX8_number_29 rfl (lv_at hl 0 rfl) ?_
    refine gf_X8_22 C hP dX8_number_30 ?_
    refine lv_aload_n C.1 C.2.1 dX8_number_33 rfl (lv_at hl 0 rfl) ?_
    refine gf_X8_145 C hP dX8_number_34 ?_
    obtain ⟨hg, hf⟩ := g_if hf
    refine al_m5 C hP hg dX8_number_37 ?_
    refine lv_bipush (v := (48 : Int32)) C.1 C.2.1 dX8_number_38 (by decide) ?_
    refine lv_isub C.1 C.2.1 dX8_number_40 ?_
    refine lv_istore_n (lv' := [(3, .int ((q1.2 5 (q1.2 0 11).toNatClampNeg) - (48 : Int32))), (0, .ref (ad 0)), (2, .int x2)]) C.1 C.2.1 dX8_number_41 rfl hl (by decide) rfl (fun ls hl => ?_)
    refine lv_aload_n C.1 C.2.1 dX8_number_42 rfl (lv_at hl 1 rfl) ?_
    refine lv_dup C.1 C.2.1 dX8_number_43 rfl ?_
    refine gf_X8_145 C hP dX8_number_44 ?_
    refine lv_iconst (v := (1 : Int32)) C.1 C.2.1 dX8_number_47 (by decide) ?_
    refine lv_iadd C.1 C.2.1 dX8_number_48 ?_
    refine pf_X8_145 hA C hP hS dX8_number_49 (fun H locs hP hS => ?_)
    exact w_X8_number_52 hA C hX _ _ _ _ _ _ _ hf hP hS (lv_sub hl [1, 2, 0] rfl)
  · have hf := g_t hc hf
    refine lv_bipush (v := (-5 : Int32)) C.1 C.2.1 dX8_number_26 (by decide) ?_
    obtain rfl := Option.some.inj hf
    exact u_iret C hP hS dX8_number_28
set_option maxRecDepth 100000 in
set_option maxHeartbeats 4000000 in
theorem w_X8_number {p : Program} {l : Launch} {e : Env} {s : State} {m : MethodId} {args : Array Value} {below : List Frame} {meth : Method} {c : Code} {D : va_G} {ids : Nat → ClassId} {ad : Nat → Nat} {rv : Int32 × Hp} (hA : adOk ad 12) (C : CX p s m args meth c cX8_number 4 (some .int) RX8 D ids) (hX : ExM s s.heap) : ∀ (h : Hp) (a1 : Int32) (a2 : Int32) (H : Heap) (locs : List Loc) (ls : Array Slot), f_X8_number h a1 a2 = some rv → wp D (cEM ids ad) ad 12 h H → va_S (inW ad 12) s.heap H locs → lv_has ls 4 [(0, .ref (ad 0)), (1, .int a1), (2, .int a2)] → W p l e rm_X8_number s m args below meth c H locs 0 0 (MQ below (QW D (cEM ids ad) ad 12 (some (.int rv.1)) rv.2) args s 0 0 (inW ad 12)) (F0 m 0 ls []) := by
  intro h a1 a2 H locs ls hf hP hS hl
  unfold f_X8_number at hf
  refine lv_aload_n C.1 C.2.1 dX8_number_0 rfl (lv_at hl 0 rfl) ?_
  refine lv_bipush (v := (48 : Int32)) C.1 C.2.1 dX8_number_1 (by decide) ?_
  refine lv_iload_n C.1 C.2.1 dX8_number_3 rfl (lv_at hl 1 rfl) ?_
  refine lv_iadd C.1 C.2.1 dX8_number_4 ?_
  refine lv_iload_n C.1 C.2.1 dX8_number_5 rfl (lv_at hl 2 rfl) ?_
  refine lv_bipush (v := (9 : Int32)) C.1 C.2.1 dX8_number_6 (by decide) ?_
  refine lv_icmp_ge (tgt := 18) C.1 C.2.1 dX8_number_8 (by decide) (fun hc => ?_) (fun hc => ?_)
  · have hf := g_t hc hf
    refine lv_bipush (v := (57 : Int32)) C.1 C.2.1 dX8_number_18 (by decide) ?_
    exact w_X8_number_20 hA C hX _ _ _ _ _ _ _ hf hP hS (lv_sub hl [0, 2] rfl)
  · have hf := g_f hc hf
    refine lv_bipush (v := (48 : Int32)) C.1 C.2.1 dX8_number_11 (by decide) ?_
    refine lv_iload_n C.1 C.2.1 dX8_number_13 rfl (lv_at hl 2 rfl) ?_
    refine lv_iadd C.1 C.2.1 dX8_number_14 ?_
    refine lv_goto (tgt := 20) C.1 C.2.1 dX8_number_15 (by decide) ?_
    exact w_X8_number_20 hA C hX _ _ _ _ _ _ _ hf hP hS (lv_sub hl [0, 2] rfl)
theorem c_X8_number (l : Launch) (D : va_G) (ids : Nat → ClassId) (ad : Nat → Nat) (hA : adOk ad 12) {a1 : Int32} {a2 : Int32} {h : Hp} {rv : Int32 × Hp} (hf : f_X8_number h a1 a2 = some rv) : Met l yX8_number (ws_ yX8_number cX8_number 4 (some .int)) rm_X8_number (va_Pc [.ref (ad 0), .int a1, .int a2] (WB D ids (cEM ids ad) ad 12 ExM h)) (QW D (cEM ids ad) ad 12 (some (.int rv.1)) rv.2) 0 0 (inW ad 12) :=
  u_met (own := RX8) (by decide) rfl (Nat.le_of_ble_eq_true rfl) rfl (fun p e s m args below meth c H ls C hX hP hS hl => w_X8_number hA C hX _ _ _ _ _ _ hf hP hS hl)
abbrev rm_X8_sign : Room := { frames := 2, cells := 0, slots := 0, locals := 44 }
set_option maxRecDepth 100000 in
set_option maxHeartbeats 4000000 in
theorem w_X8_sign_21 {p : Program} {l : Launch} {e : Env} {s : State} {m : MethodId} {args : Array Value} {below : List Frame} {meth : Method} {c : Code} {D : va_G} {ids : Nat → ClassId} {ad : Nat → Nat} {rv : Int32 × Hp} (hA : adOk ad 12) (C : CX p s m args meth c cX8_sign 3 (some .boolean) RX8 D ids) (hX : ExM s s.heap) : ∀ (h : Hp) (x2 : Int32) (t1 : Int32) (t2 : Int32) (H : Heap) (locs : List Loc) (ls : Array Slot), f_X8_sign_21 h x2 t1 t2 = some rv → wp D (cEM ids ad) ad 12 h H → va_S (inW ad 12) s.heap H locs → lv_has ls 3 [(2, .int x2)] → W p l e rm_X8_sign s m args below meth c H locs 0 0 (MQ below (QW D (cEM ids ad) ad 12 (some (.int rv.1)) rv.2) args s 0 0 (inW ad 12)) (F0 m 21 ls [.int t2, .int t1, .ref (ad 0)]) := by
  intro h x2 t1 t2 H locs ls hf hP hS hl
  unfold f_X8_sign_21 at hf
  refine lv_iadd C.1 C.2.1 dX8_sign_21 ?_
  refine pf_X8_145 hA C hP hS dX8_sign_22 (fun H locs hP hS => ?_)
  refine lv_iload_n C.1 C.2.1 dX8_sign_25 rfl (lv_at hl 0 rfl) ?_
  obtain ⟨hg, hf⟩ := g_if hf
  obtain rfl := Option.some.inj hf
  exact u_zret C hP hS hg dX8_sign_26
set_option maxRecDepth 100000 in
set_option maxHeartbeats 4000000 in
theorem w_X8_sign {p : Program} {l : Launch} {e : Env} {s : State} {m : MethodId} {args : Array Value} {below : List Frame} {meth : Method} {c : Code} {D : va_G} {ids : Nat → ClassId} {ad : Nat → Nat} {rv : Int32 × Hp} (hA : adOk ad 12) (C : CX p s m args meth c cX8_sign 3 (some .boolean) RX8 D ids) (hX : ExM s s.heap) : ∀ (h : Hp) (a1 : Int32) (H : Heap) (locs : List Loc) (ls : Array Slot), f_X8_sign h a1 = some rv → wp D (cEM ids ad) ad 12 h H → va_S (inW ad 12) s.heap H locs → lv_has ls 3 [(0, .ref (ad 0)), (1, .int a1)] → W p l e rm_X8_sign s m args below meth c H locs 0 0 (MQ below (QW D (cEM ids ad) ad 12 (some (.int rv.1)) rv.2) args s 0 0 (inW ad 12)) (F0 m 0 ls []) := by
  intro h a1 H locs ls hf hP hS hl
  unfold f_X8_sign at hf
  refine lv_aload_n C.1 C.2.1 dX8_sign_0 rfl (lv_at hl 0 rfl) ?_
  refine lv_iload_n C.1 C.2.1 dX8_sign_1 rfl (lv_at hl 1 rfl) ?_
  refine lv_iload_n C.1 C.2.1 dX8_sign_2 rfl (lv_at hl 1 rfl) ?_
  obtain ⟨q1, eq1, hf⟩ := g_b hf
  refine cv_X8_148 hA C hX hP hS eq1 ⟨Nat.le_of_ble_eq_true rfl, Nat.le_of_ble_eq_true rfl⟩ hl.1 (Nat.le_of_ble_eq_true rfl) dX8_sign_3 (fun H locs hP hS => ?_)
  refine lv_istore_n (lv' := [(2, .int q1.1), (0, .ref (ad 0)), (1, .int a1)]) C.1 C.2.1 dX8_sign_6 rfl hl (by decide) rfl (fun ls hl => ?_)
  refine lv_aload_n C.1 C.2.1 dX8_sign_7 rfl (lv_at hl 1 rfl) ?_
  refine lv_dup C.1 C.2.1 dX8_sign_8 rfl ?_
  refine gf_X8_145 C hP dX8_sign_9 ?_
  refine lv_iload_n C.1 C.2.1 dX8_sign_12 rfl (lv_at hl 0 rfl) ?_
  refine lv_if_eq (tgt := 20) C.1 C.2.1 dX8_sign_13 (by decide) (fun hc => ?_) (fun hc => ?_)
  · have hf := g_t hc hf
    refine lv_iconst (v := (0 : Int32)) C.1 C.2.1 dX8_sign_20 (by decide) ?_
    exact w_X8_sign_21 hA C hX _ _ _ _ _ _ _ hf hP hS (lv_sub hl [0] rfl)
  · have hf := g_f hc hf
    refine lv_iconst (v := (1 : Int32)) C.1 C.2.1 dX8_sign_16 (by decide) ?_
    refine lv_goto (tgt := 21) C.1 C.2.1 dX8_sign_17 (by decide) ?_
    exact w_X8_sign_21 hA C hX _ _ _ _ _ _ _ hf hP hS (lv_sub hl [0] rfl)
theorem c_X8_sign (l : Launch) (D : va_G) (ids : Nat → ClassId) (ad : Nat → Nat) (hA : adOk ad 12) {a1 : Int32} {h : Hp} {rv : Int32 × Hp} (hf : f_X8_sign h a1 = some rv) : Met l yX8_sign (ws_ yX8_sign cX8_sign 3 (some .boolean)) rm_X8_sign (va_Pc [.ref (ad 0), .int a1] (WB D ids (cEM ids ad) ad 12 ExM h)) (QW D (cEM ids ad) ad 12 (some (.int rv.1)) rv.2) 0 0 (inW ad 12) :=
  u_met (own := RX8) (by decide) rfl (Nat.le_of_ble_eq_true rfl) rfl (fun p e s m args below meth c H ls C hX hP hS hl => w_X8_sign hA C hX _ _ _ _ _ hf hP hS hl)
theorem cv_X8_151 {p : Program} {l : Launch} {e : Env} {R : Room} {s : State} {m : MethodId} {args : Array Value} {below : List Frame} {meth : Method} {c : Code} {H : Heap} {locs : List Loc} {Q : State → Prop} {cc : ByteArray} {nL : Nat} {ret : Option FieldType} {pc : Nat} {ls : Array Slot} {rest : List Value} {D : va_G} {ids : Nat → ClassId} {ad : Nat → Nat} {h : Hp} (hA : adOk ad 12) (C : CX p s m args meth c cc nL ret RX8 D ids) (hX : ExM s s.heap) (hP : wp D (cEM ids ad) ad 12 h H) (hS : va_S (inW ad 12) s.heap H locs) {a1 : Int32} {rv : Int32 × Hp} (hf : f_X8_sign h a1 = some rv) (hR : 2 + 1 ≤ R.frames ∧ 8 + (3 + 11) + 44 ≤ R.locals) (hsz : ls.size = nL) (hcat : (rest.map fun v => v.category).sum ≤ 8) (hdg : decode cc pc = .ok (.invokevirtual 151, 3)) (kk : ∀ (H1 : Heap) (locs1 : List Loc), wp D (cEM ids ad) ad 12 rv.2 H1 → va_S (inW ad 12) s.heap H1 locs1 → W p l e R s m args below meth c H1 locs1 0 0 Q (F0 m (pc + 3) ls (.int rv.1 :: rest))) : W p l e R s m args below meth c H locs 0 0 Q (F0 m pc ls (.int a1 :: .ref (ad 0) :: rest)) :=
  u_callV (As := [.int a1]) (rv := (some (.int rv.1))) C exM_ok hX (c_X8_sign l D ids ad hA hf) q_253 q_254 q_255 q_5 q_256 ⟨rfl, rfl⟩ (by refine ⟨by decide +kernel, by decide +kernel, ?_⟩; show _ = some 1; decide +kernel) hR (by decide) (cE_X8 _) rfl hP hS hsz hcat rfl hdg kk
abbrev rm_X8_aboutOf : Room := { frames := 3, cells := 0, slots := 0, locals := 66 }
set_option maxRecDepth 100000 in
set_option maxHeartbeats 4000000 in
theorem w_X8_aboutOf {p : Program} {l : Launch} {e : Env} {s : State} {m : MethodId} {args : Array Value} {below : List Frame} {meth : Method} {c : Code} {D : va_G} {ids : Nat → ClassId} {ad : Nat → Nat} {rv : Int32 × Hp} (hA : adOk ad 12) (C : CX p s m args meth c cX8_aboutOf 1 (some .int) RX8 D ids) (hX : ExM s s.heap) : ∀ (h : Hp) (H : Heap) (locs : List Loc) (ls : Array Slot), f_X8_aboutOf h = some rv → wp D (cEM ids ad) ad 12 h H → va_S (inW ad 12) s.heap H locs → lv_has ls 1 [(0, .ref (ad 0))] → W p l e rm_X8_aboutOf s m args below meth c H locs 0 0 (MQ below (QW D (cEM ids ad) ad 12 (some (.int rv.1)) rv.2) args s 0 0 (inW ad 12)) (F0 m 0 ls []) := by
  intro h H locs ls hf hP hS hl
  unfold f_X8_aboutOf at hf
  refine lv_aload_n C.1 C.2.1 dX8_aboutOf_0 rfl (lv_at hl 0 rfl) ?_
  refine lv_bipush (v := (112 : Int32)) C.1 C.2.1 dX8_aboutOf_1 (by decide) ?_
  obtain ⟨q1, eq1, hf⟩ := g_b hf
  refine cv_X8_151 hA C hX hP hS eq1 ⟨Nat.le_of_ble_eq_true rfl, Nat.le_of_ble_eq_true rfl⟩ hl.1 (Nat.le_of_ble_eq_true rfl) dX8_aboutOf_3 (fun H locs hP hS => ?_)
  refine lv_if_eq (tgt := 13) C.1 C.2.1 dX8_aboutOf_6 (by decide) (fun hc => ?_) (fun hc => ?_)
  · have hf := g_t hc hf
    refine lv_aload_n C.1 C.2.1 dX8_aboutOf_13 rfl (lv_at hl 0 rfl) ?_
    refine lv_bipush (v := (100 : Int32)) C.1 C.2.1 dX8_aboutOf_14 (by decide) ?_
    obtain ⟨q2, eq2, hf⟩ := g_b hf
    refine cv_X8_151 hA C hX hP hS eq2 ⟨Nat.le_of_ble_eq_true rfl, Nat.le_of_ble_eq_true rfl⟩ hl.1 (Nat.le_of_ble_eq_true rfl) dX8_aboutOf_16 (fun H locs hP hS => ?_)
    refine lv_if_eq (tgt := 26) C.1 C.2.1 dX8_aboutOf_19 (by decide) (fun hc => ?_) (fun hc => ?_)
    · have hf := g_t hc hf
      refine lv_aload_n C.1 C.2.1 dX8_aboutOf_26 rfl (lv_at hl 0 rfl) ?_
      refine lv_bipush (v := (102 : Int32)) C.1 C.2.1 dX8_aboutOf_27 (by decide) ?_
      obtain ⟨q3, eq3, hf⟩ := g_b hf
      refine cv_X8_151 hA C hX hP hS eq3 ⟨Nat.le_of_ble_eq_true rfl, Nat.le_of_ble_eq_true rfl⟩ hl.1 (Nat.le_of_ble_eq_true rfl) dX8_aboutOf_29 (fun H locs hP hS => ?_)
      refine lv_if_eq (tgt := 39) C.1 C.2.1 dX8_aboutOf_32 (by decide) (fun hc => ?_) (fun hc => ?_)
      · have hf := g_t hc hf
        refine lv_aload_n C.1 C.2.1 dX8_aboutOf_39 rfl (lv_at hl 0 rfl) ?_
        refine lv_bipush (v := (104 : Int32)) C.1 C.2.1 dX8_aboutOf_40 (by decide) ?_
        obtain ⟨q4, eq4, hf⟩ := g_b hf
        refine cv_X8_151 hA C hX hP hS eq4 ⟨Nat.le_of_ble_eq_true rfl, Nat.le_of_ble_eq_true rfl⟩ hl.1 (Nat.le_of_ble_eq_true rfl) dX8_aboutOf_42 (fun H locs hP hS => ?_)
        refine lv_if_eq (tgt := 52) C.1 C.2.1 dX8_aboutOf_45 (by decide) (fun hc => ?_) (fun hc => ?_)
        · have hf := g_t hc hf
          refine lv_bipush (v := (-5 : Int32)) C.1 C.2.1 dX8_aboutOf_52 (by decide) ?_
          obtain rfl := Option.some.inj hf
          exact u_iret C hP hS dX8_aboutOf_54
        · have hf := g_f hc hf
          refine lv_iconst (v := (3 : Int32)) C.1 C.2.1 dX8_aboutOf_48 (by decide) ?_
          refine lv_goto (tgt := 54) C.1 C.2.1 dX8_aboutOf_49 (by decide) ?_
          obtain rfl := Option.some.inj hf
          exact u_iret C hP hS dX8_aboutOf_54
      · have hf := g_f hc hf
        refine lv_iconst (v := (2 : Int32)) C.1 C.2.1 dX8_aboutOf_35 (by decide) ?_
        refine lv_goto (tgt := 54) C.1 C.2.1 dX8_aboutOf_36 (by decide) ?_
        obtain rfl := Option.some.inj hf
        exact u_iret C hP hS dX8_aboutOf_54
    · have hf := g_f hc hf
      refine lv_iconst (v := (1 : Int32)) C.1 C.2.1 dX8_aboutOf_22 (by decide) ?_
      refine lv_goto (tgt := 54) C.1 C.2.1 dX8_aboutOf_23 (by decide) ?_
      obtain rfl := Option.some.inj hf
      exact u_iret C hP hS dX8_aboutOf_54
  · have hf := g_f hc hf
    refine lv_iconst (v := (0 : Int32)) C.1 C.2.1 dX8_aboutOf_9 (by decide) ?_
    refine lv_goto (tgt := 54) C.1 C.2.1 dX8_aboutOf_10 (by decide) ?_
    obtain rfl := Option.some.inj hf
    exact u_iret C hP hS dX8_aboutOf_54
theorem c_X8_aboutOf (l : Launch) (D : va_G) (ids : Nat → ClassId) (ad : Nat → Nat) (hA : adOk ad 12) {h : Hp} {rv : Int32 × Hp} (hf : f_X8_aboutOf h = some rv) : Met l yX8_aboutOf (ws_ yX8_aboutOf cX8_aboutOf 1 (some .int)) rm_X8_aboutOf (va_Pc [.ref (ad 0)] (WB D ids (cEM ids ad) ad 12 ExM h)) (QW D (cEM ids ad) ad 12 (some (.int rv.1)) rv.2) 0 0 (inW ad 12) :=
  u_met (own := RX8) (by decide) rfl (Nat.le_of_ble_eq_true rfl) rfl (fun p e s m args below meth c H ls C hX hP hS hl => w_X8_aboutOf hA C hX _ _ _ _ hf hP hS hl)
theorem cv_X8_154 {p : Program} {l : Launch} {e : Env} {R : Room} {s : State} {m : MethodId} {args : Array Value} {below : List Frame} {meth : Method} {c : Code} {H : Heap} {locs : List Loc} {Q : State → Prop} {cc : ByteArray} {nL : Nat} {ret : Option FieldType} {pc : Nat} {ls : Array Slot} {rest : List Value} {D : va_G} {ids : Nat → ClassId} {ad : Nat → Nat} {h : Hp} (hA : adOk ad 12) (C : CX p s m args meth c cc nL ret RX8 D ids) (hX : ExM s s.heap) (hP : wp D (cEM ids ad) ad 12 h H) (hS : va_S (inW ad 12) s.heap H locs) {a1 : Int32} {a2 : Int32} {rv : Int32 × Hp} (hf : f_X8_number h a1 a2 = some rv) (hR : 2 + 1 ≤ R.frames ∧ 8 + (4 + 11) + 44 ≤ R.locals) (hsz : ls.size = nL) (hcat : (rest.map fun v => v.category).sum ≤ 8) (hdg : decode cc pc = .ok (.invokevirtual 154, 3)) (kk : ∀ (H1 : Heap) (locs1 : List Loc), wp D (cEM ids ad) ad 12 rv.2 H1 → va_S (inW ad 12) s.heap H1 locs1 → W p l e R s m args below meth c H1 locs1 0 0 Q (F0 m (pc + 3) ls (.int rv.1 :: rest))) : W p l e R s m args below meth c H locs 0 0 Q (F0 m pc ls (.int a2 :: .int a1 :: .ref (ad 0) :: rest)) :=
  u_callV (As := [.int a1, .int a2]) (rv := (some (.int rv.1))) C exM_ok hX (c_X8_number l D ids ad hA hf) q_245 q_246 q_247 q_5 q_248 ⟨rfl, rfl⟩ (by refine ⟨by decide +kernel, by decide +kernel, ?_⟩; show _ = some 2; decide +kernel) hR (by decide) (cE_X8 _) rfl hP hS hsz hcat rfl hdg kk
theorem cv_X8_157 {p : Program} {l : Launch} {e : Env} {R : Room} {s : State} {m : MethodId} {args : Array Value} {below : List Frame} {meth : Method} {c : Code} {H : Heap} {locs : List Loc} {Q : State → Prop} {cc : ByteArray} {nL : Nat} {ret : Option FieldType} {pc : Nat} {ls : Array Slot} {rest : List Value} {D : va_G} {ids : Nat → ClassId} {ad : Nat → Nat} {h : Hp} (hA : adOk ad 12) (C : CX p s m args meth c cc nL ret RX8 D ids) (hX : ExM s s.heap) (hP : wp D (cEM ids ad) ad 12 h H) (hS : va_S (inW ad 12) s.heap H locs) {rv : Int32 × Hp} (hf : f_X8_aboutOf h = some rv) (hR : 3 + 1 ≤ R.frames ∧ 8 + (1 + 11) + 66 ≤ R.locals) (hsz : ls.size = nL) (hcat : (rest.map fun v => v.category).sum ≤ 8) (hdg : decode cc pc = .ok (.invokevirtual 157, 3)) (kk : ∀ (H1 : Heap) (locs1 : List Loc), wp D (cEM ids ad) ad 12 rv.2 H1 → va_S (inW ad 12) s.heap H1 locs1 → W p l e R s m args below meth c H1 locs1 0 0 Q (F0 m (pc + 3) ls (.int rv.1 :: rest))) : W p l e R s m args below meth c H locs 0 0 Q (F0 m pc ls (.ref (ad 0) :: rest)) :=
  u_callV (As := []) (rv := (some (.int rv.1))) C exM_ok hX (c_X8_aboutOf l D ids ad hA hf) q_257 q_258 q_259 q_5 q_260 ⟨rfl, rfl⟩ (by refine ⟨by decide +kernel, by decide +kernel, ?_⟩; show _ = some 0; decide +kernel) hR (by decide) (cE_X8 _) rfl hP hS hsz hcat rfl hdg kk
abbrev rm_X8_readPart : Room := { frames := 4, cells := 0, slots := 0, locals := 86 }
set_option maxRecDepth 100000 in
set_option maxHeartbeats 4000000 in
theorem w_X8_readPart_78 {p : Program} {l : Launch} {e : Env} {s : State} {m : MethodId} {args : Array Value} {below : List Frame} {meth : Method} {c : Code} {D : va_G} {ids : Nat → ClassId} {ad : Nat → Nat} {rv : Int32 × Hp} (hA : adOk ad 12) (C : CX p s m args meth c cX8_readPart 5 (some .boolean) RX8 D ids) (hX : ExM s s.heap) {K37 : Hp → Int32 → Int32 → Int32 → Option (Int32 × Hp)} (hK37 : ∀ (h : Hp) (x1 : Int32) (x2 : Int32) (x3 : Int32) (H : Heap) (locs : List Loc) (ls : Array Slot), K37 h x1 x2 x3 = some rv → wp D (cEM ids ad) ad 12 h H → va_S (inW ad 12) s.heap H locs → lv_has ls 5 [(0, .ref (ad 0)), (1, .int x1), (2, .int x2), (3, .int x3)] → W p l e rm_X8_readPart s m args below meth c H locs 0 0 (MQ below (QW D (cEM ids ad) ad 12 (some (.int rv.1)) rv.2) args s 0 0 (inW ad 12)) (F0 m 37 ls [])) : ∀ (h : Hp) (x1 : Int32) (x2 : Int32) (H : Heap) (locs : List Loc) (ls : Array Slot), f_X8_readPart_78 K37 h x1 x2 = some rv → wp D (cEM ids ad) ad 12 h H → va_S (inW ad 12) s.heap H locs → lv_has ls 5 [(0, .ref (ad 0)), (1, .int x1), (2, .int x2)] → W p l e rm_X8_readPart s m args below meth c H locs 0 0 (MQ below (QW D (cEM ids ad) ad 12 (some (.int rv.1)) rv.2) args s 0 0 (inW ad 12)) (F0 m 78 ls []) := by
  intro h x1 x2 H locs ls hf hP hS hl
  unfold f_X8_readPart_78 at hf
  refine lv_aload_n C.1 C.2.1 dX8_readPart_78 rfl (lv_at hl 0 rfl) ?_
  obtain ⟨q1, eq1, hf⟩ := g_b hf
  refine cv_X8_157 hA C hX hP hS eq1 ⟨Nat.le_of_ble_eq_true rfl, Nat.le_of_ble_eq_true rfl⟩ hl.1 (Nat.le_of_ble_eq_true rfl) dX8_readPart_79 (fun H locs hP hS => ?_)
  refine lv_istore_n (lv' := [(3, .int q1.1), (0, .ref (ad 0)), (1, .int x1), (2, .int x2)]) C.1 C.2.1 dX8_readPart_82 rfl hl (by decide) rfl (fun ls hl => ?_)
  refine lv_goto (tgt := 37) C.1 C.2.1 dX8_readPart_83 (by decide) ?_
  exact hK37 _ _ _ _ _ _ _ hf hP hS (lv_sub hl [1, 2, 3, 0] rfl)
set_option maxRecDepth 100000 in
set_option maxHeartbeats 4000000 in
theorem w_X8_readPart_37 {p : Program} {l : Launch} {e : Env} {s : State} {m : MethodId} {args : Array Value} {below : List Frame} {meth : Method} {c : Code} {D : va_G} {ids : Nat → ClassId} {ad : Nat → Nat} {rv : Int32 × Hp} (hA : adOk ad 12) (C : CX p s m args meth c cX8_readPart 5 (some .boolean) RX8 D ids) (hX : ExM s s.heap) : ∀ (fu : Nat), ∀ (h : Hp) (x1 : Int32) (x2 : Int32) (x3 : Int32) (H : Heap) (locs : List Loc) (ls : Array Slot), f_X8_readPart_37 fu h x1 x2 x3 = some rv → wp D (cEM ids ad) ad 12 h H → va_S (inW ad 12) s.heap H locs → lv_has ls 5 [(0, .ref (ad 0)), (1, .int x1), (2, .int x2), (3, .int x3)] → W p l e rm_X8_readPart s m args below meth c H locs 0 0 (MQ below (QW D (cEM ids ad) ad 12 (some (.int rv.1)) rv.2) args s 0 0 (inW ad 12)) (F0 m 37 ls []) := by
  intro fu
  induction fu with
  | zero =>
    intro h x1 x2 x3 H locs ls hf hP hS hl
    cases hf
  | succ fu ih =>
    intro h x1 x2 x3 H locs ls hf hP hS hl
    rw [f_X8_readPart_37_s] at hf
    refine lv_iload_n C.1 C.2.1 dX8_readPart_37 rfl (lv_at hl 3 rfl) ?_
    refine lv_bipush (v := (-5 : Int32)) C.1 C.2.1 dX8_readPart_38 (by decide) ?_
    refine lv_icmp_eq (tgt := 86) C.1 C.2.1 dX8_readPart_40 (by decide) (fun hc => ?_) (fun hc => ?_)
    · have hf := g_t hc hf
      refine lv_iconst (v := (1 : Int32)) C.1 C.2.1 dX8_readPart_86 (by decide) ?_
      obtain rfl := Option.some.inj hf
      exact u_zret C hP hS isb_1 dX8_readPart_87
    · have hf := g_f hc hf
      refine lv_aload_n C.1 C.2.1 dX8_readPart_43 rfl (lv_at hl 0 rfl) ?_
      refine lv_iload_n C.1 C.2.1 dX8_readPart_44 rfl (lv_at hl 3 rfl) ?_
      obtain ⟨q1, eq1, hf⟩ := g_b hf
      refine cv_X8_123 hA C hX hP hS eq1 ⟨Nat.le_of_ble_eq_true rfl, Nat.le_of_ble_eq_true rfl⟩ hl.1 (Nat.le_of_ble_eq_true rfl) dX8_readPart_45 (fun H locs hP hS => ?_)
      refine lv_iload_n C.1 C.2.1 dX8_readPart_48 rfl (lv_at hl 3 rfl) ?_
      obtain ⟨q2, eq2, hf⟩ := g_b hf
      refine cv_X8_126 hA C hX hP hS eq2 ⟨Nat.le_of_ble_eq_true rfl, Nat.le_of_ble_eq_true rfl⟩ hl.1 (Nat.le_of_ble_eq_true rfl) dX8_readPart_49 (fun H locs hP hS => ?_)
      obtain ⟨q3, eq3, hf⟩ := g_b hf
      refine cv_X8_154 hA C hX hP hS eq3 ⟨Nat.le_of_ble_eq_true rfl, Nat.le_of_ble_eq_true rfl⟩ hl.1 (Nat.le_of_ble_eq_true rfl) dX8_readPart_52 (fun H locs hP hS => ?_)
      refine lv_istore (lv' := [(4, .int q3.1), (0, .ref (ad 0)), (1, .int x1), (2, .int x2), (3, .int x3)]) C.1 C.2.1 dX8_readPart_55 hl (by decide) rfl (fun ls hl => ?_)
      refine lv_iload C.1 C.2.1 dX8_readPart_57 (lv_at hl 0 rfl) ?_
      refine lv_bipush (v := (-5 : Int32)) C.1 C.2.1 dX8_readPart_59 (by decide) ?_
      refine lv_icmp_ne (tgt := 66) C.1 C.2.1 dX8_readPart_61 (by decide) (fun hc => ?_) (fun hc => ?_)
      · have hf := g_f hc hf
        refine lv_iload_n C.1 C.2.1 dX8_readPart_66 rfl (lv_at hl 2 rfl) ?_
        refine lv_if_eq (tgt := 78) C.1 C.2.1 dX8_readPart_67 (by decide) (fun hc => ?_) (fun hc => ?_)
        · have hf := g_t hc hf
          exact w_X8_readPart_78 hA C hX ih _ _ _ _ _ _ hf hP hS (lv_sub hl [1, 2, 3] rfl)
        · have hf := g_f hc hf
          refine lv_aload_n C.1 C.2.1 dX8_readPart_70 rfl (lv_at hl 1 rfl) ?_
          refine lv_iload_n C.1 C.2.1 dX8_readPart_71 rfl (lv_at hl 3 rfl) ?_
          refine lv_iload_n C.1 C.2.1 dX8_readPart_72 rfl (lv_at hl 4 rfl) ?_
          refine lv_iload C.1 C.2.1 dX8_readPart_73 (lv_at hl 0 rfl) ?_
          obtain ⟨q4, eq4, hf⟩ := g_b hf
          refine cv_X8_43 hA C hX hP hS eq4 ⟨Nat.le_of_ble_eq_true rfl, Nat.le_of_ble_eq_true rfl⟩ hl.1 (Nat.le_of_ble_eq_true rfl) dX8_readPart_75 (fun H locs hP hS => ?_)
          exact w_X8_readPart_78 hA C hX ih _ _ _ _ _ _ hf hP hS (lv_sub hl [1, 2, 3] rfl)
      · have hf := g_t hc hf
        refine lv_iconst (v := (0 : Int32)) C.1 C.2.1 dX8_readPart_64 (by decide) ?_
        obtain rfl := Option.some.inj hf
        exact u_zret C hP hS isb_0 dX8_readPart_65
set_option maxRecDepth 100000 in
set_option maxHeartbeats 4000000 in
theorem w_X8_readPart {p : Program} {l : Launch} {e : Env} {s : State} {m : MethodId} {args : Array Value} {below : List Frame} {meth : Method} {c : Code} {D : va_G} {ids : Nat → ClassId} {ad : Nat → Nat} {rv : Int32 × Hp} (hA : adOk ad 12) (C : CX p s m args meth c cX8_readPart 5 (some .boolean) RX8 D ids) (hX : ExM s s.heap) : ∀ (h : Hp) (a1 : Int32) (H : Heap) (locs : List Loc) (ls : Array Slot), f_X8_readPart h a1 = some rv → wp D (cEM ids ad) ad 12 h H → va_S (inW ad 12) s.heap H locs → lv_has ls 5 [(0, .ref (ad 0)), (1, .int a1)] → W p l e rm_X8_readPart s m args below meth c H locs 0 0 (MQ below (QW D (cEM ids ad) ad 12 (some (.int rv.1)) rv.2) args s 0 0 (inW ad 12)) (F0 m 0 ls []) := by
  intro h a1 H locs ls hf hP hS hl
  unfold f_X8_readPart at hf
  refine lv_aload_n C.1 C.2.1 dX8_readPart_0 rfl (lv_at hl 0 rfl) ?_
  refine lv_iconst (v := (0 : Int32)) C.1 C.2.1 dX8_readPart_1 (by decide) ?_
  refine lv_iconst (v := (2 : Int32)) C.1 C.2.1 dX8_readPart_2 (by decide) ?_
  obtain ⟨q1, eq1, hf⟩ := g_b hf
  refine cv_X8_154 hA C hX hP hS eq1 ⟨Nat.le_of_ble_eq_true rfl, Nat.le_of_ble_eq_true rfl⟩ hl.1 (Nat.le_of_ble_eq_true rfl) dX8_readPart_3 (fun H locs hP hS => ?_)
  refine lv_istore_n (lv' := [(2, .int q1.1), (0, .ref (ad 0)), (1, .int a1)]) C.1 C.2.1 dX8_readPart_6 rfl hl (by decide) rfl (fun ls hl => ?_)
  refine lv_iload_n C.1 C.2.1 dX8_readPart_7 rfl (lv_at hl 0 rfl) ?_
  refine lv_bipush (v := (-5 : Int32)) C.1 C.2.1 dX8_readPart_8 (by decide) ?_
  refine lv_icmp_eq (tgt := 22) C.1 C.2.1 dX8_readPart_10 (by decide) (fun hc => ?_) (fun hc => ?_)
  · have hf := g_t hc hf
    refine lv_iconst (v := (0 : Int32)) C.1 C.2.1 dX8_readPart_22 (by decide) ?_
    obtain rfl := Option.some.inj hf
    exact u_zret C hP hS isb_0 dX8_readPart_23
  · have hf := g_f hc hf
    refine lv_aload_n C.1 C.2.1 dX8_readPart_13 rfl (lv_at hl 1 rfl) ?_
    refine lv_bipush (v := (58 : Int32)) C.1 C.2.1 dX8_readPart_14 (by decide) ?_
    obtain ⟨q2, eq2, hf⟩ := g_b hf
    refine cv_X8_151 hA C hX hP hS eq2 ⟨Nat.le_of_ble_eq_true rfl, Nat.le_of_ble_eq_true rfl⟩ hl.1 (Nat.le_of_ble_eq_true rfl) dX8_readPart_16 (fun H locs hP hS => ?_)
    refine lv_if_ne (tgt := 24) C.1 C.2.1 dX8_readPart_19 (by decide) (fun hc => ?_) (fun hc => ?_)
    · have hf := g_f hc hf
      refine lv_aload_n C.1 C.2.1 dX8_readPart_24 rfl (lv_at hl 1 rfl) ?_
      obtain ⟨q3, eq3, hf⟩ := g_b hf
      refine cv_X8_157 hA C hX hP hS eq3 ⟨Nat.le_of_ble_eq_true rfl, Nat.le_of_ble_eq_true rfl⟩ hl.1 (Nat.le_of_ble_eq_true rfl) dX8_readPart_25 (fun H locs hP hS => ?_)
      refine lv_istore_n (lv' := [(3, .int q3.1), (2, .int q1.1), (0, .ref (ad 0)), (1, .int a1)]) C.1 C.2.1 dX8_readPart_28 rfl hl (by decide) rfl (fun ls hl => ?_)
      refine lv_iload_n C.1 C.2.1 dX8_readPart_29 rfl (lv_at hl 0 rfl) ?_
      refine lv_bipush (v := (-5 : Int32)) C.1 C.2.1 dX8_readPart_30 (by decide) ?_
      refine lv_icmp_ne (tgt := 37) C.1 C.2.1 dX8_readPart_32 (by decide) (fun hc => ?_) (fun hc => ?_)
      · have hf := g_f hc hf
        exact w_X8_readPart_37 hA C hX _ _ _ _ _ _ _ _ hf hP hS (lv_sub hl [2, 3, 1, 0] rfl)
      · have hf := g_t hc hf
        refine lv_iconst (v := (0 : Int32)) C.1 C.2.1 dX8_readPart_35 (by decide) ?_
        obtain rfl := Option.some.inj hf
        exact u_zret C hP hS isb_0 dX8_readPart_36
    · have hf := g_t hc hf
      refine lv_iconst (v := (0 : Int32)) C.1 C.2.1 dX8_readPart_22 (by decide) ?_
      obtain rfl := Option.some.inj hf
      exact u_zret C hP hS isb_0 dX8_readPart_23
theorem c_X8_readPart (l : Launch) (D : va_G) (ids : Nat → ClassId) (ad : Nat → Nat) (hA : adOk ad 12) {a1 : Int32} {h : Hp} {rv : Int32 × Hp} (hf : f_X8_readPart h a1 = some rv) : Met l yX8_readPart (ws_ yX8_readPart cX8_readPart 5 (some .boolean)) rm_X8_readPart (va_Pc [.ref (ad 0), .int a1] (WB D ids (cEM ids ad) ad 12 ExM h)) (QW D (cEM ids ad) ad 12 (some (.int rv.1)) rv.2) 0 0 (inW ad 12) :=
  u_met (own := RX8) (by decide) rfl (Nat.le_of_ble_eq_true rfl) rfl (fun p e s m args below meth c H ls C hX hP hS hl => w_X8_readPart hA C hX _ _ _ _ _ hf hP hS hl)
theorem cv_X8_161 {p : Program} {l : Launch} {e : Env} {R : Room} {s : State} {m : MethodId} {args : Array Value} {below : List Frame} {meth : Method} {c : Code} {H : Heap} {locs : List Loc} {Q : State → Prop} {cc : ByteArray} {nL : Nat} {ret : Option FieldType} {pc : Nat} {ls : Array Slot} {rest : List Value} {D : va_G} {ids : Nat → ClassId} {ad : Nat → Nat} {h : Hp} (hA : adOk ad 12) (C : CX p s m args meth c cc nL ret RX8 D ids) (hX : ExM s s.heap) (hP : wp D (cEM ids ad) ad 12 h H) (hS : va_S (inW ad 12) s.heap H locs) {a1 : Int32} {rv : Int32 × Hp} (hf : f_X8_readPart h a1 = some rv) (hR : 4 + 1 ≤ R.frames ∧ 8 + (5 + 11) + 86 ≤ R.locals) (hsz : ls.size = nL) (hcat : (rest.map fun v => v.category).sum ≤ 8) (hdg : decode cc pc = .ok (.invokevirtual 161, 3)) (kk : ∀ (H1 : Heap) (locs1 : List Loc), wp D (cEM ids ad) ad 12 rv.2 H1 → va_S (inW ad 12) s.heap H1 locs1 → W p l e R s m args below meth c H1 locs1 0 0 Q (F0 m (pc + 3) ls (.int rv.1 :: rest))) : W p l e R s m args below meth c H locs 0 0 Q (F0 m pc ls (.int a1 :: .ref (ad 0) :: rest)) :=
  u_callV (As := [.int a1]) (rv := (some (.int rv.1))) C exM_ok hX (c_X8_readPart l D ids ad hA hf) q_241 q_242 q_243 q_5 q_244 ⟨rfl, rfl⟩ (by refine ⟨by decide +kernel, by decide +kernel, ?_⟩; show _ = some 1; decide +kernel) hR (by decide) (cE_X8 _) rfl hP hS hsz hcat rfl hdg kk
abbrev rm_X8_readAll : Room := { frames := 5, cells := 0, slots := 0, locals := 110 }
set_option maxRecDepth 100000 in
set_option maxHeartbeats 4000000 in
theorem w_X8_readAll_9 {p : Program} {l : Launch} {e : Env} {s : State} {m : MethodId} {args : Array Value} {below : List Frame} {meth : Method} {c : Code} {D : va_G} {ids : Nat → ClassId} {ad : Nat → Nat} {rv : Int32 × Hp} (hA : adOk ad 12) (C : CX p s m args meth c cX8_readAll 3 (some .int) RX8 D ids) (hX : ExM s s.heap) : ∀ (fu : Nat), ∀ (h : Hp) (x1 : Int32) (x2 : Int32) (H : Heap) (locs : List Loc) (ls : Array Slot), f_X8_readAll_9 fu h x1 x2 = some rv → wp D (cEM ids ad) ad 12 h H → va_S (inW ad 12) s.heap H locs → lv_has ls 3 [(0, .ref (ad 0)), (1, .int x1), (2, .int x2)] → W p l e rm_X8_readAll s m args below meth c H locs 0 0 (MQ below (QW D (cEM ids ad) ad 12 (some (.int rv.1)) rv.2) args s 0 0 (inW ad 12)) (F0 m 9 ls []) := by
  intro fu
  induction fu with
  | zero =>
    intro h x1 x2 H locs ls hf hP hS hl
    cases hf
  | succ fu ih =>
    intro h x1 x2 H locs ls hf hP hS hl
    rw [f_X8_readAll_9_s] at hf
    refine lv_iload_n C.1 C.2.1 dX8_readAll_9 rfl (lv_at hl 2 rfl) ?_
    refine lv_if_eq (tgt := 42) C.1 C.2.1 dX8_readAll_10 (by decide) (fun hc => ?_) (fun hc => ?_)
    · have hf := g_t hc hf
      refine lv_aload_n C.1 C.2.1 dX8_readAll_42 rfl (lv_at hl 0 rfl) ?_
      refine gf_X8_145 C hP dX8_readAll_43 ?_
      refine lv_aload_n C.1 C.2.1 dX8_readAll_46 rfl (lv_at hl 0 rfl) ?_
      refine gf_X8_142 C hP dX8_readAll_47 ?_
      refine lv_icmp_ge (tgt := 63) C.1 C.2.1 dX8_readAll_50 (by decide) (fun hc => ?_) (fun hc => ?_)
      · have hf := g_t hc hf
        refine lv_iload_n C.1 C.2.1 dX8_readAll_63 rfl (lv_at hl 1 rfl) ?_
        obtain rfl := Option.some.inj hf
        exact u_iret C hP hS dX8_readAll_64
      · have hf := g_f hc hf
        refine lv_bipush (v := (-100 : Int32)) C.1 C.2.1 dX8_readAll_53 (by decide) ?_
        refine lv_aload_n C.1 C.2.1 dX8_readAll_55 rfl (lv_at hl 0 rfl) ?_
        refine gf_X8_145 C hP dX8_readAll_56 ?_
        refine lv_isub C.1 C.2.1 dX8_readAll_59 ?_
        refine lv_goto (tgt := 64) C.1 C.2.1 dX8_readAll_60 (by decide) ?_
        obtain rfl := Option.some.inj hf
        exact u_iret C hP hS dX8_readAll_64
    · have hf := g_f hc hf
      refine lv_aload_n C.1 C.2.1 dX8_readAll_13 rfl (lv_at hl 0 rfl) ?_
      refine lv_iconst (v := (0 : Int32)) C.1 C.2.1 dX8_readAll_14 (by decide) ?_
      obtain ⟨q1, eq1, hf⟩ := g_b hf
      refine cv_X8_161 hA C hX hP hS eq1 ⟨Nat.le_of_ble_eq_true rfl, Nat.le_of_ble_eq_true rfl⟩ hl.1 (Nat.le_of_ble_eq_true rfl) dX8_readAll_15 (fun H locs hP hS => ?_)
      refine lv_if_ne (tgt := 29) C.1 C.2.1 dX8_readAll_18 (by decide) (fun hc => ?_) (fun hc => ?_)
      · have hf := g_f hc hf
        refine lv_iinc (v := (x1 + 1)) (lv' := [(1, .int (x1 + 1)), (0, .ref (ad 0)), (2, .int x2)]) C.1 C.2.1 dX8_readAll_29 hl (k := 1) rfl (by rfl) (by decide) rfl (fun ls hl => ?_)
        refine lv_aload_n C.1 C.2.1 dX8_readAll_32 rfl (lv_at hl 1 rfl) ?_
        refine lv_bipush (v := (59 : Int32)) C.1 C.2.1 dX8_readAll_33 (by decide) ?_
        obtain ⟨q2, eq2, hf⟩ := g_b hf
        refine cv_X8_151 hA C hX hP hS eq2 ⟨Nat.le_of_ble_eq_true rfl, Nat.le_of_ble_eq_true rfl⟩ hl.1 (Nat.le_of_ble_eq_true rfl) dX8_readAll_35 (fun H locs hP hS => ?_)
        refine lv_istore_n (lv' := [(2, .int q2.1), (1, .int (x1 + 1)), (0, .ref (ad 0))]) C.1 C.2.1 dX8_readAll_38 rfl hl (by decide) rfl (fun ls hl => ?_)
        refine lv_goto (tgt := 9) C.1 C.2.1 dX8_readAll_39 (by decide) ?_
        exact ih _ _ _ _ _ _ hf hP hS (lv_sub hl [2, 1, 0] rfl)
      · have hf := g_t hc hf
        refine lv_bipush (v := (-100 : Int32)) C.1 C.2.1 dX8_readAll_21 (by decide) ?_
        refine lv_aload_n C.1 C.2.1 dX8_readAll_23 rfl (lv_at hl 0 rfl) ?_
        refine gf_X8_145 C hP dX8_readAll_24 ?_
        refine lv_isub C.1 C.2.1 dX8_readAll_27 ?_
        obtain rfl := Option.some.inj hf
        exact u_iret C hP hS dX8_readAll_28
set_option maxRecDepth 100000 in
set_option maxHeartbeats 4000000 in
theorem w_X8_readAll {p : Program} {l : Launch} {e : Env} {s : State} {m : MethodId} {args : Array Value} {below : List Frame} {meth : Method} {c : Code} {D : va_G} {ids : Nat → ClassId} {ad : Nat → Nat} {rv : Int32 × Hp} (hA : adOk ad 12) (C : CX p s m args meth c cX8_readAll 3 (some .int) RX8 D ids) (hX : ExM s s.heap) : ∀ (h : Hp) (H : Heap) (locs : List Loc) (ls : Array Slot), f_X8_readAll h = some rv → wp D (cEM ids ad) ad 12 h H → va_S (inW ad 12) s.heap H locs → lv_has ls 3 [(0, .ref (ad 0))] → W p l e rm_X8_readAll s m args below meth c H locs 0 0 (MQ below (QW D (cEM ids ad) ad 12 (some (.int rv.1)) rv.2) args s 0 0 (inW ad 12)) (F0 m 0 ls []) := by
  intro h H locs ls hf hP hS hl
  unfold f_X8_readAll at hf
  refine lv_aload_n C.1 C.2.1 dX8_readAll_0 rfl (lv_at hl 0 rfl) ?_
  refine lv_iconst (v := (0 : Int32)) C.1 C.2.1 dX8_readAll_1 (by decide) ?_
  refine pf_X8_145 hA C hP hS dX8_readAll_2 (fun H locs hP hS => ?_)
  refine lv_iconst (v := (0 : Int32)) C.1 C.2.1 dX8_readAll_5 (by decide) ?_
  refine lv_istore_n (lv' := [(1, .int (0 : Int32)), (0, .ref (ad 0))]) C.1 C.2.1 dX8_readAll_6 rfl hl (by decide) rfl (fun ls hl => ?_)
  refine lv_iconst (v := (1 : Int32)) C.1 C.2.1 dX8_readAll_7 (by decide) ?_
  refine lv_istore_n (lv' := [(2, .int (1 : Int32)), (1, .int (0 : Int32)), (0, .ref (ad 0))]) C.1 C.2.1 dX8_readAll_8 rfl hl (by decide) rfl (fun ls hl => ?_)
  exact w_X8_readAll_9 hA C hX _ _ _ _ _ _ _ hf hP hS (lv_sub hl [2, 1, 0] rfl)
theorem c_X8_readAll (l : Launch) (D : va_G) (ids : Nat → ClassId) (ad : Nat → Nat) (hA : adOk ad 12) {h : Hp} {rv : Int32 × Hp} (hf : f_X8_readAll h = some rv) : Met l yX8_readAll (ws_ yX8_readAll cX8_readAll 3 (some .int)) rm_X8_readAll (va_Pc [.ref (ad 0)] (WB D ids (cEM ids ad) ad 12 ExM h)) (QW D (cEM ids ad) ad 12 (some (.int rv.1)) rv.2) 0 0 (inW ad 12) :=
  u_met (own := RX8) (by decide) rfl (Nat.le_of_ble_eq_true rfl) rfl (fun p e s m args below meth c H ls C hX hP hS hl => w_X8_readAll hA C hX _ _ _ _ hf hP hS hl)
theorem cv_X8_165 {p : Program} {l : Launch} {e : Env} {R : Room} {s : State} {m : MethodId} {args : Array Value} {below : List Frame} {meth : Method} {c : Code} {H : Heap} {locs : List Loc} {Q : State → Prop} {cc : ByteArray} {nL : Nat} {ret : Option FieldType} {pc : Nat} {ls : Array Slot} {rest : List Value} {D : va_G} {ids : Nat → ClassId} {ad : Nat → Nat} {h : Hp} (hA : adOk ad 12) (C : CX p s m args meth c cc nL ret RX8 D ids) (hX : ExM s s.heap) (hP : wp D (cEM ids ad) ad 12 h H) (hS : va_S (inW ad 12) s.heap H locs) {rv : Int32 × Hp} (hf : f_X8_readAll h = some rv) (hR : 5 + 1 ≤ R.frames ∧ 8 + (3 + 11) + 110 ≤ R.locals) (hsz : ls.size = nL) (hcat : (rest.map fun v => v.category).sum ≤ 8) (hdg : decode cc pc = .ok (.invokevirtual 165, 3)) (kk : ∀ (H1 : Heap) (locs1 : List Loc), wp D (cEM ids ad) ad 12 rv.2 H1 → va_S (inW ad 12) s.heap H1 locs1 → W p l e R s m args below meth c H1 locs1 0 0 Q (F0 m (pc + 3) ls (.int rv.1 :: rest))) : W p l e R s m args below meth c H locs 0 0 Q (F0 m pc ls (.ref (ad 0) :: rest)) :=
  u_callV (As := []) (rv := (some (.int rv.1))) C exM_ok hX (c_X8_readAll l D ids ad hA hf) q_236 q_237 q_238 q_5 q_239 ⟨rfl, rfl⟩ (by refine ⟨by decide +kernel, by decide +kernel, ?_⟩; show _ = some 0; decide +kernel) hR (by decide) (cE_X8 _) rfl hP hS hsz hcat rfl hdg kk
abbrev rm_X8_captains : Room := { frames := 6, cells := 0, slots := 0, locals := 132 }
set_option maxRecDepth 100000 in
set_option maxHeartbeats 4000000 in
theorem w_X8_captains_22 {p : Program} {l : Launch} {e : Env} {s : State} {m : MethodId} {args : Array Value} {below : List Frame} {meth : Method} {c : Code} {D : va_G} {ids : Nat → ClassId} {ad : Nat → Nat} {rv : Int32 × Hp} (hA : adOk ad 12) (C : CX p s m args meth c cX8_captains 3 (some .int) RX8 D ids) (hX : ExM s s.heap) : ∀ (fu : Nat), ∀ (h : Hp) (x1 : Int32) (x2 : Int32) (H : Heap) (locs : List Loc) (ls : Array Slot), f_X8_captains_22 fu h x1 x2 = some rv → wp D (cEM ids ad) ad 12 h H → va_S (inW ad 12) s.heap H locs → lv_has ls 3 [(0, .ref (ad 0)), (1, .int x1), (2, .int x2)] → W p l e rm_X8_captains s m args below meth c H locs 0 0 (MQ below (QW D (cEM ids ad) ad 12 (some (.int rv.1)) rv.2) args s 0 0 (inW ad 12)) (F0 m 22 ls []) := by
  intro fu
  induction fu with
  | zero =>
    intro h x1 x2 H locs ls hf hP hS hl
    cases hf
  | succ fu ih =>
    intro h x1 x2 H locs ls hf hP hS hl
    rw [f_X8_captains_22_s] at hf
    refine lv_iload_n C.1 C.2.1 dX8_captains_22 rfl (lv_at hl 2 rfl) ?_
    refine lv_iload_n C.1 C.2.1 dX8_captains_23 rfl (lv_at hl 1 rfl) ?_
    refine lv_icmp_ge (tgt := 49) C.1 C.2.1 dX8_captains_24 (by decide) (fun hc => ?_) (fun hc => ?_)
    · have hf := g_t hc hf
      refine lv_iload_n C.1 C.2.1 dX8_captains_49 rfl (lv_at hl 1 rfl) ?_
      obtain rfl := Option.some.inj hf
      exact u_iret C hP hS dX8_captains_50
    · have hf := g_f hc hf
      refine lv_aload_n C.1 C.2.1 dX8_captains_27 rfl (lv_at hl 0 rfl) ?_
      refine lv_iconst (v := (1 : Int32)) C.1 C.2.1 dX8_captains_28 (by decide) ?_
      obtain ⟨q1, eq1, hf⟩ := g_b hf
      refine cv_X8_161 hA C hX hP hS eq1 ⟨Nat.le_of_ble_eq_true rfl, Nat.le_of_ble_eq_true rfl⟩ hl.1 (Nat.le_of_ble_eq_true rfl) dX8_captains_29 (fun H locs hP hS => ?_)
      refine lv_pop C.1 C.2.1 dX8_captains_32 rfl ?_
      refine lv_aload_n C.1 C.2.1 dX8_captains_33 rfl (lv_at hl 0 rfl) ?_
      refine lv_dup C.1 C.2.1 dX8_captains_34 rfl ?_
      refine gf_X8_145 C hP dX8_captains_35 ?_
      refine lv_iconst (v := (1 : Int32)) C.1 C.2.1 dX8_captains_38 (by decide) ?_
      refine lv_iadd C.1 C.2.1 dX8_captains_39 ?_
      refine pf_X8_145 hA C hP hS dX8_captains_40 (fun H locs hP hS => ?_)
      refine lv_iinc (v := (x2 + 1)) (lv' := [(2, .int (x2 + 1)), (0, .ref (ad 0)), (1, .int x1)]) C.1 C.2.1 dX8_captains_43 hl (k := 2) rfl (by rfl) (by decide) rfl (fun ls hl => ?_)
      refine lv_goto (tgt := 22) C.1 C.2.1 dX8_captains_46 (by decide) ?_
      exact ih _ _ _ _ _ _ hf hP hS (lv_sub hl [1, 2, 0] rfl)
set_option maxRecDepth 100000 in
set_option maxHeartbeats 4000000 in
theorem w_X8_captains {p : Program} {l : Launch} {e : Env} {s : State} {m : MethodId} {args : Array Value} {below : List Frame} {meth : Method} {c : Code} {D : va_G} {ids : Nat → ClassId} {ad : Nat → Nat} {rv : Int32 × Hp} (hA : adOk ad 12) (C : CX p s m args meth c cX8_captains 3 (some .int) RX8 D ids) (hX : ExM s s.heap) : ∀ (h : Hp) (H : Heap) (locs : List Loc) (ls : Array Slot), f_X8_captains h = some rv → wp D (cEM ids ad) ad 12 h H → va_S (inW ad 12) s.heap H locs → lv_has ls 3 [(0, .ref (ad 0))] → W p l e rm_X8_captains s m args below meth c H locs 0 0 (MQ below (QW D (cEM ids ad) ad 12 (some (.int rv.1)) rv.2) args s 0 0 (inW ad 12)) (F0 m 0 ls []) := by
  intro h H locs ls hf hP hS hl
  unfold f_X8_captains at hf
  refine lv_aload_n C.1 C.2.1 dX8_captains_0 rfl (lv_at hl 0 rfl) ?_
  obtain ⟨q1, eq1, hf⟩ := g_b hf
  refine cv_X8_165 hA C hX hP hS eq1 ⟨Nat.le_of_ble_eq_true rfl, Nat.le_of_ble_eq_true rfl⟩ hl.1 (Nat.le_of_ble_eq_true rfl) dX8_captains_1 (fun H locs hP hS => ?_)
  refine lv_istore_n (lv' := [(1, .int q1.1), (0, .ref (ad 0))]) C.1 C.2.1 dX8_captains_4 rfl hl (by decide) rfl (fun ls hl => ?_)
  refine lv_iload_n C.1 C.2.1 dX8_captains_5 rfl (lv_at hl 0 rfl) ?_
  refine lv_if_ge (tgt := 11) C.1 C.2.1 dX8_captains_6 (by decide) (fun hc => ?_) (fun hc => ?_)
  · have hf := g_t hc hf
    refine lv_aload_n C.1 C.2.1 dX8_captains_11 rfl (lv_at hl 1 rfl) ?_
    obtain ⟨q2, eq2, hf⟩ := g_b hf
    refine cv_X8_129 hA C hX hP hS eq2 ⟨Nat.le_of_ble_eq_true rfl, Nat.le_of_ble_eq_true rfl⟩ hl.1 (Nat.le_of_ble_eq_true rfl) dX8_captains_12 (fun H locs hP hS => ?_)
    refine lv_aload_n C.1 C.2.1 dX8_captains_15 rfl (lv_at hl 1 rfl) ?_
    refine lv_iconst (v := (0 : Int32)) C.1 C.2.1 dX8_captains_16 (by decide) ?_
    refine pf_X8_145 hA C hP hS dX8_captains_17 (fun H locs hP hS => ?_)
    refine lv_iconst (v := (0 : Int32)) C.1 C.2.1 dX8_captains_20 (by decide) ?_
    refine lv_istore_n (lv' := [(2, .int (0 : Int32)), (1, .int q1.1), (0, .ref (ad 0))]) C.1 C.2.1 dX8_captains_21 rfl hl (by decide) rfl (fun ls hl => ?_)
    exact w_X8_captains_22 hA C hX _ _ _ _ _ _ _ hf hP hS (lv_sub hl [2, 1, 0] rfl)
  · have hf := g_f hc hf
    refine lv_iload_n C.1 C.2.1 dX8_captains_9 rfl (lv_at hl 0 rfl) ?_
    obtain rfl := Option.some.inj hf
    exact u_iret C hP hS dX8_captains_10
theorem c_X8_captains (l : Launch) (D : va_G) (ids : Nat → ClassId) (ad : Nat → Nat) (hA : adOk ad 12) {h : Hp} {rv : Int32 × Hp} (hf : f_X8_captains h = some rv) : Met l yX8_captains (ws_ yX8_captains cX8_captains 3 (some .int)) rm_X8_captains (va_Pc [.ref (ad 0)] (WB D ids (cEM ids ad) ad 12 ExM h)) (QW D (cEM ids ad) ad 12 (some (.int rv.1)) rv.2) 0 0 (inW ad 12) :=
  u_met (own := RX8) (by decide) rfl (Nat.le_of_ble_eq_true rfl) rfl (fun p e s m args below meth c H ls C hX hP hS hl => w_X8_captains hA C hX _ _ _ _ hf hP hS hl)
abbrev rm_X8_change : Room := { frames := 1, cells := 0, slots := 0, locals := 21 }
set_option maxRecDepth 100000 in
set_option maxHeartbeats 4000000 in
theorem w_X8_change {p : Program} {l : Launch} {e : Env} {s : State} {m : MethodId} {args : Array Value} {below : List Frame} {meth : Method} {c : Code} {D : va_G} {ids : Nat → ClassId} {ad : Nat → Nat} {rv : Int32 × Hp} (hA : adOk ad 12) (C : CX p s m args meth c cX8_change 4 (some .int) RX8 D ids) (hX : ExM s s.heap) : ∀ (h : Hp) (a1 : Int32) (a2 : Int32) (H : Heap) (locs : List Loc) (ls : Array Slot), f_X8_change h a1 a2 = some rv → wp D (cEM ids ad) ad 12 h H → va_S (inW ad 12) s.heap H locs → lv_has ls 4 [(0, .ref (ad 0)), (1, .int a1), (2, .int a2)] → W p l e rm_X8_change s m args below meth c H locs 0 0 (MQ below (QW D (cEM ids ad) ad 12 (some (.int rv.1)) rv.2) args s 0 0 (inW ad 12)) (F0 m 0 ls []) := by
  intro h a1 a2 H locs ls hf hP hS hl
  unfold f_X8_change at hf
  refine lv_aload_n C.1 C.2.1 dX8_change_0 rfl (lv_at hl 0 rfl) ?_
  refine gf_X8_7 C hP dX8_change_1 ?_
  refine lv_iload_n C.1 C.2.1 dX8_change_4 rfl (lv_at hl 1 rfl) ?_
  obtain ⟨hg, hf⟩ := g_if hf
  refine al_m1 C hP hg dX8_change_5 ?_
  refine lv_istore_n (lv' := [(3, .int (h 1 a1.toNatClampNeg)), (0, .ref (ad 0)), (1, .int a1), (2, .int a2)]) C.1 C.2.1 dX8_change_6 rfl hl (by decide) rfl (fun ls hl => ?_)
  refine lv_iload_n C.1 C.2.1 dX8_change_7 rfl (lv_at hl 0 rfl) ?_
  refine lv_iload_n C.1 C.2.1 dX8_change_8 rfl (lv_at hl 3 rfl) ?_
  refine lv_icmp_ne (tgt := 15) C.1 C.2.1 dX8_change_9 (by decide) (fun hc => ?_) (fun hc => ?_)
  · have hf := g_f hc hf
    refine lv_aload_n C.1 C.2.1 dX8_change_15 rfl (lv_at hl 1 rfl) ?_
    obtain ⟨q1, eq1, hf⟩ := g_b hf
    refine cv_X8_129 hA C hX hP hS eq1 ⟨Nat.le_of_ble_eq_true rfl, Nat.le_of_ble_eq_true rfl⟩ hl.1 (Nat.le_of_ble_eq_true rfl) dX8_change_16 (fun H locs hP hS => ?_)
    refine lv_aload_n C.1 C.2.1 dX8_change_19 rfl (lv_at hl 1 rfl) ?_
    refine gf_X8_7 C hP dX8_change_20 ?_
    refine lv_iload_n C.1 C.2.1 dX8_change_23 rfl (lv_at hl 2 rfl) ?_
    refine lv_iload_n C.1 C.2.1 dX8_change_24 rfl (lv_at hl 3 rfl) ?_
    obtain ⟨hg, hf⟩ := g_if hf
    refine as_m1 hA C hP hS hg dX8_change_25 (fun H locs hP hS => ?_)
    refine lv_iload_n C.1 C.2.1 dX8_change_26 rfl (lv_at hl 0 rfl) ?_
    obtain rfl := Option.some.inj hf
    exact u_iret C hP hS dX8_change_27
  · have hf := g_t hc hf
    refine lv_bipush (v := (-5 : Int32)) C.1 C.2.1 dX8_change_12 (by decide) ?_
    obtain rfl := Option.some.inj hf
    exact u_iret C hP hS dX8_change_14
theorem c_X8_change (l : Launch) (D : va_G) (ids : Nat → ClassId) (ad : Nat → Nat) (hA : adOk ad 12) {a1 : Int32} {a2 : Int32} {h : Hp} {rv : Int32 × Hp} (hf : f_X8_change h a1 a2 = some rv) : Met l yX8_change (ws_ yX8_change cX8_change 4 (some .int)) rm_X8_change (va_Pc [.ref (ad 0), .int a1, .int a2] (WB D ids (cEM ids ad) ad 12 ExM h)) (QW D (cEM ids ad) ad 12 (some (.int rv.1)) rv.2) 0 0 (inW ad 12) :=
  u_met (own := RX8) (by decide) rfl (Nat.le_of_ble_eq_true rfl) rfl (fun p e s m args below meth c H ls C hX hP hS hl => w_X8_change hA C hX _ _ _ _ _ _ hf hP hS hl)
theorem cv_X8_132 {p : Program} {l : Launch} {e : Env} {R : Room} {s : State} {m : MethodId} {args : Array Value} {below : List Frame} {meth : Method} {c : Code} {H : Heap} {locs : List Loc} {Q : State → Prop} {cc : ByteArray} {nL : Nat} {ret : Option FieldType} {pc : Nat} {ls : Array Slot} {rest : List Value} {D : va_G} {ids : Nat → ClassId} {ad : Nat → Nat} {h : Hp} (hA : adOk ad 12) (C : CX p s m args meth c cc nL ret RX8 D ids) (hX : ExM s s.heap) (hP : wp D (cEM ids ad) ad 12 h H) (hS : va_S (inW ad 12) s.heap H locs) {a1 : Int32} {a2 : Int32} {rv : Int32 × Hp} (hf : f_X8_change h a1 a2 = some rv) (hR : 1 + 1 ≤ R.frames ∧ 8 + (4 + 11) + 21 ≤ R.locals) (hsz : ls.size = nL) (hcat : (rest.map fun v => v.category).sum ≤ 8) (hdg : decode cc pc = .ok (.invokevirtual 132, 3)) (kk : ∀ (H1 : Heap) (locs1 : List Loc), wp D (cEM ids ad) ad 12 rv.2 H1 → va_S (inW ad 12) s.heap H1 locs1 → W p l e R s m args below meth c H1 locs1 0 0 Q (F0 m (pc + 3) ls (.int rv.1 :: rest))) : W p l e R s m args below meth c H locs 0 0 Q (F0 m pc ls (.int a2 :: .int a1 :: .ref (ad 0) :: rest)) :=
  u_callV (As := [.int a1, .int a2]) (rv := (some (.int rv.1))) C exM_ok hX (c_X8_change l D ids ad hA hf) q_270 q_271 q_272 q_5 q_273 ⟨rfl, rfl⟩ (by refine ⟨by decide +kernel, by decide +kernel, ?_⟩; show _ = some 2; decide +kernel) hR (by decide) (cE_X8 _) rfl hP hS hsz hcat rfl hdg kk
abbrev rm_X8_truth : Room := { frames := 2, cells := 0, slots := 0, locals := 44 }
set_option maxRecDepth 100000 in
set_option maxHeartbeats 4000000 in
theorem w_X8_truth {p : Program} {l : Launch} {e : Env} {s : State} {m : MethodId} {args : Array Value} {below : List Frame} {meth : Method} {c : Code} {D : va_G} {ids : Nat → ClassId} {ad : Nat → Nat} {rv : Int32 × Hp} (hA : adOk ad 12) (C : CX p s m args meth c cX8_truth 2 (some .int) RX8 D ids) (hX : ExM s s.heap) : ∀ (h : Hp) (a1 : Int32) (H : Heap) (locs : List Loc) (ls : Array Slot), f_X8_truth h a1 = some rv → wp D (cEM ids ad) ad 12 h H → va_S (inW ad 12) s.heap H locs → lv_has ls 2 [(0, .ref (ad 0)), (1, .int a1)] → W p l e rm_X8_truth s m args below meth c H locs 0 0 (MQ below (QW D (cEM ids ad) ad 12 (some (.int rv.1)) rv.2) args s 0 0 (inW ad 12)) (F0 m 0 ls []) := by
  intro h a1 H locs ls hf hP hS hl
  unfold f_X8_truth at hf
  refine lv_iload_n C.1 C.2.1 dX8_truth_0 rfl (lv_at hl 1 rfl) ?_
  refine lv_iconst (v := (0 : Int32)) C.1 C.2.1 dX8_truth_1 (by decide) ?_
  refine lv_bipush (v := (11 : Int32)) C.1 C.2.1 dX8_truth_2 (by decide) ?_
  obtain ⟨q1, eq1, hf⟩ := g_b hf
  refine cv_X8_51 hA C hX hP hS eq1 ⟨Nat.le_of_ble_eq_true rfl, Nat.le_of_ble_eq_true rfl⟩ hl.1 (Nat.le_of_ble_eq_true rfl) dX8_truth_4 (fun H locs hP hS => ?_)
  refine lv_if_eq (tgt := 19) C.1 C.2.1 dX8_truth_7 (by decide) (fun hc => ?_) (fun hc => ?_)
  · have hf := g_t hc hf
    refine lv_bipush (v := (-2 : Int32)) C.1 C.2.1 dX8_truth_19 (by decide) ?_
    obtain rfl := Option.some.inj hf
    exact u_iret C hP hS dX8_truth_21
  · have hf := g_f hc hf
    refine lv_aload_n C.1 C.2.1 dX8_truth_10 rfl (lv_at hl 0 rfl) ?_
    refine lv_iconst (v := (1 : Int32)) C.1 C.2.1 dX8_truth_11 (by decide) ?_
    refine lv_iload_n C.1 C.2.1 dX8_truth_12 rfl (lv_at hl 1 rfl) ?_
    obtain ⟨q2, eq2, hf⟩ := g_b hf
    refine cv_X8_132 hA C hX hP hS eq2 ⟨Nat.le_of_ble_eq_true rfl, Nat.le_of_ble_eq_true rfl⟩ hl.1 (Nat.le_of_ble_eq_true rfl) dX8_truth_13 (fun H locs hP hS => ?_)
    refine lv_goto (tgt := 21) C.1 C.2.1 dX8_truth_16 (by decide) ?_
    obtain rfl := Option.some.inj hf
    exact u_iret C hP hS dX8_truth_21
theorem c_X8_truth (l : Launch) (D : va_G) (ids : Nat → ClassId) (ad : Nat → Nat) (hA : adOk ad 12) {a1 : Int32} {h : Hp} {rv : Int32 × Hp} (hf : f_X8_truth h a1 = some rv) : Met l yX8_truth (ws_ yX8_truth cX8_truth 2 (some .int)) rm_X8_truth (va_Pc [.ref (ad 0), .int a1] (WB D ids (cEM ids ad) ad 12 ExM h)) (QW D (cEM ids ad) ad 12 (some (.int rv.1)) rv.2) 0 0 (inW ad 12) :=
  u_met (own := RX8) (by decide) rfl (Nat.le_of_ble_eq_true rfl) rfl (fun p e s m args below meth c H ls C hX hP hS hl => w_X8_truth hA C hX _ _ _ _ _ hf hP hS hl)
