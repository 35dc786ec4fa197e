theorem al_w0 {p : Program} {l : Launch} {e : Env} {R : Room} {s : State} {m : MethodId} {args : Array Value} {below : List Frame} {meth : Method} {c : Code} {H : Heap} {locs : List Loc} {cells slots : Nat} {Q : State → Prop} {cc : ByteArray} {nL : Nat} {ret : Option FieldType} {own : String} {pc : Nat} {ls : Array Slot} {rest : List Value} {D : va_G} {ids : Nat → ClassId} {ad : Nat → Nat} {h : Hp} (C : CX p s m args meth c cc nL ret own D ids) (hP : wp D (cEA ids) ad 2 h H) {i : Int32} (hg : inb i 48 = true) (hdg : decode cc pc = .ok (.iaload, 1)) (kk : W p l e R s m args below meth c H locs cells slots Q (F0 m (pc + 1) ls (.int (h 0 i.toNatClampNeg) :: rest))) : W p l e R s m args below meth c H locs cells slots Q (F0 m pc ls (.int i :: .ref (ad 0) :: rest)) :=
  u_iald C hP (by decide) cE_w0 hg hdg kk
theorem al_w1 {p : Program} {l : Launch} {e : Env} {R : Room} {s : State} {m : MethodId} {args : Array Value} {below : List Frame} {meth : Method} {c : Code} {H : Heap} {locs : List Loc} {cells slots : Nat} {Q : State → Prop} {cc : ByteArray} {nL : Nat} {ret : Option FieldType} {own : String} {pc : Nat} {ls : Array Slot} {rest : List Value} {D : va_G} {ids : Nat → ClassId} {ad : Nat → Nat} {h : Hp} (C : CX p s m args meth c cc nL ret own D ids) (hP : wp D (cEA ids) ad 2 h H) {i : Int32} (hg : inb i 48 = true) (hdg : decode cc pc = .ok (.iaload, 1)) (kk : W p l e R s m args below meth c H locs cells slots Q (F0 m (pc + 1) ls (.int (h 1 i.toNatClampNeg) :: rest))) : W p l e R s m args below meth c H locs cells slots Q (F0 m pc ls (.int i :: .ref (ad 1) :: rest)) :=
  u_iald C hP (by decide) cE_w1 hg hdg kk
abbrev rm_L_same : Room := { frames := 0, cells := 0, slots := 0, locals := 0 }
set_option maxRecDepth 100000 in
set_option maxHeartbeats 4000000 in
theorem w_L_same_2 {p : Program} {l : Launch} {e : Env} {s : State} {m : MethodId} {args : Array Value} {below : List Frame} {meth : Method} {c : Code} {D : va_G} {ids : Nat → ClassId} {ad : Nat → Nat} {rv : Int32 × Hp} (hA : adOk ad 2) (C : CX p s m args meth c cL_same 3 (some .boolean) RL D ids) (hX : ExM s s.heap) : ∀ (fu : Nat), ∀ (h : Hp) (x2 : Int32) (H : Heap) (locs : List Loc) (ls : Array Slot), f_L_same_2 fu h x2 = some rv → wp D (cEA ids) ad 2 h H → va_S (inW ad 2) s.heap H locs → lv_has ls 3 [(0, .ref (ad 0)), (1, .ref (ad 1)), (2, .int x2)] → W p l e rm_L_same s m args below meth c H locs 0 0 (MQ below (QW D (cEA ids) ad 2 (some (.int rv.1)) rv.2) args s 0 0 (inW ad 2)) (F0 m 2 ls []) := by
  intro fu
  induction fu with
  | zero =>
    intro h x2 H locs ls hf hP hS hl
    cases hf
  | succ fu ih =>
    intro h x2 H locs ls hf hP hS hl
    rw [f_L_same_2_s] at hf
    refine lv_iload_n C.1 C.2.1 dL_same_2 rfl (lv_at hl 2 rfl) ?_
    refine lv_bipush (v := (45 : Int32)) C.1 C.2.1 dL_same_3 (by decide) ?_
    refine lv_icmp_ge (tgt := 25) C.1 C.2.1 dL_same_5 (by decide) (fun hc => ?_) (fun hc => ?_)
    · have hf := g_t hc hf
      refine lv_iconst (v := (1 : Int32)) C.1 C.2.1 dL_same_25 (by decide) ?_
      obtain rfl := Option.some.inj hf
      exact u_zret C hP hS isb_1 dL_same_26
    · have hf := g_f hc hf
      refine lv_aload_n C.1 C.2.1 dL_same_8 rfl (lv_at hl 0 rfl) ?_
      refine lv_iload_n C.1 C.2.1 dL_same_9 rfl (lv_at hl 2 rfl) ?_
      obtain ⟨hg, hf⟩ := g_if hf
      refine al_w0 C hP hg dL_same_10 ?_
      refine lv_aload_n C.1 C.2.1 dL_same_11 rfl (lv_at hl 1 rfl) ?_
      refine lv_iload_n C.1 C.2.1 dL_same_12 rfl (lv_at hl 2 rfl) ?_
      obtain ⟨hg, hf⟩ := g_if hf
      refine al_w1 C hP hg dL_same_13 ?_
      refine lv_icmp_eq (tgt := 19) C.1 C.2.1 dL_same_14 (by decide) (fun hc => ?_) (fun hc => ?_)
      · have hf := g_t hc hf
        refine lv_iinc (v := (x2 + 1)) (lv' := [(2, .int (x2 + 1)), (0, .ref (ad 0)), (1, .ref (ad 1))]) C.1 C.2.1 dL_same_19 hl (k := 2) rfl (by rfl) (by decide) rfl (fun ls hl => ?_)
        refine lv_goto (tgt := 2) C.1 C.2.1 dL_same_22 (by decide) ?_
        exact ih _ _ _ _ _ hf hP hS (lv_sub hl [1, 2, 0] rfl)
      · have hf := g_f hc hf
        refine lv_iconst (v := (0 : Int32)) C.1 C.2.1 dL_same_17 (by decide) ?_
        obtain rfl := Option.some.inj hf
        exact u_zret C hP hS isb_0 dL_same_18
set_option maxRecDepth 100000 in
set_option maxHeartbeats 4000000 in
theorem w_L_same {p : Program} {l : Launch} {e : Env} {s : State} {m : MethodId} {args : Array Value} {below : List Frame} {meth : Method} {c : Code} {D : va_G} {ids : Nat → ClassId} {ad : Nat → Nat} {rv : Int32 × Hp} (hA : adOk ad 2) (C : CX p s m args meth c cL_same 3 (some .boolean) RL D ids) (hX : ExM s s.heap) : ∀ (h : Hp) (H : Heap) (locs : List Loc) (ls : Array Slot), f_L_same h = some rv → wp D (cEA ids) ad 2 h H → va_S (inW ad 2) s.heap H locs → lv_has ls 3 [(0, .ref (ad 0)), (1, .ref (ad 1))] → W p l e rm_L_same s m args below meth c H locs 0 0 (MQ below (QW D (cEA ids) ad 2 (some (.int rv.1)) rv.2) args s 0 0 (inW ad 2)) (F0 m 0 ls []) := by
  intro h H locs ls hf hP hS hl
  unfold f_L_same at hf
  refine lv_iconst (v := (0 : Int32)) C.1 C.2.1 dL_same_0 (by decide) ?_
  refine lv_istore_n (lv' := [(2, .int (0 : Int32)), (0, .ref (ad 0)), (1, .ref (ad 1))]) C.1 C.2.1 dL_same_1 rfl hl (by decide) rfl (fun ls hl => ?_)
  exact w_L_same_2 hA C hX _ _ _ _ _ _ hf hP hS (lv_sub hl [1, 2, 0] rfl)
theorem c_L_same (l : Launch) (D : va_G) (ids : Nat → ClassId) (ad : Nat → Nat) (hA : adOk ad 2) {h : Hp} {rv : Int32 × Hp} (hf : f_L_same h = some rv) : Met l yL_same (ws_ yL_same cL_same 3 (some .boolean)) rm_L_same (va_Pc [.ref (ad 0), .ref (ad 1)] (WB D ids (cEA ids) ad 2 ExM h)) (QW D (cEA ids) ad 2 (some (.int rv.1)) rv.2) 0 0 (inW ad 2) :=
  u_met (own := RL) (by decide) rfl (Nat.le_of_ble_eq_true rfl) rfl (fun p e s m args below meth c H ls C hX hP hS hl => w_L_same hA C hX _ _ _ _ hf hP hS hl)
