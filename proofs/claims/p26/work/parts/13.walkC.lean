theorem gf_X2_36 {p : Program} {l : Launch} {e : Env} {R : Room} {s : State} {m : MethodId} {args : Array Value} {below : List Frame} {meth : Method} {c : Code} {H : Heap} {locs : List Loc} {cells slots : Nat} {Q : State → Prop} {cc : ByteArray} {nL : Nat} {ret : Option FieldType} {pc : Nat} {ls : Array Slot} {rest : List Value} {D : va_G} {ids : Nat → ClassId} {ad : Nat → Nat} {h : Hp} (C : CX p s m args meth c cc nL ret RX2 D ids) {k : Nat} (hk : isX2 k) (hP : wp D (cEC ids ad) ad 59 h H) (hdg : decode cc pc = .ok (.getfield 36, 3)) (kk : W p l e R s m args below meth c H locs cells slots Q (F0 m (pc + 3) ls (.int (h k 0) :: rest))) : W p l e R s m args below meth c H locs cells slots Q (F0 m pc ls (.ref (ad k) :: rest)) :=
  u_get C hP (lt_X2 hk) (cE_X2 hk) rfl inX2 0 (by decide) rfl q_55 hdg kk
theorem gf_X2_9 {p : Program} {l : Launch} {e : Env} {R : Room} {s : State} {m : MethodId} {args : Array Value} {below : List Frame} {meth : Method} {c : Code} {H : Heap} {locs : List Loc} {cells slots : Nat} {Q : State → Prop} {cc : ByteArray} {nL : Nat} {ret : Option FieldType} {pc : Nat} {ls : Array Slot} {rest : List Value} {D : va_G} {ids : Nat → ClassId} {ad : Nat → Nat} {h : Hp} (C : CX p s m args meth c cc nL ret RX2 D ids) {k : Nat} (hk : isX2 k) (hP : wp D (cEC ids ad) ad 59 h H) (hdg : decode cc pc = .ok (.getfield 9, 3)) (kk : W p l e R s m args below meth c H locs cells slots Q (F0 m (pc + 3) ls (.int (h k 1) :: rest))) : W p l e R s m args below meth c H locs cells slots Q (F0 m pc ls (.ref (ad k) :: rest)) :=
  u_get C hP (lt_X2 hk) (cE_X2 hk) rfl inX2 1 (by decide) rfl q_47 hdg kk
theorem gf_X2_15 {p : Program} {l : Launch} {e : Env} {R : Room} {s : State} {m : MethodId} {args : Array Value} {below : List Frame} {meth : Method} {c : Code} {H : Heap} {locs : List Loc} {cells slots : Nat} {Q : State → Prop} {cc : ByteArray} {nL : Nat} {ret : Option FieldType} {pc : Nat} {ls : Array Slot} {rest : List Value} {D : va_G} {ids : Nat → ClassId} {ad : Nat → Nat} {h : Hp} (C : CX p s m args meth c cc nL ret RX2 D ids) {k : Nat} (hk : isX2 k) (hP : wp D (cEC ids ad) ad 59 h H) (hdg : decode cc pc = .ok (.getfield 15, 3)) (kk : W p l e R s m args below meth c H locs cells slots Q (F0 m (pc + 3) ls (.int (h k 2) :: rest))) : W p l e R s m args below meth c H locs cells slots Q (F0 m pc ls (.ref (ad k) :: rest)) :=
  u_get C hP (lt_X2 hk) (cE_X2 hk) rfl inX2 2 (by decide) rfl q_48 hdg kk
theorem gf_X2_39 {p : Program} {l : Launch} {e : Env} {R : Room} {s : State} {m : MethodId} {args : Array Value} {below : List Frame} {meth : Method} {c : Code} {H : Heap} {locs : List Loc} {cells slots : Nat} {Q : State → Prop} {cc : ByteArray} {nL : Nat} {ret : Option FieldType} {pc : Nat} {ls : Array Slot} {rest : List Value} {D : va_G} {ids : Nat → ClassId} {ad : Nat → Nat} {h : Hp} (C : CX p s m args meth c cc nL ret RX2 D ids) {k : Nat} (hk : isX2 k) (hP : wp D (cEC ids ad) ad 59 h H) (hdg : decode cc pc = .ok (.getfield 39, 3)) (kk : W p l e R s m args below meth c H locs cells slots Q (F0 m (pc + 3) ls (.int (h k 3) :: rest))) : W p l e R s m args below meth c H locs cells slots Q (F0 m pc ls (.ref (ad k) :: rest)) :=
  u_get C hP (lt_X2 hk) (cE_X2 hk) rfl inX2 3 (by decide) rfl q_56 hdg kk
theorem gf_X2_18 {p : Program} {l : Launch} {e : Env} {R : Room} {s : State} {m : MethodId} {args : Array Value} {below : List Frame} {meth : Method} {c : Code} {H : Heap} {locs : List Loc} {cells slots : Nat} {Q : State → Prop} {cc : ByteArray} {nL : Nat} {ret : Option FieldType} {pc : Nat} {ls : Array Slot} {rest : List Value} {D : va_G} {ids : Nat → ClassId} {ad : Nat → Nat} {h : Hp} (C : CX p s m args meth c cc nL ret RX2 D ids) {k : Nat} (hk : isX2 k) (hP : wp D (cEC ids ad) ad 59 h H) (hdg : decode cc pc = .ok (.getfield 18, 3)) (kk : W p l e R s m args below meth c H locs cells slots Q (F0 m (pc + 3) ls (.int (h k 4) :: rest))) : W p l e R s m args below meth c H locs cells slots Q (F0 m pc ls (.ref (ad k) :: rest)) :=
  u_get C hP (lt_X2 hk) (cE_X2 hk) rfl inX2 4 (by decide) rfl q_49 hdg kk
theorem gf_X2_21 {p : Program} {l : Launch} {e : Env} {R : Room} {s : State} {m : MethodId} {args : Array Value} {below : List Frame} {meth : Method} {c : Code} {H : Heap} {locs : List Loc} {cells slots : Nat} {Q : State → Prop} {cc : ByteArray} {nL : Nat} {ret : Option FieldType} {pc : Nat} {ls : Array Slot} {rest : List Value} {D : va_G} {ids : Nat → ClassId} {ad : Nat → Nat} {h : Hp} (C : CX p s m args meth c cc nL ret RX2 D ids) {k : Nat} (hk : isX2 k) (hP : wp D (cEC ids ad) ad 59 h H) (hdg : decode cc pc = .ok (.getfield 21, 3)) (kk : W p l e R s m args below meth c H locs cells slots Q (F0 m (pc + 3) ls (.int (h k 5) :: rest))) : W p l e R s m args below meth c H locs cells slots Q (F0 m pc ls (.ref (ad k) :: rest)) :=
  u_get C hP (lt_X2 hk) (cE_X2 hk) rfl inX2 5 (by decide) rfl q_50 hdg kk
theorem gf_X2_24 {p : Program} {l : Launch} {e : Env} {R : Room} {s : State} {m : MethodId} {args : Array Value} {below : List Frame} {meth : Method} {c : Code} {H : Heap} {locs : List Loc} {cells slots : Nat} {Q : State → Prop} {cc : ByteArray} {nL : Nat} {ret : Option FieldType} {pc : Nat} {ls : Array Slot} {rest : List Value} {D : va_G} {ids : Nat → ClassId} {ad : Nat → Nat} {h : Hp} (C : CX p s m args meth c cc nL ret RX2 D ids) {k : Nat} (hk : isX2 k) (hP : wp D (cEC ids ad) ad 59 h H) (hdg : decode cc pc = .ok (.getfield 24, 3)) (kk : W p l e R s m args below meth c H locs cells slots Q (F0 m (pc + 3) ls (.int (h k 6) :: rest))) : W p l e R s m args below meth c H locs cells slots Q (F0 m pc ls (.ref (ad k) :: rest)) :=
  u_get C hP (lt_X2 hk) (cE_X2 hk) rfl inX2 6 (by decide) rfl q_51 hdg kk
theorem gf_X2_27 {p : Program} {l : Launch} {e : Env} {R : Room} {s : State} {m : MethodId} {args : Array Value} {below : List Frame} {meth : Method} {c : Code} {H : Heap} {locs : List Loc} {cells slots : Nat} {Q : State → Prop} {cc : ByteArray} {nL : Nat} {ret : Option FieldType} {pc : Nat} {ls : Array Slot} {rest : List Value} {D : va_G} {ids : Nat → ClassId} {ad : Nat → Nat} {h : Hp} (C : CX p s m args meth c cc nL ret RX2 D ids) {k : Nat} (hk : isX2 k) (hP : wp D (cEC ids ad) ad 59 h H) (hdg : decode cc pc = .ok (.getfield 27, 3)) (kk : W p l e R s m args below meth c H locs cells slots Q (F0 m (pc + 3) ls (.int (h k 7) :: rest))) : W p l e R s m args below meth c H locs cells slots Q (F0 m pc ls (.ref (ad k) :: rest)) :=
  u_get C hP (lt_X2 hk) (cE_X2 hk) rfl inX2 7 (by decide) rfl q_52 hdg kk
theorem gf_X2_30 {p : Program} {l : Launch} {e : Env} {R : Room} {s : State} {m : MethodId} {args : Array Value} {below : List Frame} {meth : Method} {c : Code} {H : Heap} {locs : List Loc} {cells slots : Nat} {Q : State → Prop} {cc : ByteArray} {nL : Nat} {ret : Option FieldType} {pc : Nat} {ls : Array Slot} {rest : List Value} {D : va_G} {ids : Nat → ClassId} {ad : Nat → Nat} {h : Hp} (C : CX p s m args meth c cc nL ret RX2 D ids) {k : Nat} (hk : isX2 k) (hP : wp D (cEC ids ad) ad 59 h H) (hdg : decode cc pc = .ok (.getfield 30, 3)) (kk : W p l e R s m args below meth c H locs cells slots Q (F0 m (pc + 3) ls (.int (h k 8) :: rest))) : W p l e R s m args below meth c H locs cells slots Q (F0 m pc ls (.ref (ad k) :: rest)) :=
  u_get C hP (lt_X2 hk) (cE_X2 hk) rfl inX2 8 (by decide) rfl q_53 hdg kk
theorem gf_X2_33 {p : Program} {l : Launch} {e : Env} {R : Room} {s : State} {m : MethodId} {args : Array Value} {below : List Frame} {meth : Method} {c : Code} {H : Heap} {locs : List Loc} {cells slots : Nat} {Q : State → Prop} {cc : ByteArray} {nL : Nat} {ret : Option FieldType} {pc : Nat} {ls : Array Slot} {rest : List Value} {D : va_G} {ids : Nat → ClassId} {ad : Nat → Nat} {h : Hp} (C : CX p s m args meth c cc nL ret RX2 D ids) {k : Nat} (hk : isX2 k) (hP : wp D (cEC ids ad) ad 59 h H) (hdg : decode cc pc = .ok (.getfield 33, 3)) (kk : W p l e R s m args below meth c H locs cells slots Q (F0 m (pc + 3) ls (.int (h k 9) :: rest))) : W p l e R s m args below meth c H locs cells slots Q (F0 m pc ls (.ref (ad k) :: rest)) :=
  u_get C hP (lt_X2 hk) (cE_X2 hk) rfl inX2 9 (by decide) rfl q_54 hdg kk
abbrev rm_X2_tell : Room := { frames := 0, cells := 0, slots := 0, locals := 0 }
set_option maxRecDepth 100000 in
set_option maxHeartbeats 4000000 in
theorem w_X2_tell {p : Program} {l : Launch} {e : Env} {s : State} {m : MethodId} {args : Array Value} {below : List Frame} {meth : Method} {c : Code} {D : va_G} {ids : Nat → ClassId} {ad tt : Nat → Nat} {rv : Int32 × Hp} (hA : adOk ad 59) (C : CX p s m args meth c cX2_tell 2 (some .int) RX2 D ids) (hX : (ExC tt ad) s s.heap) {k : Nat} (hk : isX2 k) : ∀ (h : Hp) (a1 : Int32) (H : Heap) (locs : List Loc) (ls : Array Slot), f_X2_tell h k a1 = some rv → wp D (cEC ids ad) ad 59 h H → va_S (inW ad 59) s.heap H locs → lv_has ls 2 [(0, .ref (ad k)), (1, .int a1)] → W p l e rm_X2_tell s m args below meth c H locs 0 0 (MQ below (QW D (cEC ids ad) ad 59 (some (.int rv.1)) rv.2) args s 0 0 (inW ad 59)) (F0 m 0 ls []) := by
  intro h a1 H locs ls hf hP hS hl
  unfold f_X2_tell at hf
  refine lv_iload_n C.1 C.2.1 dX2_tell_0 rfl (lv_at hl 1 rfl) ?_
  by_cases hc0 : a1 = 0
  · have hf := g_t hc0 hf
    refine lv_tableIn (off := 59) (tgt := 60) C.1 C.2.1 dX2_tell_1 (by rw [hc0]; decide) (by rw [hc0]; decide) (by rw [hc0]; rfl) (by decide) ?_
    refine lv_aload_n C.1 C.2.1 dX2_tell_60 rfl (lv_at hl 0 rfl) ?_
    refine gf_X2_36 C hk hP dX2_tell_61 ?_
    obtain rfl := Option.some.inj hf
    exact u_iret C hP hS dX2_tell_64
  · have hf := g_f hc0 hf
    by_cases hc1 : a1 = 1
    · have hf := g_t hc1 hf
      refine lv_tableIn (off := 64) (tgt := 65) C.1 C.2.1 dX2_tell_1 (by rw [hc1]; decide) (by rw [hc1]; decide) (by rw [hc1]; rfl) (by decide) ?_
      refine lv_aload_n C.1 C.2.1 dX2_tell_65 rfl (lv_at hl 0 rfl) ?_
      refine gf_X2_9 C hk hP dX2_tell_66 ?_
      obtain rfl := Option.some.inj hf
      exact u_iret C hP hS dX2_tell_69
    · have hf := g_f hc1 hf
      by_cases hc2 : a1 = 2
      · have hf := g_t hc2 hf
        refine lv_tableIn (off := 69) (tgt := 70) C.1 C.2.1 dX2_tell_1 (by rw [hc2]; decide) (by rw [hc2]; decide) (by rw [hc2]; rfl) (by decide) ?_
        refine lv_aload_n C.1 C.2.1 dX2_tell_70 rfl (lv_at hl 0 rfl) ?_
        refine gf_X2_15 C hk hP dX2_tell_71 ?_
        obtain rfl := Option.some.inj hf
        exact u_iret C hP hS dX2_tell_74
      · have hf := g_f hc2 hf
        by_cases hc3 : a1 = 3
        · have hf := g_t hc3 hf
          refine lv_tableIn (off := 74) (tgt := 75) C.1 C.2.1 dX2_tell_1 (by rw [hc3]; decide) (by rw [hc3]; decide) (by rw [hc3]; rfl) (by decide) ?_
          refine lv_aload_n C.1 C.2.1 dX2_tell_75 rfl (lv_at hl 0 rfl) ?_
          refine gf_X2_39 C hk hP dX2_tell_76 ?_
          obtain rfl := Option.some.inj hf
          exact u_iret C hP hS dX2_tell_79
        · have hf := g_f hc3 hf
          by_cases hc4 : a1 = 4
          · have hf := g_t hc4 hf
            refine lv_tableIn (off := 109) (tgt := 110) C.1 C.2.1 dX2_tell_1 (by rw [hc4]; decide) (by rw [hc4]; decide) (by rw [hc4]; rfl) (by decide) ?_
            refine lv_iconst (v := (0 : Int32)) C.1 C.2.1 dX2_tell_110 (by decide) ?_
            obtain rfl := Option.some.inj hf
            exact u_iret C hP hS dX2_tell_111
          · have hf := g_f hc4 hf
            by_cases hc5 : a1 = 5
            · have hf := g_t hc5 hf
              refine lv_tableIn (off := 79) (tgt := 80) C.1 C.2.1 dX2_tell_1 (by rw [hc5]; decide) (by rw [hc5]; decide) (by rw [hc5]; rfl) (by decide) ?_
              refine lv_aload_n C.1 C.2.1 dX2_tell_80 rfl (lv_at hl 0 rfl) ?_
              refine gf_X2_18 C hk hP dX2_tell_81 ?_
              obtain rfl := Option.some.inj hf
              exact u_iret C hP hS dX2_tell_84
            · have hf := g_f hc5 hf
              by_cases hc6 : a1 = 6
              · have hf := g_t hc6 hf
                refine lv_tableIn (off := 84) (tgt := 85) C.1 C.2.1 dX2_tell_1 (by rw [hc6]; decide) (by rw [hc6]; decide) (by rw [hc6]; rfl) (by decide) ?_
                refine lv_aload_n C.1 C.2.1 dX2_tell_85 rfl (lv_at hl 0 rfl) ?_
                refine gf_X2_21 C hk hP dX2_tell_86 ?_
                obtain rfl := Option.some.inj hf
                exact u_iret C hP hS dX2_tell_89
              · have hf := g_f hc6 hf
                by_cases hc7 : a1 = 7
                · have hf := g_t hc7 hf
                  refine lv_tableIn (off := 89) (tgt := 90) C.1 C.2.1 dX2_tell_1 (by rw [hc7]; decide) (by rw [hc7]; decide) (by rw [hc7]; rfl) (by decide) ?_
                  refine lv_aload_n C.1 C.2.1 dX2_tell_90 rfl (lv_at hl 0 rfl) ?_
                  refine gf_X2_24 C hk hP dX2_tell_91 ?_
                  obtain rfl := Option.some.inj hf
                  exact u_iret C hP hS dX2_tell_94
                · have hf := g_f hc7 hf
                  by_cases hc8 : a1 = 8
                  · have hf := g_t hc8 hf
                    refine lv_tableIn (off := 94) (tgt := 95) C.1 C.2.1 dX2_tell_1 (by rw [hc8]; decide) (by rw [hc8]; decide) (by rw [hc8]; rfl) (by decide) ?_
                    refine lv_aload_n C.1 C.2.1 dX2_tell_95 rfl (lv_at hl 0 rfl) ?_
                    refine gf_X2_27 C hk hP dX2_tell_96 ?_
                    obtain rfl := Option.some.inj hf
                    exact u_iret C hP hS dX2_tell_99
                  · have hf := g_f hc8 hf
                    by_cases hc9 : a1 = 9
                    · have hf := g_t hc9 hf
                      refine lv_tableIn (off := 99) (tgt := 100) C.1 C.2.1 dX2_tell_1 (by rw [hc9]; decide) (by rw [hc9]; decide) (by rw [hc9]; rfl) (by decide) ?_
                      refine lv_aload_n C.1 C.2.1 dX2_tell_100 rfl (lv_at hl 0 rfl) ?_
                      refine gf_X2_30 C hk hP dX2_tell_101 ?_
                      obtain rfl := Option.some.inj hf
                      exact u_iret C hP hS dX2_tell_104
                    · have hf := g_f hc9 hf
                      by_cases hc10 : a1 = 10
                      · have hf := g_t hc10 hf
                        refine lv_tableIn (off := 104) (tgt := 105) C.1 C.2.1 dX2_tell_1 (by rw [hc10]; decide) (by rw [hc10]; decide) (by rw [hc10]; rfl) (by decide) ?_
                        refine lv_aload_n C.1 C.2.1 dX2_tell_105 rfl (lv_at hl 0 rfl) ?_
                        refine gf_X2_33 C hk hP dX2_tell_106 ?_
                        obtain rfl := Option.some.inj hf
                        exact u_iret C hP hS dX2_tell_109
                      · have hf := g_f hc10 hf
                        have hsw : a1.toInt < 0 ∨ 10 < a1.toInt := by
                          have zhc0 := lv_neT hc0 (show (0 : Int32).toInt = 0 by decide)
                          have zhc1 := lv_neT hc1 (show (1 : Int32).toInt = 1 by decide)
                          have zhc2 := lv_neT hc2 (show (2 : Int32).toInt = 2 by decide)
                          have zhc3 := lv_neT hc3 (show (3 : Int32).toInt = 3 by decide)
                          have zhc4 := lv_neT hc4 (show (4 : Int32).toInt = 4 by decide)
                          have zhc5 := lv_neT hc5 (show (5 : Int32).toInt = 5 by decide)
                          have zhc6 := lv_neT hc6 (show (6 : Int32).toInt = 6 by decide)
                          have zhc7 := lv_neT hc7 (show (7 : Int32).toInt = 7 by decide)
                          have zhc8 := lv_neT hc8 (show (8 : Int32).toInt = 8 by decide)
                          have zhc9 := lv_neT hc9 (show (9 : Int32).toInt = 9 by decide)
                          have zhc10 := lv_neT hc10 (show (10 : Int32).toInt = 10 by decide)
                          omega
                        refine lv_tableOut (tgt := 110) C.1 C.2.1 dX2_tell_1 hsw (by decide) ?_
                        refine lv_iconst (v := (0 : Int32)) C.1 C.2.1 dX2_tell_110 (by decide) ?_
                        obtain rfl := Option.some.inj hf
                        exact u_iret C hP hS dX2_tell_111
theorem c_X2_tell (l : Launch) (D : va_G) (ids : Nat → ClassId) (ad tt : Nat → Nat) (hA : adOk ad 59) {k : Nat} (hk : isX2 k) {a1 : Int32} {h : Hp} {rv : Int32 × Hp} (hf : f_X2_tell h k a1 = some rv) : Met l yX2_tell (ws_ yX2_tell cX2_tell 2 (some .int)) rm_X2_tell (va_Pc [.ref (ad k), .int a1] (WB D ids (cEC ids ad) ad 59 (ExC tt ad) h)) (QW D (cEC ids ad) ad 59 (some (.int rv.1)) rv.2) 0 0 (inW ad 59) :=
  u_met (own := RX2) (by decide) rfl (Nat.le_of_ble_eq_true rfl) rfl (fun p e s m args below meth c H ls C hX hP hS hl => w_X2_tell (tt := tt) hA C hX hk _ _ _ _ _ hf hP hS hl)
theorem gf_X5_14 {p : Program} {l : Launch} {e : Env} {R : Room} {s : State} {m : MethodId} {args : Array Value} {below : List Frame} {meth : Method} {c : Code} {H : Heap} {locs : List Loc} {cells slots : Nat} {Q : State → Prop} {cc : ByteArray} {nL : Nat} {ret : Option FieldType} {pc : Nat} {ls : Array Slot} {rest : List Value} {D : va_G} {ids : Nat → ClassId} {ad : Nat → Nat} {h : Hp} (C : CX p s m args meth c cc nL ret RX5 D ids) {k : Nat} (hk : isX5 k) (hP : wp D (cEC ids ad) ad 59 h H) (hdg : decode cc pc = .ok (.getfield 14, 3)) (kk : W p l e R s m args below meth c H locs cells slots Q (F0 m (pc + 3) ls (.ref (ad (k + 1)) :: rest))) : W p l e R s m args below meth c H locs cells slots Q (F0 m pc ls (.ref (ad k) :: rest)) :=
  u_get C hP (lt_X5 hk) (cE_X5 hk) rfl inX5 0 (by decide) rfl q_36 hdg kk
theorem ln_aCap {p : Program} {l : Launch} {e : Env} {R : Room} {s : State} {m : MethodId} {args : Array Value} {below : List Frame} {meth : Method} {c : Code} {H : Heap} {locs : List Loc} {cells slots : Nat} {Q : State → Prop} {cc : ByteArray} {nL : Nat} {ret : Option FieldType} {own : String} {pc : Nat} {ls : Array Slot} {rest : List Value} {D : va_G} {ids : Nat → ClassId} {ad : Nat → Nat} {h : Hp} (C : CX p s m args meth c cc nL ret own D ids) {k : Nat} (hk : isaCap k) (hP : wp D (cEC ids ad) ad 59 h H) (hdg : decode cc pc = .ok (.arraylength, 1)) (kk : W p l e R s m args below meth c H locs cells slots Q (F0 m (pc + 1) ls (.int (3 : Int32) :: rest))) : W p l e R s m args below meth c H locs cells slots Q (F0 m pc ls (.ref (ad k) :: rest)) :=
  u_alen C hP 2 rfl (lt_aCap hk) ((cE_aCap hk) _) rfl hdg kk
theorem cv_X5_39 {p : Program} {l : Launch} {e : Env} {R : Room} {s : State} {m : MethodId} {args : Array Value} {below : List Frame} {meth : Method} {c : Code} {H : Heap} {locs : List Loc} {Q : State → Prop} {cc : ByteArray} {nL : Nat} {ret : Option FieldType} {pc : Nat} {ls : Array Slot} {rest : List Value} {D : va_G} {ids : Nat → ClassId} {ad tt : Nat → Nat} {h : Hp} (hA : adOk ad 59) (C : CX p s m args meth c cc nL ret RX5 D ids) (hX : (ExC tt ad) s s.heap) (hP : wp D (cEC ids ad) ad 59 h H) (hS : va_S (inW ad 59) s.heap H locs) {k : Nat} (hk : isX2 k) {a1 : Int32} {rv : Int32 × Hp} (hf : f_X2_tell h k a1 = some rv) (hR : 0 + 1 ≤ R.frames ∧ 8 + (2 + 11) + 0 ≤ R.locals) (hsz : ls.size = nL) (hcat : (rest.map fun v => v.category).sum ≤ 8) (hdg : decode cc pc = .ok (.invokevirtual 39, 3)) (kk : ∀ (H1 : Heap) (locs1 : List Loc), wp D (cEC ids ad) ad 59 rv.2 H1 → va_S (inW ad 59) s.heap H1 locs1 → W p l e R s m args below meth c H1 locs1 0 0 Q (F0 m (pc + 3) ls (.int rv.1 :: rest))) : W p l e R s m args below meth c H locs 0 0 Q (F0 m pc ls (.int a1 :: .ref (ad k) :: rest)) :=
  u_callV (As := [.int a1]) (rv := (some (.int rv.1))) C (exC_ok hA) hX (c_X2_tell l D ids ad tt hA hk hf) q_194 q_195 q_196 q_35 q_197 ⟨rfl, rfl⟩ (by refine ⟨by decide +kernel, by decide +kernel, ?_⟩; show _ = some 1; decide +kernel) hR (lt_X2 hk) (cE_X2 hk _) rfl hP hS hsz hcat rfl hdg kk
abbrev rm_X5_sumOf : Room := { frames := 1, cells := 0, slots := 0, locals := 21 }
set_option maxRecDepth 100000 in
set_option maxHeartbeats 4000000 in
theorem w_X5_sumOf_14 {p : Program} {l : Launch} {e : Env} {s : State} {m : MethodId} {args : Array Value} {below : List Frame} {meth : Method} {c : Code} {D : va_G} {ids : Nat → ClassId} {ad tt : Nat → Nat} {rv : Int32 × Hp} (hA : adOk ad 59) (C : CX p s m args meth c cX5_sumOf 7 (some .int) RX5 D ids) (hX : (ExC tt ad) s s.heap) {k : Nat} (hk : isX5 k) : ∀ (fu : Nat), ∀ (h : Hp) (x1 : Int32) (x2 : Int32) (x4 : Int32) (x5 : Int32) (H : Heap) (locs : List Loc) (ls : Array Slot), f_X5_sumOf_14 k fu h x1 x2 x4 x5 = some rv → wp D (cEC ids ad) ad 59 h H → va_S (inW ad 59) s.heap H locs → lv_has ls 7 [(1, .int x1), (2, .int x2), (3, .ref (ad (k + 1))), (4, .int x4), (5, .int x5)] → W p l e rm_X5_sumOf s m args below meth c H locs 0 0 (MQ below (QW D (cEC ids ad) ad 59 (some (.int rv.1)) rv.2) args s 0 0 (inW ad 59)) (F0 m 14 ls []) := by
  intro fu
  induction fu with
  | zero =>
    intro h x1 x2 x4 x5 H locs ls hf hP hS hl
    cases hf
  | succ fu ih =>
    intro h x1 x2 x4 x5 H locs ls hf hP hS hl
    rw [f_X5_sumOf_14_s] at hf
    refine lv_iload C.1 C.2.1 dX5_sumOf_14 (lv_at hl 4 rfl) ?_
    refine lv_iload C.1 C.2.1 dX5_sumOf_16 (lv_at hl 3 rfl) ?_
    refine lv_icmp_ge (tgt := 42) C.1 C.2.1 dX5_sumOf_18 (by decide) (fun hc => ?_) (fun hc => ?_)
    · have hf := g_t hc hf
      refine lv_iload_n C.1 C.2.1 dX5_sumOf_42 rfl (lv_at hl 1 rfl) ?_
      obtain rfl := Option.some.inj hf
      exact u_iret C hP hS dX5_sumOf_43
    · have hf := g_f hc hf
      refine lv_aload_n C.1 C.2.1 dX5_sumOf_21 rfl (lv_at hl 2 rfl) ?_
      refine lv_iload C.1 C.2.1 dX5_sumOf_22 (lv_at hl 4 rfl) ?_
      obtain ⟨hg1, hf⟩ := g_if hf
      refine rl_aCap C (cap_of hk) hP hg1 dX5_sumOf_24 ?_
      refine lv_astore (lv' := [(6, .ref (ad ((k + 1) + 1 + x5.toNatClampNeg))), (1, .int x1), (2, .int x2), (3, .ref (ad (k + 1))), (4, .int x4), (5, .int x5)]) C.1 C.2.1 dX5_sumOf_25 hl (by decide) rfl (fun ls hl => ?_)
      refine lv_iload_n C.1 C.2.1 dX5_sumOf_27 rfl (lv_at hl 2 rfl) ?_
      refine lv_aload C.1 C.2.1 dX5_sumOf_28 (lv_at hl 0 rfl) ?_
      refine lv_iload_n C.1 C.2.1 dX5_sumOf_30 rfl (lv_at hl 1 rfl) ?_
      obtain ⟨q2, eq2, hf⟩ := g_b hf
      refine cv_X5_39 hA C hX hP hS (cp_el (cap_of hk) hg1) eq2 ⟨Nat.le_of_ble_eq_true rfl, Nat.le_of_ble_eq_true rfl⟩ hl.1 (Nat.le_of_ble_eq_true rfl) dX5_sumOf_31 (fun H locs hP hS => ?_)
      refine lv_iadd C.1 C.2.1 dX5_sumOf_34 ?_
      refine lv_istore_n (lv' := [(2, .int (x2 + q2.1)), (6, .ref (ad ((k + 1) + 1 + x5.toNatClampNeg))), (1, .int x1), (3, .ref (ad (k + 1))), (4, .int x4), (5, .int x5)]) C.1 C.2.1 dX5_sumOf_35 rfl hl (by decide) rfl (fun ls hl => ?_)
      refine lv_iinc (v := (x5 + 1)) (lv' := [(5, .int (x5 + 1)), (2, .int (x2 + q2.1)), (6, .ref (ad ((k + 1) + 1 + x5.toNatClampNeg))), (1, .int x1), (3, .ref (ad (k + 1))), (4, .int x4)]) C.1 C.2.1 dX5_sumOf_36 hl (k := 5) rfl (by rfl) (by decide) rfl (fun ls hl => ?_)
      refine lv_goto (tgt := 14) C.1 C.2.1 dX5_sumOf_39 (by decide) ?_
      exact ih _ _ _ _ _ _ _ _ hf hP hS (lv_sub hl [3, 1, 4, 5, 0] rfl)
set_option maxRecDepth 100000 in
set_option maxHeartbeats 4000000 in
theorem w_X5_sumOf {p : Program} {l : Launch} {e : Env} {s : State} {m : MethodId} {args : Array Value} {below : List Frame} {meth : Method} {c : Code} {D : va_G} {ids : Nat → ClassId} {ad tt : Nat → Nat} {rv : Int32 × Hp} (hA : adOk ad 59) (C : CX p s m args meth c cX5_sumOf 7 (some .int) RX5 D ids) (hX : (ExC tt ad) s s.heap) {k : Nat} (hk : isX5 k) : ∀ (h : Hp) (a1 : Int32) (H : Heap) (locs : List Loc) (ls : Array Slot), f_X5_sumOf h k a1 = some rv → wp D (cEC ids ad) ad 59 h H → va_S (inW ad 59) s.heap H locs → lv_has ls 7 [(0, .ref (ad k)), (1, .int a1)] → W p l e rm_X5_sumOf s m args below meth c H locs 0 0 (MQ below (QW D (cEC ids ad) ad 59 (some (.int rv.1)) rv.2) args s 0 0 (inW ad 59)) (F0 m 0 ls []) := by
  intro h a1 H locs ls hf hP hS hl
  unfold f_X5_sumOf at hf
  refine lv_iconst (v := (0 : Int32)) C.1 C.2.1 dX5_sumOf_0 (by decide) ?_
  refine lv_istore_n (lv' := [(2, .int (0 : Int32)), (0, .ref (ad k)), (1, .int a1)]) C.1 C.2.1 dX5_sumOf_1 rfl hl (by decide) rfl (fun ls hl => ?_)
  refine lv_aload_n C.1 C.2.1 dX5_sumOf_2 rfl (lv_at hl 1 rfl) ?_
  refine gf_X5_14 C hk hP dX5_sumOf_3 ?_
  refine lv_astore_n (lv' := [(3, .ref (ad (k + 1))), (2, .int (0 : Int32)), (0, .ref (ad k)), (1, .int a1)]) C.1 C.2.1 dX5_sumOf_6 rfl hl (by decide) rfl (fun ls hl => ?_)
  refine lv_aload_n C.1 C.2.1 dX5_sumOf_7 rfl (lv_at hl 0 rfl) ?_
  refine ln_aCap C (cap_of hk) hP dX5_sumOf_8 ?_
  refine lv_istore (lv' := [(4, .int (3 : Int32)), (3, .ref (ad (k + 1))), (2, .int (0 : Int32)), (0, .ref (ad k)), (1, .int a1)]) C.1 C.2.1 dX5_sumOf_9 hl (by decide) rfl (fun ls hl => ?_)
  refine lv_iconst (v := (0 : Int32)) C.1 C.2.1 dX5_sumOf_11 (by decide) ?_
  refine lv_istore (lv' := [(5, .int (0 : Int32)), (4, .int (3 : Int32)), (3, .ref (ad (k + 1))), (2, .int (0 : Int32)), (0, .ref (ad k)), (1, .int a1)]) C.1 C.2.1 dX5_sumOf_12 hl (by decide) rfl (fun ls hl => ?_)
  exact w_X5_sumOf_14 hA C hX hk _ _ _ _ _ _ _ _ _ hf hP hS (lv_sub hl [5, 3, 2, 1, 0] rfl)
theorem c_X5_sumOf (l : Launch) (D : va_G) (ids : Nat → ClassId) (ad tt : Nat → Nat) (hA : adOk ad 59) {k : Nat} (hk : isX5 k) {a1 : Int32} {h : Hp} {rv : Int32 × Hp} (hf : f_X5_sumOf h k a1 = some rv) : Met l yX5_sumOf (ws_ yX5_sumOf cX5_sumOf 7 (some .int)) rm_X5_sumOf (va_Pc [.ref (ad k), .int a1] (WB D ids (cEC ids ad) ad 59 (ExC tt ad) h)) (QW D (cEC ids ad) ad 59 (some (.int rv.1)) rv.2) 0 0 (inW ad 59) :=
  u_met (own := RX5) (by decide) rfl (Nat.le_of_ble_eq_true rfl) rfl (fun p e s m args below meth c H ls C hX hP hS hl => w_X5_sumOf (tt := tt) hA C hX hk _ _ _ _ _ hf hP hS hl)
theorem gf_X5_24 {p : Program} {l : Launch} {e : Env} {R : Room} {s : State} {m : MethodId} {args : Array Value} {below : List Frame} {meth : Method} {c : Code} {H : Heap} {locs : List Loc} {cells slots : Nat} {Q : State → Prop} {cc : ByteArray} {nL : Nat} {ret : Option FieldType} {pc : Nat} {ls : Array Slot} {rest : List Value} {D : va_G} {ids : Nat → ClassId} {ad : Nat → Nat} {h : Hp} (C : CX p s m args meth c cc nL ret RX5 D ids) {k : Nat} (hk : isX5 k) (hP : wp D (cEC ids ad) ad 59 h H) (hdg : decode cc pc = .ok (.getfield 24, 3)) (kk : W p l e R s m args below meth c H locs cells slots Q (F0 m (pc + 3) ls (.int (h k 2) :: rest))) : W p l e R s m args below meth c H locs cells slots Q (F0 m pc ls (.ref (ad k) :: rest)) :=
  u_get C hP (lt_X5 hk) (cE_X5 hk) rfl inX5 2 (by decide) rfl q_38 hdg kk
theorem gf_X5_20 {p : Program} {l : Launch} {e : Env} {R : Room} {s : State} {m : MethodId} {args : Array Value} {below : List Frame} {meth : Method} {c : Code} {H : Heap} {locs : List Loc} {cells slots : Nat} {Q : State → Prop} {cc : ByteArray} {nL : Nat} {ret : Option FieldType} {pc : Nat} {ls : Array Slot} {rest : List Value} {D : va_G} {ids : Nat → ClassId} {ad : Nat → Nat} {h : Hp} (C : CX p s m args meth c cc nL ret RX5 D ids) {k : Nat} (hk : isX5 k) (hP : wp D (cEC ids ad) ad 59 h H) (hdg : decode cc pc = .ok (.getfield 20, 3)) (kk : W p l e R s m args below meth c H locs cells slots Q (F0 m (pc + 3) ls (.int (h k 1) :: rest))) : W p l e R s m args below meth c H locs cells slots Q (F0 m pc ls (.ref (ad k) :: rest)) :=
  u_get C hP (lt_X5 hk) (cE_X5 hk) rfl inX5 1 (by decide) rfl q_37 hdg kk
abbrev rm_X5_tellSetting : Room := { frames := 0, cells := 0, slots := 0, locals := 0 }
set_option maxRecDepth 100000 in
set_option maxHeartbeats 4000000 in
theorem w_X5_tellSetting {p : Program} {l : Launch} {e : Env} {s : State} {m : MethodId} {args : Array Value} {below : List Frame} {meth : Method} {c : Code} {D : va_G} {ids : Nat → ClassId} {ad tt : Nat → Nat} {rv : Int32 × Hp} (hA : adOk ad 59) (C : CX p s m args meth c cX5_tellSetting 2 (some .int) RX5 D ids) (hX : (ExC tt ad) s s.heap) {k : Nat} (hk : isX5 k) : ∀ (h : Hp) (a1 : Int32) (H : Heap) (locs : List Loc) (ls : Array Slot), f_X5_tellSetting h k a1 = some rv → wp D (cEC ids ad) ad 59 h H → va_S (inW ad 59) s.heap H locs → lv_has ls 2 [(0, .ref (ad k)), (1, .int a1)] → W p l e rm_X5_tellSetting s m args below meth c H locs 0 0 (MQ below (QW D (cEC ids ad) ad 59 (some (.int rv.1)) rv.2) args s 0 0 (inW ad 59)) (F0 m 0 ls []) := by
  intro h a1 H locs ls hf hP hS hl
  unfold f_X5_tellSetting at hf
  refine lv_iload_n C.1 C.2.1 dX5_tellSetting_0 rfl (lv_at hl 1 rfl) ?_
  refine lv_if_ne (tgt := 11) C.1 C.2.1 dX5_tellSetting_1 (by decide) (fun hc => ?_) (fun hc => ?_)
  · have hf := g_f hc hf
    refine lv_aload_n C.1 C.2.1 dX5_tellSetting_11 rfl (lv_at hl 0 rfl) ?_
    refine gf_X5_24 C hk hP dX5_tellSetting_12 ?_
    obtain rfl := Option.some.inj hf
    exact u_iret C hP hS dX5_tellSetting_15
  · have hf := g_t hc hf
    refine lv_aload_n C.1 C.2.1 dX5_tellSetting_4 rfl (lv_at hl 0 rfl) ?_
    refine gf_X5_20 C hk hP dX5_tellSetting_5 ?_
    refine lv_goto (tgt := 15) C.1 C.2.1 dX5_tellSetting_8 (by decide) ?_
    obtain rfl := Option.some.inj hf
    exact u_iret C hP hS dX5_tellSetting_15
theorem c_X5_tellSetting (l : Launch) (D : va_G) (ids : Nat → ClassId) (ad tt : Nat → Nat) (hA : adOk ad 59) {k : Nat} (hk : isX5 k) {a1 : Int32} {h : Hp} {rv : Int32 × Hp} (hf : f_X5_tellSetting h k a1 = some rv) : Met l yX5_tellSetting (ws_ yX5_tellSetting cX5_tellSetting 2 (some .int)) rm_X5_tellSetting (va_Pc [.ref (ad k), .int a1] (WB D ids (cEC ids ad) ad 59 (ExC tt ad) h)) (QW D (cEC ids ad) ad 59 (some (.int rv.1)) rv.2) 0 0 (inW ad 59) :=
  u_met (own := RX5) (by decide) rfl (Nat.le_of_ble_eq_true rfl) rfl (fun p e s m args below meth c H ls C hX hP hS hl => w_X5_tellSetting (tt := tt) hA C hX hk _ _ _ _ _ hf hP hS hl)
theorem gf_X7_12 {p : Program} {l : Launch} {e : Env} {R : Room} {s : State} {m : MethodId} {args : Array Value} {below : List Frame} {meth : Method} {c : Code} {H : Heap} {locs : List Loc} {cells slots : Nat} {Q : State → Prop} {cc : ByteArray} {nL : Nat} {ret : Option FieldType} {pc : Nat} {ls : Array Slot} {rest : List Value} {D : va_G} {ids : Nat → ClassId} {ad : Nat → Nat} {h : Hp} (C : CX p s m args meth c cc nL ret RX7 D ids) (hP : wp D (cEC ids ad) ad 59 h H) (hdg : decode cc pc = .ok (.getfield 12, 3)) (kk : W p l e R s m args below meth c H locs cells slots Q (F0 m (pc + 3) ls (.ref (ad 1) :: rest))) : W p l e R s m args below meth c H locs cells slots Q (F0 m pc ls (.ref (ad 0) :: rest)) :=
  u_get C hP (by decide) cE_X7 rfl inX7 0 (by decide) rfl q_12 hdg kk
theorem gf_X7_107 {p : Program} {l : Launch} {e : Env} {R : Room} {s : State} {m : MethodId} {args : Array Value} {below : List Frame} {meth : Method} {c : Code} {H : Heap} {locs : List Loc} {cells slots : Nat} {Q : State → Prop} {cc : ByteArray} {nL : Nat} {ret : Option FieldType} {pc : Nat} {ls : Array Slot} {rest : List Value} {D : va_G} {ids : Nat → ClassId} {ad : Nat → Nat} {h : Hp} (C : CX p s m args meth c cc nL ret RX7 D ids) {k : Nat} (hk : isX5 k) (hP : wp D (cEC ids ad) ad 59 h H) (hdg : decode cc pc = .ok (.getfield 107, 3)) (kk : W p l e R s m args below meth c H locs cells slots Q (F0 m (pc + 3) ls (.int (h k 6) :: rest))) : W p l e R s m args below meth c H locs cells slots Q (F0 m pc ls (.ref (ad k) :: rest)) :=
  u_get C hP (lt_X5 hk) (cE_X5 hk) rfl inX5 6 (by decide) rfl q_119 hdg kk
theorem gf_X7_91 {p : Program} {l : Launch} {e : Env} {R : Room} {s : State} {m : MethodId} {args : Array Value} {below : List Frame} {meth : Method} {c : Code} {H : Heap} {locs : List Loc} {cells slots : Nat} {Q : State → Prop} {cc : ByteArray} {nL : Nat} {ret : Option FieldType} {pc : Nat} {ls : Array Slot} {rest : List Value} {D : va_G} {ids : Nat → ClassId} {ad : Nat → Nat} {h : Hp} (C : CX p s m args meth c cc nL ret RX7 D ids) {k : Nat} (hk : isX5 k) (hP : wp D (cEC ids ad) ad 59 h H) (hdg : decode cc pc = .ok (.getfield 91, 3)) (kk : W p l e R s m args below meth c H locs cells slots Q (F0 m (pc + 3) ls (.int (h k 3) :: rest))) : W p l e R s m args below meth c H locs cells slots Q (F0 m pc ls (.ref (ad k) :: rest)) :=
  u_get C hP (lt_X5 hk) (cE_X5 hk) rfl inX5 3 (by decide) rfl q_120 hdg kk
theorem gf_X7_104 {p : Program} {l : Launch} {e : Env} {R : Room} {s : State} {m : MethodId} {args : Array Value} {below : List Frame} {meth : Method} {c : Code} {H : Heap} {locs : List Loc} {cells slots : Nat} {Q : State → Prop} {cc : ByteArray} {nL : Nat} {ret : Option FieldType} {pc : Nat} {ls : Array Slot} {rest : List Value} {D : va_G} {ids : Nat → ClassId} {ad : Nat → Nat} {h : Hp} (C : CX p s m args meth c cc nL ret RX7 D ids) {k : Nat} (hk : isX5 k) (hP : wp D (cEC ids ad) ad 59 h H) (hdg : decode cc pc = .ok (.getfield 104, 3)) (kk : W p l e R s m args below meth c H locs cells slots Q (F0 m (pc + 3) ls (.int (h k 4) :: rest))) : W p l e R s m args below meth c H locs cells slots Q (F0 m pc ls (.ref (ad k) :: rest)) :=
  u_get C hP (lt_X5 hk) (cE_X5 hk) rfl inX5 4 (by decide) rfl q_121 hdg kk
theorem gf_X7_44 {p : Program} {l : Launch} {e : Env} {R : Room} {s : State} {m : MethodId} {args : Array Value} {below : List Frame} {meth : Method} {c : Code} {H : Heap} {locs : List Loc} {cells slots : Nat} {Q : State → Prop} {cc : ByteArray} {nL : Nat} {ret : Option FieldType} {pc : Nat} {ls : Array Slot} {rest : List Value} {D : va_G} {ids : Nat → ClassId} {ad : Nat → Nat} {h : Hp} (C : CX p s m args meth c cc nL ret RX7 D ids) (hP : wp D (cEC ids ad) ad 59 h H) (hdg : decode cc pc = .ok (.getfield 44, 3)) (kk : W p l e R s m args below meth c H locs cells slots Q (F0 m (pc + 3) ls (.ref (ad 39) :: rest))) : W p l e R s m args below meth c H locs cells slots Q (F0 m pc ls (.ref (ad 0) :: rest)) :=
  u_get C hP (by decide) cE_X7 rfl inX7 7 (by decide) rfl q_25 hdg kk
theorem cv_X7_155 {p : Program} {l : Launch} {e : Env} {R : Room} {s : State} {m : MethodId} {args : Array Value} {below : List Frame} {meth : Method} {c : Code} {H : Heap} {locs : List Loc} {Q : State → Prop} {cc : ByteArray} {nL : Nat} {ret : Option FieldType} {pc : Nat} {ls : Array Slot} {rest : List Value} {D : va_G} {ids : Nat → ClassId} {ad tt : Nat → Nat} {h : Hp} (hA : adOk ad 59) (C : CX p s m args meth c cc nL ret RX7 D ids) (hX : (ExC tt ad) s s.heap) (hP : wp D (cEC ids ad) ad 59 h H) (hS : va_S (inW ad 59) s.heap H locs) {k1 : Nat} (hk1 : isX5 k1) {rv : Hp} (hf : f_X1_print h k1 = some rv) (hR : 3 + 1 ≤ R.frames ∧ 8 + (3 + 11) + 66 ≤ R.locals) (hsz : ls.size = nL) (hcat : (rest.map fun v => v.category).sum ≤ 8) (hdg : decode cc pc = .ok (.invokevirtual 155, 3)) (kk : ∀ (H1 : Heap) (locs1 : List Loc), wp D (cEC ids ad) ad 59 rv H1 → va_S (inW ad 59) s.heap H1 locs1 → W p l e R s m args below meth c H1 locs1 0 0 Q (F0 m (pc + 3) ls (rest))) : W p l e R s m args below meth c H locs 0 0 Q (F0 m pc ls (.ref (ad k1) :: .ref (ad 39) :: rest)) :=
  u_callV (As := [.ref (ad k1)]) (rv := none) C (exC_ok hA) hX (c_X1_print l D ids ad tt hA hk1 hf) q_124 q_125 q_126 q_24 q_127 ⟨rfl, rfl⟩ (by refine ⟨by decide +kernel, by decide +kernel, ?_⟩; show _ = some 1; decide +kernel) hR (by decide) (cE_X1 _) rfl hP hS hsz hcat rfl hdg kk
theorem cv_X7_173 {p : Program} {l : Launch} {e : Env} {R : Room} {s : State} {m : MethodId} {args : Array Value} {below : List Frame} {meth : Method} {c : Code} {H : Heap} {locs : List Loc} {Q : State → Prop} {cc : ByteArray} {nL : Nat} {ret : Option FieldType} {pc : Nat} {ls : Array Slot} {rest : List Value} {D : va_G} {ids : Nat → ClassId} {ad tt : Nat → Nat} {h : Hp} (hA : adOk ad 59) (C : CX p s m args meth c cc nL ret RX7 D ids) (hX : (ExC tt ad) s s.heap) (hP : wp D (cEC ids ad) ad 59 h H) (hS : va_S (inW ad 59) s.heap H locs) {rv : Int32 × Hp} (hf : f_X1_clashes h = some rv) (hR : 2 + 1 ≤ R.frames ∧ 8 + (3 + 11) + 42 ≤ R.locals) (hsz : ls.size = nL) (hcat : (rest.map fun v => v.category).sum ≤ 8) (hdg : decode cc pc = .ok (.invokevirtual 173, 3)) (kk : ∀ (H1 : Heap) (locs1 : List Loc), wp D (cEC ids ad) ad 59 rv.2 H1 → va_S (inW ad 59) s.heap H1 locs1 → W p l e R s m args below meth c H1 locs1 0 0 Q (F0 m (pc + 3) ls (.int rv.1 :: rest))) : W p l e R s m args below meth c H locs 0 0 Q (F0 m pc ls (.ref (ad 39) :: rest)) :=
  u_callV (As := []) (rv := (some (.int rv.1))) C (exC_ok hA) hX (c_X1_clashes l D ids ad tt hA hf) q_167 q_168 q_169 q_24 q_170 ⟨rfl, rfl⟩ (by refine ⟨by decide +kernel, by decide +kernel, ?_⟩; show _ = some 0; decide +kernel) hR (by decide) (cE_X1 _) rfl hP hS hsz hcat rfl hdg kk
theorem cv_X7_177 {p : Program} {l : Launch} {e : Env} {R : Room} {s : State} {m : MethodId} {args : Array Value} {below : List Frame} {meth : Method} {c : Code} {H : Heap} {locs : List Loc} {Q : State → Prop} {cc : ByteArray} {nL : Nat} {ret : Option FieldType} {pc : Nat} {ls : Array Slot} {rest : List Value} {D : va_G} {ids : Nat → ClassId} {ad tt : Nat → Nat} {h : Hp} (hA : adOk ad 59) (C : CX p s m args meth c cc nL ret RX7 D ids) (hX : (ExC tt ad) s s.heap) (hP : wp D (cEC ids ad) ad 59 h H) (hS : va_S (inW ad 59) s.heap H locs) {rv : Int32 × Hp} (hf : f_X1_crossings h = some rv) (hR : 0 + 1 ≤ R.frames ∧ 8 + (6 + 11) + 0 ≤ R.locals) (hsz : ls.size = nL) (hcat : (rest.map fun v => v.category).sum ≤ 8) (hdg : decode cc pc = .ok (.invokevirtual 177, 3)) (kk : ∀ (H1 : Heap) (locs1 : List Loc), wp D (cEC ids ad) ad 59 rv.2 H1 → va_S (inW ad 59) s.heap H1 locs1 → W p l e R s m args below meth c H1 locs1 0 0 Q (F0 m (pc + 3) ls (.int rv.1 :: rest))) : W p l e R s m args below meth c H locs 0 0 Q (F0 m pc ls (.ref (ad 39) :: rest)) :=
  u_callV (As := []) (rv := (some (.int rv.1))) C (exC_ok hA) hX (c_X1_crossings l D ids ad tt hA hf) q_186 q_187 q_188 q_24 q_189 ⟨rfl, rfl⟩ (by refine ⟨by decide +kernel, by decide +kernel, ?_⟩; show _ = some 0; decide +kernel) hR (by decide) (cE_X1 _) rfl hP hS hsz hcat rfl hdg kk
theorem cv_X7_179 {p : Program} {l : Launch} {e : Env} {R : Room} {s : State} {m : MethodId} {args : Array Value} {below : List Frame} {meth : Method} {c : Code} {H : Heap} {locs : List Loc} {Q : State → Prop} {cc : ByteArray} {nL : Nat} {ret : Option FieldType} {pc : Nat} {ls : Array Slot} {rest : List Value} {D : va_G} {ids : Nat → ClassId} {ad tt : Nat → Nat} {h : Hp} (hA : adOk ad 59) (C : CX p s m args meth c cc nL ret RX7 D ids) (hX : (ExC tt ad) s s.heap) (hP : wp D (cEC ids ad) ad 59 h H) (hS : va_S (inW ad 59) s.heap H locs) {k : Nat} (hk : isX5 k) {a1 : Int32} {rv : Int32 × Hp} (hf : f_X5_sumOf h k a1 = some rv) (hR : 1 + 1 ≤ R.frames ∧ 8 + (7 + 11) + 21 ≤ R.locals) (hsz : ls.size = nL) (hcat : (rest.map fun v => v.category).sum ≤ 8) (hdg : decode cc pc = .ok (.invokevirtual 179, 3)) (kk : ∀ (H1 : Heap) (locs1 : List Loc), wp D (cEC ids ad) ad 59 rv.2 H1 → va_S (inW ad 59) s.heap H1 locs1 → W p l e R s m args below meth c H1 locs1 0 0 Q (F0 m (pc + 3) ls (.int rv.1 :: rest))) : W p l e R s m args below meth c H locs 0 0 Q (F0 m pc ls (.int a1 :: .ref (ad k) :: rest)) :=
  u_callV (As := [.int a1]) (rv := (some (.int rv.1))) C (exC_ok hA) hX (c_X5_sumOf l D ids ad tt hA hk hf) q_190 q_191 q_192 q_11 q_193 ⟨rfl, rfl⟩ (by refine ⟨by decide +kernel, by decide +kernel, ?_⟩; show _ = some 1; decide +kernel) hR (lt_X5 hk) (cE_X5 hk _) rfl hP hS hsz hcat rfl hdg kk
theorem gf_X7_180 {p : Program} {l : Launch} {e : Env} {R : Room} {s : State} {m : MethodId} {args : Array Value} {below : List Frame} {meth : Method} {c : Code} {H : Heap} {locs : List Loc} {cells slots : Nat} {Q : State → Prop} {cc : ByteArray} {nL : Nat} {ret : Option FieldType} {pc : Nat} {ls : Array Slot} {rest : List Value} {D : va_G} {ids : Nat → ClassId} {ad : Nat → Nat} {h : Hp} (C : CX p s m args meth c cc nL ret RX7 D ids) {k : Nat} (hk : isX5 k) (hP : wp D (cEC ids ad) ad 59 h H) (hdg : decode cc pc = .ok (.getfield 180, 3)) (kk : W p l e R s m args below meth c H locs cells slots Q (F0 m (pc + 3) ls (.int (h k 5) :: rest))) : W p l e R s m args below meth c H locs cells slots Q (F0 m pc ls (.ref (ad k) :: rest)) :=
  u_get C hP (lt_X5 hk) (cE_X5 hk) rfl inX5 5 (by decide) rfl q_122 hdg kk
theorem gf_X7_27 {p : Program} {l : Launch} {e : Env} {R : Room} {s : State} {m : MethodId} {args : Array Value} {below : List Frame} {meth : Method} {c : Code} {H : Heap} {locs : List Loc} {cells slots : Nat} {Q : State → Prop} {cc : ByteArray} {nL : Nat} {ret : Option FieldType} {pc : Nat} {ls : Array Slot} {rest : List Value} {D : va_G} {ids : Nat → ClassId} {ad : Nat → Nat} {h : Hp} (C : CX p s m args meth c cc nL ret RX7 D ids) (hP : wp D (cEC ids ad) ad 59 h H) (hdg : decode cc pc = .ok (.getfield 27, 3)) (kk : W p l e R s m args below meth c H locs cells slots Q (F0 m (pc + 3) ls (.int (h 0 4) :: rest))) : W p l e R s m args below meth c H locs cells slots Q (F0 m pc ls (.ref (ad 0) :: rest)) :=
  u_get C hP (by decide) cE_X7 rfl inX7 4 (by decide) rfl q_16 hdg kk
theorem gf_X7_34 {p : Program} {l : Launch} {e : Env} {R : Room} {s : State} {m : MethodId} {args : Array Value} {below : List Frame} {meth : Method} {c : Code} {H : Heap} {locs : List Loc} {cells slots : Nat} {Q : State → Prop} {cc : ByteArray} {nL : Nat} {ret : Option FieldType} {pc : Nat} {ls : Array Slot} {rest : List Value} {D : va_G} {ids : Nat → ClassId} {ad : Nat → Nat} {h : Hp} (C : CX p s m args meth c cc nL ret RX7 D ids) (hP : wp D (cEC ids ad) ad 59 h H) (hdg : decode cc pc = .ok (.getfield 34, 3)) (kk : W p l e R s m args below meth c H locs cells slots Q (F0 m (pc + 3) ls (.ref (ad 37) :: rest))) : W p l e R s m args below meth c H locs cells slots Q (F0 m pc ls (.ref (ad 0) :: rest)) :=
  u_get C hP (by decide) cE_X7 rfl inX7 5 (by decide) rfl q_20 hdg kk
theorem gf_X7_124 {p : Program} {l : Launch} {e : Env} {R : Room} {s : State} {m : MethodId} {args : Array Value} {below : List Frame} {meth : Method} {c : Code} {H : Heap} {locs : List Loc} {cells slots : Nat} {Q : State → Prop} {cc : ByteArray} {nL : Nat} {ret : Option FieldType} {pc : Nat} {ls : Array Slot} {rest : List Value} {D : va_G} {ids : Nat → ClassId} {ad : Nat → Nat} {h : Hp} (C : CX p s m args meth c cc nL ret RX7 D ids) (hP : wp D (cEC ids ad) ad 59 h H) (hdg : decode cc pc = .ok (.getfield 124, 3)) (kk : W p l e R s m args below meth c H locs cells slots Q (F0 m (pc + 3) ls (.int (h 37 1) :: rest))) : W p l e R s m args below meth c H locs cells slots Q (F0 m pc ls (.ref (ad 37) :: rest)) :=
  u_get C hP (by decide) cE_X0 rfl inX0 1 (by decide) rfl q_123 hdg kk
theorem cv_X7_97 {p : Program} {l : Launch} {e : Env} {R : Room} {s : State} {m : MethodId} {args : Array Value} {below : List Frame} {meth : Method} {c : Code} {H : Heap} {locs : List Loc} {Q : State → Prop} {cc : ByteArray} {nL : Nat} {ret : Option FieldType} {pc : Nat} {ls : Array Slot} {rest : List Value} {D : va_G} {ids : Nat → ClassId} {ad tt : Nat → Nat} {h : Hp} (hA : adOk ad 59) (C : CX p s m args meth c cc nL ret RX7 D ids) (hX : (ExC tt ad) s s.heap) (hP : wp D (cEC ids ad) ad 59 h H) (hS : va_S (inW ad 59) s.heap H locs) {k : Nat} (hk : isX5 k) {a1 : Int32} {rv : Int32 × Hp} (hf : f_X5_tellSetting h k a1 = some rv) (hR : 0 + 1 ≤ R.frames ∧ 8 + (2 + 11) + 0 ≤ R.locals) (hsz : ls.size = nL) (hcat : (rest.map fun v => v.category).sum ≤ 8) (hdg : decode cc pc = .ok (.invokevirtual 97, 3)) (kk : ∀ (H1 : Heap) (locs1 : List Loc), wp D (cEC ids ad) ad 59 rv.2 H1 → va_S (inW ad 59) s.heap H1 locs1 → W p l e R s m args below meth c H1 locs1 0 0 Q (F0 m (pc + 3) ls (.int rv.1 :: rest))) : W p l e R s m args below meth c H locs 0 0 Q (F0 m pc ls (.int a1 :: .ref (ad k) :: rest)) :=
  u_callV (As := [.int a1]) (rv := (some (.int rv.1))) C (exC_ok hA) hX (c_X5_tellSetting l D ids ad tt hA hk hf) q_198 q_199 q_200 q_11 q_201 ⟨rfl, rfl⟩ (by refine ⟨by decide +kernel, by decide +kernel, ?_⟩; show _ = some 1; decide +kernel) hR (lt_X5 hk) (cE_X5 hk _) rfl hP hS hsz hcat rfl hdg kk
abbrev rm_X7_count : Room := { frames := 4, cells := 0, slots := 0, locals := 88 }
set_option maxRecDepth 100000 in
set_option maxHeartbeats 4000000 in
theorem w_X7_count {p : Program} {l : Launch} {e : Env} {s : State} {m : MethodId} {args : Array Value} {below : List Frame} {meth : Method} {c : Code} {D : va_G} {ids : Nat → ClassId} {ad tt : Nat → Nat} {rv : Int32 × Hp} (hA : adOk ad 59) (C : CX p s m args meth c cX7_count 2 (some .int) RX7 D ids) (hX : (ExC tt ad) s s.heap) : ∀ (h : Hp) (a1 : Int32) (H : Heap) (locs : List Loc) (ls : Array Slot), f_X7_count h a1 = some rv → wp D (cEC ids ad) ad 59 h H → va_S (inW ad 59) s.heap H locs → lv_has ls 2 [(0, .ref (ad 0)), (1, .int a1)] → W p l e rm_X7_count s m args below meth c H locs 0 0 (MQ below (QW D (cEC ids ad) ad 59 (some (.int rv.1)) rv.2) args s 0 0 (inW ad 59)) (F0 m 0 ls []) := by
  intro h a1 H locs ls hf hP hS hl
  unfold f_X7_count at hf
  refine lv_iload_n C.1 C.2.1 dX7_count_0 rfl (lv_at hl 1 rfl) ?_
  by_cases hc0 : a1 = 0
  · have hf := g_t hc0 hf
    refine lv_tableIn (off := 71) (tgt := 72) C.1 C.2.1 dX7_count_1 (by rw [hc0]; decide) (by rw [hc0]; decide) (by rw [hc0]; rfl) (by decide) ?_
    refine lv_aload_n C.1 C.2.1 dX7_count_72 rfl (lv_at hl 0 rfl) ?_
    refine gf_X7_12 C hP dX7_count_73 ?_
    refine gf_X7_107 C pX5_1 hP dX7_count_76 ?_
    obtain rfl := Option.some.inj hf
    exact u_iret C hP hS dX7_count_79
  · have hf := g_f hc0 hf
    by_cases hc1 : a1 = 1
    · have hf := g_t hc1 hf
      refine lv_tableIn (off := 79) (tgt := 80) C.1 C.2.1 dX7_count_1 (by rw [hc1]; decide) (by rw [hc1]; decide) (by rw [hc1]; rfl) (by decide) ?_
      refine lv_aload_n C.1 C.2.1 dX7_count_80 rfl (lv_at hl 0 rfl) ?_
      refine gf_X7_12 C hP dX7_count_81 ?_
      refine gf_X7_91 C pX5_1 hP dX7_count_84 ?_
      obtain rfl := Option.some.inj hf
      exact u_iret C hP hS dX7_count_87
    · have hf := g_f hc1 hf
      by_cases hc2 : a1 = 2
      · have hf := g_t hc2 hf
        refine lv_tableIn (off := 87) (tgt := 88) C.1 C.2.1 dX7_count_1 (by rw [hc2]; decide) (by rw [hc2]; decide) (by rw [hc2]; rfl) (by decide) ?_
        refine lv_aload_n C.1 C.2.1 dX7_count_88 rfl (lv_at hl 0 rfl) ?_
        refine gf_X7_12 C hP dX7_count_89 ?_
        refine gf_X7_104 C pX5_1 hP dX7_count_92 ?_
        obtain rfl := Option.some.inj hf
        exact u_iret C hP hS dX7_count_95
      · have hf := g_f hc2 hf
        by_cases hc3 : a1 = 3
        · have hf := g_t hc3 hf
          refine lv_tableIn (off := 95) (tgt := 96) C.1 C.2.1 dX7_count_1 (by rw [hc3]; decide) (by rw [hc3]; decide) (by rw [hc3]; rfl) (by decide) ?_
          refine lv_aload_n C.1 C.2.1 dX7_count_96 rfl (lv_at hl 0 rfl) ?_
          refine gf_X7_44 C hP dX7_count_97 ?_
          refine lv_aload_n C.1 C.2.1 dX7_count_100 rfl (lv_at hl 0 rfl) ?_
          refine gf_X7_12 C hP dX7_count_101 ?_
          obtain ⟨q1, eq1, hf⟩ := g_b hf
          refine cv_X7_155 hA C hX hP hS pX5_1 eq1 ⟨Nat.le_of_ble_eq_true rfl, Nat.le_of_ble_eq_true rfl⟩ hl.1 (Nat.le_of_ble_eq_true rfl) dX7_count_104 (fun H locs hP hS => ?_)
          refine lv_aload_n C.1 C.2.1 dX7_count_107 rfl (lv_at hl 0 rfl) ?_
          refine gf_X7_44 C hP dX7_count_108 ?_
          obtain ⟨q2, eq2, hf⟩ := g_b hf
          refine cv_X7_173 hA C hX hP hS eq2 ⟨Nat.le_of_ble_eq_true rfl, Nat.le_of_ble_eq_true rfl⟩ hl.1 (Nat.le_of_ble_eq_true rfl) dX7_count_111 (fun H locs hP hS => ?_)
          obtain rfl := Option.some.inj hf
          exact u_iret C hP hS dX7_count_114
        · have hf := g_f hc3 hf
          by_cases hc4 : a1 = 4
          · have hf := g_t hc4 hf
            refine lv_tableIn (off := 114) (tgt := 115) C.1 C.2.1 dX7_count_1 (by rw [hc4]; decide) (by rw [hc4]; decide) (by rw [hc4]; rfl) (by decide) ?_
            refine lv_aload_n C.1 C.2.1 dX7_count_115 rfl (lv_at hl 0 rfl) ?_
            refine gf_X7_44 C hP dX7_count_116 ?_
            refine lv_aload_n C.1 C.2.1 dX7_count_119 rfl (lv_at hl 0 rfl) ?_
            refine gf_X7_12 C hP dX7_count_120 ?_
            obtain ⟨q3, eq3, hf⟩ := g_b hf
            refine cv_X7_155 hA C hX hP hS pX5_1 eq3 ⟨Nat.le_of_ble_eq_true rfl, Nat.le_of_ble_eq_true rfl⟩ hl.1 (Nat.le_of_ble_eq_true rfl) dX7_count_123 (fun H locs hP hS => ?_)
            refine lv_aload_n C.1 C.2.1 dX7_count_126 rfl (lv_at hl 0 rfl) ?_
            refine gf_X7_44 C hP dX7_count_127 ?_
            obtain ⟨q4, eq4, hf⟩ := g_b hf
            refine cv_X7_177 hA C hX hP hS eq4 ⟨Nat.le_of_ble_eq_true rfl, Nat.le_of_ble_eq_true rfl⟩ hl.1 (Nat.le_of_ble_eq_true rfl) dX7_count_130 (fun H locs hP hS => ?_)
            obtain rfl := Option.some.inj hf
            exact u_iret C hP hS dX7_count_133
          · have hf := g_f hc4 hf
            by_cases hc5 : a1 = 5
            · have hf := g_t hc5 hf
              refine lv_tableIn (off := 133) (tgt := 134) C.1 C.2.1 dX7_count_1 (by rw [hc5]; decide) (by rw [hc5]; decide) (by rw [hc5]; rfl) (by decide) ?_
              refine lv_aload_n C.1 C.2.1 dX7_count_134 rfl (lv_at hl 0 rfl) ?_
              refine gf_X7_12 C hP dX7_count_135 ?_
              refine lv_iconst (v := (5 : Int32)) C.1 C.2.1 dX7_count_138 (by decide) ?_
              obtain ⟨q5, eq5, hf⟩ := g_b hf
              refine cv_X7_179 hA C hX hP hS pX5_1 eq5 ⟨Nat.le_of_ble_eq_true rfl, Nat.le_of_ble_eq_true rfl⟩ hl.1 (Nat.le_of_ble_eq_true rfl) dX7_count_139 (fun H locs hP hS => ?_)
              obtain rfl := Option.some.inj hf
              exact u_iret C hP hS dX7_count_142
            · have hf := g_f hc5 hf
              by_cases hc6 : a1 = 6
              · have hf := g_t hc6 hf
                refine lv_tableIn (off := 142) (tgt := 143) C.1 C.2.1 dX7_count_1 (by rw [hc6]; decide) (by rw [hc6]; decide) (by rw [hc6]; rfl) (by decide) ?_
                refine lv_aload_n C.1 C.2.1 dX7_count_143 rfl (lv_at hl 0 rfl) ?_
                refine gf_X7_12 C hP dX7_count_144 ?_
                refine lv_bipush (v := (9 : Int32)) C.1 C.2.1 dX7_count_147 (by decide) ?_
                obtain ⟨q6, eq6, hf⟩ := g_b hf
                refine cv_X7_179 hA C hX hP hS pX5_1 eq6 ⟨Nat.le_of_ble_eq_true rfl, Nat.le_of_ble_eq_true rfl⟩ hl.1 (Nat.le_of_ble_eq_true rfl) dX7_count_149 (fun H locs hP hS => ?_)
                obtain rfl := Option.some.inj hf
                exact u_iret C hP hS dX7_count_152
              · have hf := g_f hc6 hf
                by_cases hc7 : a1 = 7
                · have hf := g_t hc7 hf
                  refine lv_tableIn (off := 152) (tgt := 153) C.1 C.2.1 dX7_count_1 (by rw [hc7]; decide) (by rw [hc7]; decide) (by rw [hc7]; rfl) (by decide) ?_
                  refine lv_aload_n C.1 C.2.1 dX7_count_153 rfl (lv_at hl 0 rfl) ?_
                  refine gf_X7_12 C hP dX7_count_154 ?_
                  refine gf_X7_180 C pX5_1 hP dX7_count_157 ?_
                  obtain rfl := Option.some.inj hf
                  exact u_iret C hP hS dX7_count_160
                · have hf := g_f hc7 hf
                  by_cases hc8 : a1 = 8
                  · have hf := g_t hc8 hf
                    refine lv_tableIn (off := 160) (tgt := 161) C.1 C.2.1 dX7_count_1 (by rw [hc8]; decide) (by rw [hc8]; decide) (by rw [hc8]; rfl) (by decide) ?_
                    refine lv_aload_n C.1 C.2.1 dX7_count_161 rfl (lv_at hl 0 rfl) ?_
                    refine gf_X7_12 C hP dX7_count_162 ?_
                    refine lv_bipush (v := (6 : Int32)) C.1 C.2.1 dX7_count_165 (by decide) ?_
                    obtain ⟨q7, eq7, hf⟩ := g_b hf
                    refine cv_X7_179 hA C hX hP hS pX5_1 eq7 ⟨Nat.le_of_ble_eq_true rfl, Nat.le_of_ble_eq_true rfl⟩ hl.1 (Nat.le_of_ble_eq_true rfl) dX7_count_167 (fun H locs hP hS => ?_)
                    obtain rfl := Option.some.inj hf
                    exact u_iret C hP hS dX7_count_170
                  · have hf := g_f hc8 hf
                    by_cases hc9 : a1 = 9
                    · have hf := g_t hc9 hf
                      refine lv_tableIn (off := 170) (tgt := 171) C.1 C.2.1 dX7_count_1 (by rw [hc9]; decide) (by rw [hc9]; decide) (by rw [hc9]; rfl) (by decide) ?_
                      refine lv_aload_n C.1 C.2.1 dX7_count_171 rfl (lv_at hl 0 rfl) ?_
                      refine gf_X7_12 C hP dX7_count_172 ?_
                      refine lv_bipush (v := (7 : Int32)) C.1 C.2.1 dX7_count_175 (by decide) ?_
                      obtain ⟨q8, eq8, hf⟩ := g_b hf
                      refine cv_X7_179 hA C hX hP hS pX5_1 eq8 ⟨Nat.le_of_ble_eq_true rfl, Nat.le_of_ble_eq_true rfl⟩ hl.1 (Nat.le_of_ble_eq_true rfl) dX7_count_177 (fun H locs hP hS => ?_)
                      obtain rfl := Option.some.inj hf
                      exact u_iret C hP hS dX7_count_180
                    · have hf := g_f hc9 hf
                      by_cases hc10 : a1 = 10
                      · have hf := g_t hc10 hf
                        refine lv_tableIn (off := 180) (tgt := 181) C.1 C.2.1 dX7_count_1 (by rw [hc10]; decide) (by rw [hc10]; decide) (by rw [hc10]; rfl) (by decide) ?_
                        refine lv_aload_n C.1 C.2.1 dX7_count_181 rfl (lv_at hl 0 rfl) ?_
                        refine gf_X7_27 C hP dX7_count_182 ?_
                        obtain rfl := Option.some.inj hf
                        exact u_iret C hP hS dX7_count_185
                      · have hf := g_f hc10 hf
                        by_cases hc11 : a1 = 11
                        · have hf := g_t hc11 hf
                          refine lv_tableIn (off := 185) (tgt := 186) C.1 C.2.1 dX7_count_1 (by rw [hc11]; decide) (by rw [hc11]; decide) (by rw [hc11]; rfl) (by decide) ?_
                          refine lv_aload_n C.1 C.2.1 dX7_count_186 rfl (lv_at hl 0 rfl) ?_
                          refine gf_X7_34 C hP dX7_count_187 ?_
                          refine gf_X7_124 C hP dX7_count_190 ?_
                          obtain rfl := Option.some.inj hf
                          exact u_iret C hP hS dX7_count_193
                        · have hf := g_f hc11 hf
                          by_cases hc12 : a1 = 12
                          · have hf := g_t hc12 hf
                            refine lv_tableIn (off := 193) (tgt := 194) C.1 C.2.1 dX7_count_1 (by rw [hc12]; decide) (by rw [hc12]; decide) (by rw [hc12]; rfl) (by decide) ?_
                            refine lv_aload_n C.1 C.2.1 dX7_count_194 rfl (lv_at hl 0 rfl) ?_
                            refine gf_X7_12 C hP dX7_count_195 ?_
                            refine lv_iconst (v := (0 : Int32)) C.1 C.2.1 dX7_count_198 (by decide) ?_
                            obtain ⟨q9, eq9, hf⟩ := g_b hf
                            refine cv_X7_97 hA C hX hP hS pX5_1 eq9 ⟨Nat.le_of_ble_eq_true rfl, Nat.le_of_ble_eq_true rfl⟩ hl.1 (Nat.le_of_ble_eq_true rfl) dX7_count_199 (fun H locs hP hS => ?_)
                            obtain rfl := Option.some.inj hf
                            exact u_iret C hP hS dX7_count_202
                          · have hf := g_f hc12 hf
                            by_cases hc13 : a1 = 13
                            · have hf := g_t hc13 hf
                              refine lv_tableIn (off := 202) (tgt := 203) C.1 C.2.1 dX7_count_1 (by rw [hc13]; decide) (by rw [hc13]; decide) (by rw [hc13]; rfl) (by decide) ?_
                              refine lv_aload_n C.1 C.2.1 dX7_count_203 rfl (lv_at hl 0 rfl) ?_
                              refine gf_X7_12 C hP dX7_count_204 ?_
                              refine lv_iconst (v := (1 : Int32)) C.1 C.2.1 dX7_count_207 (by decide) ?_
                              obtain ⟨q10, eq10, hf⟩ := g_b hf
                              refine cv_X7_97 hA C hX hP hS pX5_1 eq10 ⟨Nat.le_of_ble_eq_true rfl, Nat.le_of_ble_eq_true rfl⟩ hl.1 (Nat.le_of_ble_eq_true rfl) dX7_count_208 (fun H locs hP hS => ?_)
                              obtain rfl := Option.some.inj hf
                              exact u_iret C hP hS dX7_count_211
                            · have hf := g_f hc13 hf
                              have hsw : a1.toInt < 0 ∨ 13 < a1.toInt := by
                                have zhc0 := lv_neT hc0 (show (0 : Int32).toInt = 0 by decide)
                                have zhc1 := lv_neT hc1 (show (1 : Int32).toInt = 1 by decide)
                                have zhc2 := lv_neT hc2 (show (2 : Int32).toInt = 2 by decide)
                                have zhc3 := lv_neT hc3 (show (3 : Int32).toInt = 3 by decide)
                                have zhc4 := lv_neT hc4 (show (4 : Int32).toInt = 4 by decide)
                                have zhc5 := lv_neT hc5 (show (5 : Int32).toInt = 5 by decide)
                                have zhc6 := lv_neT hc6 (show (6 : Int32).toInt = 6 by decide)
                                have zhc7 := lv_neT hc7 (show (7 : Int32).toInt = 7 by decide)
                                have zhc8 := lv_neT hc8 (show (8 : Int32).toInt = 8 by decide)
                                have zhc9 := lv_neT hc9 (show (9 : Int32).toInt = 9 by decide)
                                have zhc10 := lv_neT hc10 (show (10 : Int32).toInt = 10 by decide)
                                have zhc11 := lv_neT hc11 (show (11 : Int32).toInt = 11 by decide)
                                have zhc12 := lv_neT hc12 (show (12 : Int32).toInt = 12 by decide)
                                have zhc13 := lv_neT hc13 (show (13 : Int32).toInt = 13 by decide)
                                omega
                              refine lv_tableOut (tgt := 212) C.1 C.2.1 dX7_count_1 hsw (by decide) ?_
                              refine lv_bipush (v := (-2 : Int32)) C.1 C.2.1 dX7_count_212 (by decide) ?_
                              obtain rfl := Option.some.inj hf
                              exact u_iret C hP hS dX7_count_214
theorem c_X7_count (l : Launch) (D : va_G) (ids : Nat → ClassId) (ad tt : Nat → Nat) (hA : adOk ad 59) {a1 : Int32} {h : Hp} {rv : Int32 × Hp} (hf : f_X7_count h a1 = some rv) : Met l yX7_count (ws_ yX7_count cX7_count 2 (some .int)) rm_X7_count (va_Pc [.ref (ad 0), .int a1] (WB D ids (cEC ids ad) ad 59 (ExC tt ad) h)) (QW D (cEC ids ad) ad 59 (some (.int rv.1)) rv.2) 0 0 (inW ad 59) :=
  u_met (own := RX7) (by decide) rfl (Nat.le_of_ble_eq_true rfl) rfl (fun p e s m args below meth c H ls C hX hP hS hl => w_X7_count (tt := tt) hA C hX _ _ _ _ _ hf hP hS hl)
abbrev rm_X7_isCaptain : Room := { frames := 0, cells := 0, slots := 0, locals := 0 }
set_option maxRecDepth 100000 in
set_option maxHeartbeats 4000000 in
theorem w_X7_isCaptain {p : Program} {l : Launch} {e : Env} {s : State} {m : MethodId} {args : Array Value} {below : List Frame} {meth : Method} {c : Code} {D : va_G} {ids : Nat → ClassId} {ad tt : Nat → Nat} {rv : Int32 × Hp} (hA : adOk ad 59) (C : CX p s m args meth c cX7_isCaptain 1 (some .boolean) RX7 D ids) (hX : (ExC tt ad) s s.heap) : ∀ (h : Hp) (a1 : Int32) (H : Heap) (locs : List Loc) (ls : Array Slot), f_X7_isCaptain h a1 = some rv → wp D (cEC ids ad) ad 59 h H → va_S (inW ad 59) s.heap H locs → lv_has ls 1 [(0, .int a1)] → W p l e rm_X7_isCaptain s m args below meth c H locs 0 0 (MQ below (QW D (cEC ids ad) ad 59 (some (.int rv.1)) rv.2) args s 0 0 (inW ad 59)) (F0 m 0 ls []) := by
  intro h a1 H locs ls hf hP hS hl
  unfold f_X7_isCaptain at hf
  refine lv_iload_n C.1 C.2.1 dX7_isCaptain_0 rfl (lv_at hl 0 rfl) ?_
  refine lv_if_lt (tgt := 13) C.1 C.2.1 dX7_isCaptain_1 (by decide) (fun hc => ?_) (fun hc => ?_)
  · have hf := g_t hc hf
    refine lv_iconst (v := (0 : Int32)) C.1 C.2.1 dX7_isCaptain_13 (by decide) ?_
    obtain rfl := Option.some.inj hf
    exact u_zret C hP hS isb_0 dX7_isCaptain_14
  · have hf := g_f hc hf
    refine lv_iload_n C.1 C.2.1 dX7_isCaptain_4 rfl (lv_at hl 0 rfl) ?_
    refine lv_iconst (v := (3 : Int32)) C.1 C.2.1 dX7_isCaptain_5 (by decide) ?_
    refine lv_icmp_ge (tgt := 13) C.1 C.2.1 dX7_isCaptain_6 (by decide) (fun hc => ?_) (fun hc => ?_)
    · have hf := g_t hc hf
      refine lv_iconst (v := (0 : Int32)) C.1 C.2.1 dX7_isCaptain_13 (by decide) ?_
      obtain rfl := Option.some.inj hf
      exact u_zret C hP hS isb_0 dX7_isCaptain_14
    · have hf := g_f hc hf
      refine lv_iconst (v := (1 : Int32)) C.1 C.2.1 dX7_isCaptain_9 (by decide) ?_
      refine lv_goto (tgt := 14) C.1 C.2.1 dX7_isCaptain_10 (by decide) ?_
      obtain rfl := Option.some.inj hf
      exact u_zret C hP hS isb_1 dX7_isCaptain_14
theorem c_X7_isCaptain (l : Launch) (D : va_G) (ids : Nat → ClassId) (ad tt : Nat → Nat) (hA : adOk ad 59) {a1 : Int32} {h : Hp} {rv : Int32 × Hp} (hf : f_X7_isCaptain h a1 = some rv) : Met l yX7_isCaptain (ws_ yX7_isCaptain cX7_isCaptain 1 (some .boolean)) rm_X7_isCaptain (va_Pc [.int a1] (WB D ids (cEC ids ad) ad 59 (ExC tt ad) h)) (QW D (cEC ids ad) ad 59 (some (.int rv.1)) rv.2) 0 0 (inW ad 59) :=
  u_met (own := RX7) (by decide) rfl (Nat.le_of_ble_eq_true rfl) rfl (fun p e s m args below meth c H ls C hX hP hS hl => w_X7_isCaptain (tt := tt) hA C hX _ _ _ _ _ hf hP hS hl)
theorem gf_X7_193 {p : Program} {l : Launch} {e : Env} {R : Room} {s : State} {m : MethodId} {args : Array Value} {below : List Frame} {meth : Method} {c : Code} {H : Heap} {locs : List Loc} {cells slots : Nat} {Q : State → Prop} {cc : ByteArray} {nL : Nat} {ret : Option FieldType} {pc : Nat} {ls : Array Slot} {rest : List Value} {D : va_G} {ids : Nat → ClassId} {ad : Nat → Nat} {h : Hp} (C : CX p s m args meth c cc nL ret RX7 D ids) (hP : wp D (cEC ids ad) ad 59 h H) (hdg : decode cc pc = .ok (.getfield 193, 3)) (kk : W p l e R s m args below meth c H locs cells slots Q (F0 m (pc + 3) ls (.ref (ad 40) :: rest))) : W p l e R s m args below meth c H locs cells slots Q (F0 m pc ls (.ref (ad 39) :: rest)) :=
  u_get C hP (by decide) cE_X1 rfl inX1 0 (by decide) rfl q_215 hdg kk
abbrev rm_X7_timetableOf : Room := { frames := 4, cells := 0, slots := 0, locals := 88 }
set_option maxRecDepth 100000 in
set_option maxHeartbeats 4000000 in
theorem w_X7_timetableOf {p : Program} {l : Launch} {e : Env} {s : State} {m : MethodId} {args : Array Value} {below : List Frame} {meth : Method} {c : Code} {D : va_G} {ids : Nat → ClassId} {ad tt : Nat → Nat} {rv : Nat × Hp} (hA : adOk ad 59) (C : CX p s m args meth c cX7_timetableOf 2 (some (.object "CaptainTides$Timetable")) RX7 D ids) (hX : (ExC tt ad) s s.heap) : ∀ (h : Hp) (a1 : Int32) (H : Heap) (locs : List Loc) (ls : Array Slot), f_X7_timetableOf h a1 = some rv → wp D (cEC ids ad) ad 59 h H → va_S (inW ad 59) s.heap H locs → lv_has ls 2 [(0, .ref (ad 0)), (1, .int a1)] → W p l e rm_X7_timetableOf s m args below meth c H locs 0 0 (MQ below (QW D (cEC ids ad) ad 59 (some (.ref (ad rv.1))) rv.2) args s 0 0 (inW ad 59)) (F0 m 0 ls []) := by
  intro h a1 H locs ls hf hP hS hl
  unfold f_X7_timetableOf at hf
  refine lv_aload_n C.1 C.2.1 dX7_timetableOf_0 rfl (lv_at hl 0 rfl) ?_
  refine gf_X7_44 C hP dX7_timetableOf_1 ?_
  refine lv_aload_n C.1 C.2.1 dX7_timetableOf_4 rfl (lv_at hl 0 rfl) ?_
  refine gf_X7_12 C hP dX7_timetableOf_5 ?_
  obtain ⟨q1, eq1, hf⟩ := g_b hf
  refine cv_X7_155 hA C hX hP hS pX5_1 eq1 ⟨Nat.le_of_ble_eq_true rfl, Nat.le_of_ble_eq_true rfl⟩ hl.1 (Nat.le_of_ble_eq_true rfl) dX7_timetableOf_8 (fun H locs hP hS => ?_)
  refine lv_aload_n C.1 C.2.1 dX7_timetableOf_11 rfl (lv_at hl 0 rfl) ?_
  refine gf_X7_44 C hP dX7_timetableOf_12 ?_
  refine gf_X7_193 C hP dX7_timetableOf_15 ?_
  refine lv_iload_n C.1 C.2.1 dX7_timetableOf_18 rfl (lv_at hl 1 rfl) ?_
  obtain ⟨hg2, hf⟩ := g_if hf
  refine rl_aTt C hP hg2 dX7_timetableOf_19 ?_
  obtain rfl := Option.some.inj hf
  exact u_aret C hP hS dX7_timetableOf_20
theorem c_X7_timetableOf (l : Launch) (D : va_G) (ids : Nat → ClassId) (ad tt : Nat → Nat) (hA : adOk ad 59) {a1 : Int32} {h : Hp} {rv : Nat × Hp} (hf : f_X7_timetableOf h a1 = some rv) : Met l yX7_timetableOf (ws_ yX7_timetableOf cX7_timetableOf 2 (some (.object "CaptainTides$Timetable"))) rm_X7_timetableOf (va_Pc [.ref (ad 0), .int a1] (WB D ids (cEC ids ad) ad 59 (ExC tt ad) h)) (QW D (cEC ids ad) ad 59 (some (.ref (ad rv.1))) rv.2) 0 0 (inW ad 59) :=
  u_met (own := RX7) (by decide) rfl (Nat.le_of_ble_eq_true rfl) rfl (fun p e s m args below meth c H ls C hX hP hS hl => w_X7_timetableOf (tt := tt) hA C hX _ _ _ _ _ hf hP hS hl)
theorem cv_X7_55 {p : Program} {l : Launch} {e : Env} {R : Room} {s : State} {m : MethodId} {args : Array Value} {below : List Frame} {meth : Method} {c : Code} {H : Heap} {locs : List Loc} {Q : State → Prop} {cc : ByteArray} {nL : Nat} {ret : Option FieldType} {pc : Nat} {ls : Array Slot} {rest : List Value} {D : va_G} {ids : Nat → ClassId} {ad tt : Nat → Nat} {h : Hp} (hA : adOk ad 59) (C : CX p s m args meth c cc nL ret RX7 D ids) (hX : (ExC tt ad) s s.heap) (hP : wp D (cEC ids ad) ad 59 h H) (hS : va_S (inW ad 59) s.heap H locs) {a1 : Int32} {rv : Int32 × Hp} (hf : f_X7_isCaptain h a1 = some rv) (hR : 0 + 1 ≤ R.frames ∧ 8 + (1 + 11) + 0 ≤ R.locals) (hsz : ls.size = nL) (hcat : (rest.map fun v => v.category).sum ≤ 8) (hdg : decode cc pc = .ok (.invokestatic 55, 3)) (kk : ∀ (H1 : Heap) (locs1 : List Loc), wp D (cEC ids ad) ad 59 rv.2 H1 → va_S (inW ad 59) s.heap H1 locs1 → W p l e R s m args below meth c H1 locs1 0 0 Q (F0 m (pc + 3) ls (.int rv.1 :: rest))) : W p l e R s m args below meth c H locs 0 0 Q (F0 m pc ls (.int a1 :: rest)) :=
  u_callS (As := [.int a1]) (rv := (some (.int rv.1))) C (exC_ok hA) hX (c_X7_isCaptain l D ids ad tt hA hf) q_208 q_209 q_2 q_210 ⟨rfl, rfl⟩ (by refine ⟨by decide +kernel, by decide +kernel, ?_⟩; show _ = some 1; decide +kernel) hR hP hS hsz hcat rfl hdg kk
theorem gf_X7_63 {p : Program} {l : Launch} {e : Env} {R : Room} {s : State} {m : MethodId} {args : Array Value} {below : List Frame} {meth : Method} {c : Code} {H : Heap} {locs : List Loc} {cells slots : Nat} {Q : State → Prop} {cc : ByteArray} {nL : Nat} {ret : Option FieldType} {pc : Nat} {ls : Array Slot} {rest : List Value} {D : va_G} {ids : Nat → ClassId} {ad : Nat → Nat} {h : Hp} (C : CX p s m args meth c cc nL ret RX7 D ids) {k : Nat} (hk : isX5 k) (hP : wp D (cEC ids ad) ad 59 h H) (hdg : decode cc pc = .ok (.getfield 63, 3)) (kk : W p l e R s m args below meth c H locs cells slots Q (F0 m (pc + 3) ls (.ref (ad (k + 1)) :: rest))) : W p l e R s m args below meth c H locs cells slots Q (F0 m pc ls (.ref (ad k) :: rest)) :=
  u_get C hP (lt_X5 hk) (cE_X5 hk) rfl inX5 0 (by decide) rfl q_207 hdg kk
theorem cv_X7_67 {p : Program} {l : Launch} {e : Env} {R : Room} {s : State} {m : MethodId} {args : Array Value} {below : List Frame} {meth : Method} {c : Code} {H : Heap} {locs : List Loc} {Q : State → Prop} {cc : ByteArray} {nL : Nat} {ret : Option FieldType} {pc : Nat} {ls : Array Slot} {rest : List Value} {D : va_G} {ids : Nat → ClassId} {ad tt : Nat → Nat} {h : Hp} (hA : adOk ad 59) (C : CX p s m args meth c cc nL ret RX7 D ids) (hX : (ExC tt ad) s s.heap) (hP : wp D (cEC ids ad) ad 59 h H) (hS : va_S (inW ad 59) s.heap H locs) {k : Nat} (hk : isX2 k) {a1 : Int32} {rv : Int32 × Hp} (hf : f_X2_tell h k a1 = some rv) (hR : 0 + 1 ≤ R.frames ∧ 8 + (2 + 11) + 0 ≤ R.locals) (hsz : ls.size = nL) (hcat : (rest.map fun v => v.category).sum ≤ 8) (hdg : decode cc pc = .ok (.invokevirtual 67, 3)) (kk : ∀ (H1 : Heap) (locs1 : List Loc), wp D (cEC ids ad) ad 59 rv.2 H1 → va_S (inW ad 59) s.heap H1 locs1 → W p l e R s m args below meth c H1 locs1 0 0 Q (F0 m (pc + 3) ls (.int rv.1 :: rest))) : W p l e R s m args below meth c H locs 0 0 Q (F0 m pc ls (.int a1 :: .ref (ad k) :: rest)) :=
  u_callV (As := [.int a1]) (rv := (some (.int rv.1))) C (exC_ok hA) hX (c_X2_tell l D ids ad tt hA hk hf) q_216 q_195 q_196 q_35 q_197 ⟨rfl, rfl⟩ (by refine ⟨by decide +kernel, by decide +kernel, ?_⟩; show _ = some 1; decide +kernel) hR (lt_X2 hk) (cE_X2 hk _) rfl hP hS hsz hcat rfl hdg kk
theorem cv_X7_127 {p : Program} {l : Launch} {e : Env} {R : Room} {s : State} {m : MethodId} {args : Array Value} {below : List Frame} {meth : Method} {c : Code} {H : Heap} {locs : List Loc} {Q : State → Prop} {cc : ByteArray} {nL : Nat} {ret : Option FieldType} {pc : Nat} {ls : Array Slot} {rest : List Value} {D : va_G} {ids : Nat → ClassId} {ad tt : Nat → Nat} {h : Hp} (hA : adOk ad 59) (C : CX p s m args meth c cc nL ret RX7 D ids) (hX : (ExC tt ad) s s.heap) (hP : wp D (cEC ids ad) ad 59 h H) (hS : va_S (inW ad 59) s.heap H locs) {a1 : Int32} {rv : Nat × Hp} (hf : f_X7_timetableOf h a1 = some rv) (hR : 4 + 1 ≤ R.frames ∧ 8 + (2 + 11) + 88 ≤ R.locals) (hsz : ls.size = nL) (hcat : (rest.map fun v => v.category).sum ≤ 8) (hdg : decode cc pc = .ok (.invokevirtual 127, 3)) (kk : ∀ (H1 : Heap) (locs1 : List Loc), wp D (cEC ids ad) ad 59 rv.2 H1 → va_S (inW ad 59) s.heap H1 locs1 → W p l e R s m args below meth c H1 locs1 0 0 Q (F0 m (pc + 3) ls (.ref (ad rv.1) :: rest))) : W p l e R s m args below meth c H locs 0 0 Q (F0 m pc ls (.int a1 :: .ref (ad 0) :: rest)) :=
  u_callV (As := [.int a1]) (rv := (some (.ref (ad rv.1)))) C (exC_ok hA) hX (c_X7_timetableOf l D ids ad tt hA hf) q_211 q_212 q_213 q_2 q_214 ⟨rfl, rfl⟩ (by refine ⟨by decide +kernel, by decide +kernel, ?_⟩; show _ = some 1; decide +kernel) hR (by decide) (cE_X7 _) rfl hP hS hsz hcat rfl hdg kk
theorem gf_X7_131 {p : Program} {l : Launch} {e : Env} {R : Room} {s : State} {m : MethodId} {args : Array Value} {below : List Frame} {meth : Method} {c : Code} {H : Heap} {locs : List Loc} {cells slots : Nat} {Q : State → Prop} {cc : ByteArray} {nL : Nat} {ret : Option FieldType} {pc : Nat} {ls : Array Slot} {rest : List Value} {D : va_G} {ids : Nat → ClassId} {ad : Nat → Nat} {h : Hp} (C : CX p s m args meth c cc nL ret RX7 D ids) {k : Nat} (hk : isX6 k) (hP : wp D (cEC ids ad) ad 59 h H) (hdg : decode cc pc = .ok (.getfield 131, 3)) (kk : W p l e R s m args below meth c H locs cells slots Q (F0 m (pc + 3) ls (.int (h k 1) :: rest))) : W p l e R s m args below meth c H locs cells slots Q (F0 m pc ls (.ref (ad k) :: rest)) :=
  u_get C hP (lt_X6 hk) (cE_X6 hk) rfl inX6 1 (by decide) rfl q_206 hdg kk
abbrev rm_X7_captainOf : Room := { frames := 5, cells := 0, slots := 0, locals := 109 }
set_option maxRecDepth 100000 in
set_option maxHeartbeats 4000000 in
theorem w_X7_captainOf {p : Program} {l : Launch} {e : Env} {s : State} {m : MethodId} {args : Array Value} {below : List Frame} {meth : Method} {c : Code} {D : va_G} {ids : Nat → ClassId} {ad tt : Nat → Nat} {rv : Int32 × Hp} (hA : adOk ad 59) (C : CX p s m args meth c cX7_captainOf 3 (some .int) RX7 D ids) (hX : (ExC tt ad) s s.heap) : ∀ (h : Hp) (a1 : Int32) (a2 : Int32) (H : Heap) (locs : List Loc) (ls : Array Slot), f_X7_captainOf h a1 a2 = some rv → wp D (cEC ids ad) ad 59 h H → va_S (inW ad 59) s.heap H locs → lv_has ls 3 [(0, .ref (ad 0)), (1, .int a1), (2, .int a2)] → W p l e rm_X7_captainOf s m args below meth c H locs 0 0 (MQ below (QW D (cEC ids ad) ad 59 (some (.int rv.1)) rv.2) args s 0 0 (inW ad 59)) (F0 m 0 ls []) := by
  intro h a1 a2 H locs ls hf hP hS hl
  unfold f_X7_captainOf at hf
  refine lv_iload_n C.1 C.2.1 dX7_captainOf_0 rfl (lv_at hl 1 rfl) ?_
  obtain ⟨q1, eq1, hf⟩ := g_b hf
  refine cv_X7_55 hA C hX hP hS eq1 ⟨Nat.le_of_ble_eq_true rfl, Nat.le_of_ble_eq_true rfl⟩ hl.1 (Nat.le_of_ble_eq_true rfl) dX7_captainOf_1 (fun H locs hP hS => ?_)
  refine lv_if_ne (tgt := 9) C.1 C.2.1 dX7_captainOf_4 (by decide) (fun hc => ?_) (fun hc => ?_)
  · have hf := g_f hc hf
    refine lv_iload_n C.1 C.2.1 dX7_captainOf_9 rfl (lv_at hl 2 rfl) ?_
    refine lv_if_lt (tgt := 19) C.1 C.2.1 dX7_captainOf_10 (by decide) (fun hc => ?_) (fun hc => ?_)
    · have hf := g_t hc hf
      refine lv_bipush (v := (-2 : Int32)) C.1 C.2.1 dX7_captainOf_19 (by decide) ?_
      obtain rfl := Option.some.inj hf
      exact u_iret C hP hS dX7_captainOf_21
    · have hf := g_f hc hf
      refine lv_iload_n C.1 C.2.1 dX7_captainOf_13 rfl (lv_at hl 2 rfl) ?_
      refine lv_bipush (v := (10 : Int32)) C.1 C.2.1 dX7_captainOf_14 (by decide) ?_
      refine lv_icmp_le (tgt := 22) C.1 C.2.1 dX7_captainOf_16 (by decide) (fun hc => ?_) (fun hc => ?_)
      · have hf := g_t hc hf
        refine lv_iload_n C.1 C.2.1 dX7_captainOf_22 rfl (lv_at hl 2 rfl) ?_
        refine lv_iconst (v := (4 : Int32)) C.1 C.2.1 dX7_captainOf_23 (by decide) ?_
        refine lv_icmp_ne (tgt := 38) C.1 C.2.1 dX7_captainOf_24 (by decide) (fun hc => ?_) (fun hc => ?_)
        · have hf := g_f hc hf
          refine lv_aload_n C.1 C.2.1 dX7_captainOf_38 rfl (lv_at hl 0 rfl) ?_
          refine gf_X7_12 C hP dX7_captainOf_39 ?_
          refine gf_X7_63 C pX5_1 hP dX7_captainOf_42 ?_
          refine lv_iload_n C.1 C.2.1 dX7_captainOf_45 rfl (lv_at hl 1 rfl) ?_
          obtain ⟨hg2, hf⟩ := g_if hf
          refine rl_aCap C (cap_of pX5_1) hP hg2 dX7_captainOf_46 ?_
          refine lv_iload_n C.1 C.2.1 dX7_captainOf_47 rfl (lv_at hl 2 rfl) ?_
          obtain ⟨q3, eq3, hf⟩ := g_b hf
          refine cv_X7_67 hA C hX hP hS (cp_el (cap_of pX5_1) hg2) eq3 ⟨Nat.le_of_ble_eq_true rfl, Nat.le_of_ble_eq_true rfl⟩ hl.1 (Nat.le_of_ble_eq_true rfl) dX7_captainOf_48 (fun H locs hP hS => ?_)
          obtain rfl := Option.some.inj hf
          exact u_iret C hP hS dX7_captainOf_51
        · have hf := g_t hc hf
          refine lv_aload_n C.1 C.2.1 dX7_captainOf_27 rfl (lv_at hl 0 rfl) ?_
          refine lv_iload_n C.1 C.2.1 dX7_captainOf_28 rfl (lv_at hl 1 rfl) ?_
          obtain ⟨q4, eq4, hf⟩ := g_b hf
          refine cv_X7_127 hA C hX hP hS eq4 ⟨Nat.le_of_ble_eq_true rfl, Nat.le_of_ble_eq_true rfl⟩ hl.1 (Nat.le_of_ble_eq_true rfl) dX7_captainOf_29 (fun H locs hP hS => ?_)
          obtain ⟨hg5, hf⟩ := g_if hf
          refine gf_X7_131 C hg5 hP dX7_captainOf_32 ?_
          refine lv_goto (tgt := 51) C.1 C.2.1 dX7_captainOf_35 (by decide) ?_
          obtain rfl := Option.some.inj hf
          exact u_iret C hP hS dX7_captainOf_51
      · have hf := g_f hc hf
        refine lv_bipush (v := (-2 : Int32)) C.1 C.2.1 dX7_captainOf_19 (by decide) ?_
        obtain rfl := Option.some.inj hf
        exact u_iret C hP hS dX7_captainOf_21
  · have hf := g_t hc hf
    refine lv_iconst (v := (-1 : Int32)) C.1 C.2.1 dX7_captainOf_7 (by decide) ?_
    obtain rfl := Option.some.inj hf
    exact u_iret C hP hS dX7_captainOf_8
theorem c_X7_captainOf (l : Launch) (D : va_G) (ids : Nat → ClassId) (ad tt : Nat → Nat) (hA : adOk ad 59) {a1 : Int32} {a2 : Int32} {h : Hp} {rv : Int32 × Hp} (hf : f_X7_captainOf h a1 a2 = some rv) : Met l yX7_captainOf (ws_ yX7_captainOf cX7_captainOf 3 (some .int)) rm_X7_captainOf (va_Pc [.ref (ad 0), .int a1, .int a2] (WB D ids (cEC ids ad) ad 59 (ExC tt ad) h)) (QW D (cEC ids ad) ad 59 (some (.int rv.1)) rv.2) 0 0 (inW ad 59) :=
  u_met (own := RX7) (by decide) rfl (Nat.le_of_ble_eq_true rfl) rfl (fun p e s m args below meth c H ls C hX hP hS hl => w_X7_captainOf (tt := tt) hA C hX _ _ _ _ _ _ hf hP hS hl)
abbrev rm_L_low : Room := { frames := 0, cells := 0, slots := 0, locals := 0 }
set_option maxRecDepth 100000 in
set_option maxHeartbeats 4000000 in
theorem w_L_low {p : Program} {l : Launch} {e : Env} {s : State} {m : MethodId} {args : Array Value} {below : List Frame} {meth : Method} {c : Code} {D : va_G} {ids : Nat → ClassId} {ad tt : Nat → Nat} {rv : Int32 × Hp} (hA : adOk ad 59) (C : CX p s m args meth c cL_low 2 (some .int) RL D ids) (hX : (ExC tt ad) s s.heap) : ∀ (h : Hp) (a1 : Int32) (a2 : Int32) (H : Heap) (locs : List Loc) (ls : Array Slot), f_L_low h a1 a2 = some rv → wp D (cEC ids ad) ad 59 h H → va_S (inW ad 59) s.heap H locs → lv_has ls 2 [(0, .int a1), (1, .int a2)] → W p l e rm_L_low s m args below meth c H locs 0 0 (MQ below (QW D (cEC ids ad) ad 59 (some (.int rv.1)) rv.2) args s 0 0 (inW ad 59)) (F0 m 0 ls []) := by
  intro h a1 a2 H locs ls hf hP hS hl
  unfold f_L_low at hf
  refine lv_iload_n C.1 C.2.1 dL_low_0 rfl (lv_at hl 0 rfl) ?_
  refine lv_ldc (v := (2147483647 : Int32)) C.1 C.2.1 C.2.2.2.2.2.1 (C.2.2.2.2.2.2.1 _ q_224) dL_low_1 ?_
  refine lv_iand C.1 C.2.1 dL_low_3 ?_
  refine lv_iload_n C.1 C.2.1 dL_low_4 rfl (lv_at hl 1 rfl) ?_
  obtain ⟨hg, hf⟩ := g_if hf
  refine lv_irem C.1 C.2.1 dL_low_5 hg ?_
  obtain rfl := Option.some.inj hf
  exact u_iret C hP hS dL_low_6
theorem c_L_low (l : Launch) (D : va_G) (ids : Nat → ClassId) (ad tt : Nat → Nat) (hA : adOk ad 59) {a1 : Int32} {a2 : Int32} {h : Hp} {rv : Int32 × Hp} (hf : f_L_low h a1 a2 = some rv) : Met l yL_low (ws_ yL_low cL_low 2 (some .int)) rm_L_low (va_Pc [.int a1, .int a2] (WB D ids (cEC ids ad) ad 59 (ExC tt ad) h)) (QW D (cEC ids ad) ad 59 (some (.int rv.1)) rv.2) 0 0 (inW ad 59) :=
  u_met (own := RL) (by decide) rfl (Nat.le_of_ble_eq_true rfl) rfl (fun p e s m args below meth c H ls C hX hP hS hl => w_L_low (tt := tt) hA C hX _ _ _ _ _ _ hf hP hS hl)
theorem pf_X2_36 {p : Program} {l : Launch} {e : Env} {R : Room} {s : State} {m : MethodId} {args : Array Value} {below : List Frame} {meth : Method} {c : Code} {H : Heap} {locs : List Loc} {cells slots : Nat} {Q : State → Prop} {cc : ByteArray} {nL : Nat} {ret : Option FieldType} {pc : Nat} {ls : Array Slot} {rest : List Value} {D : va_G} {ids : Nat → ClassId} {ad : Nat → Nat} {h : Hp} {x : Int32} (hA : adOk ad 59) (C : CX p s m args meth c cc nL ret RX2 D ids) {k : Nat} (hk : isX2 k) (hP : wp D (cEC ids ad) ad 59 h H) (hS : va_S (inW ad 59) s.heap H locs) (hdg : decode cc pc = .ok (.putfield 36, 3)) (kk : ∀ (H1 : Heap) (locs1 : List Loc), wp D (cEC ids ad) ad 59 (hs h k 0 x) H1 → va_S (inW ad 59) s.heap H1 locs1 → W p l e R s m args below meth c H1 locs1 cells slots Q (F0 m (pc + 3) ls rest)) : W p l e R s m args below meth c H locs cells slots Q (F0 m pc ls (.int x :: .ref (ad k) :: rest)) :=
  u_put hA C hP hS (lt_X2 hk) (cE_X2 hk) rfl inX2 tyX2 tyX2_ok nmX2 0 (by decide) rfl q_55 rfl (ty := .int) rfl rfl rfl hdg kk
theorem pf_X2_9 {p : Program} {l : Launch} {e : Env} {R : Room} {s : State} {m : MethodId} {args : Array Value} {below : List Frame} {meth : Method} {c : Code} {H : Heap} {locs : List Loc} {cells slots : Nat} {Q : State → Prop} {cc : ByteArray} {nL : Nat} {ret : Option FieldType} {pc : Nat} {ls : Array Slot} {rest : List Value} {D : va_G} {ids : Nat → ClassId} {ad : Nat → Nat} {h : Hp} {x : Int32} (hA : adOk ad 59) (C : CX p s m args meth c cc nL ret RX2 D ids) {k : Nat} (hk : isX2 k) (hP : wp D (cEC ids ad) ad 59 h H) (hS : va_S (inW ad 59) s.heap H locs) (hdg : decode cc pc = .ok (.putfield 9, 3)) (kk : ∀ (H1 : Heap) (locs1 : List Loc), wp D (cEC ids ad) ad 59 (hs h k 1 x) H1 → va_S (inW ad 59) s.heap H1 locs1 → W p l e R s m args below meth c H1 locs1 cells slots Q (F0 m (pc + 3) ls rest)) : W p l e R s m args below meth c H locs cells slots Q (F0 m pc ls (.int x :: .ref (ad k) :: rest)) :=
  u_put hA C hP hS (lt_X2 hk) (cE_X2 hk) rfl inX2 tyX2 tyX2_ok nmX2 1 (by decide) rfl q_47 rfl (ty := .int) rfl rfl rfl hdg kk
theorem pf_X2_15 {p : Program} {l : Launch} {e : Env} {R : Room} {s : State} {m : MethodId} {args : Array Value} {below : List Frame} {meth : Method} {c : Code} {H : Heap} {locs : List Loc} {cells slots : Nat} {Q : State → Prop} {cc : ByteArray} {nL : Nat} {ret : Option FieldType} {pc : Nat} {ls : Array Slot} {rest : List Value} {D : va_G} {ids : Nat → ClassId} {ad : Nat → Nat} {h : Hp} {x : Int32} (hA : adOk ad 59) (C : CX p s m args meth c cc nL ret RX2 D ids) {k : Nat} (hk : isX2 k) (hP : wp D (cEC ids ad) ad 59 h H) (hS : va_S (inW ad 59) s.heap H locs) (hdg : decode cc pc = .ok (.putfield 15, 3)) (kk : ∀ (H1 : Heap) (locs1 : List Loc), wp D (cEC ids ad) ad 59 (hs h k 2 x) H1 → va_S (inW ad 59) s.heap H1 locs1 → W p l e R s m args below meth c H1 locs1 cells slots Q (F0 m (pc + 3) ls rest)) : W p l e R s m args below meth c H locs cells slots Q (F0 m pc ls (.int x :: .ref (ad k) :: rest)) :=
  u_put hA C hP hS (lt_X2 hk) (cE_X2 hk) rfl inX2 tyX2 tyX2_ok nmX2 2 (by decide) rfl q_48 rfl (ty := .int) rfl rfl rfl hdg kk
theorem pf_X2_39 {p : Program} {l : Launch} {e : Env} {R : Room} {s : State} {m : MethodId} {args : Array Value} {below : List Frame} {meth : Method} {c : Code} {H : Heap} {locs : List Loc} {cells slots : Nat} {Q : State → Prop} {cc : ByteArray} {nL : Nat} {ret : Option FieldType} {pc : Nat} {ls : Array Slot} {rest : List Value} {D : va_G} {ids : Nat → ClassId} {ad : Nat → Nat} {h : Hp} {x : Int32} (hA : adOk ad 59) (C : CX p s m args meth c cc nL ret RX2 D ids) {k : Nat} (hk : isX2 k) (hP : wp D (cEC ids ad) ad 59 h H) (hS : va_S (inW ad 59) s.heap H locs) (hdg : decode cc pc = .ok (.putfield 39, 3)) (kk : ∀ (H1 : Heap) (locs1 : List Loc), wp D (cEC ids ad) ad 59 (hs h k 3 x) H1 → va_S (inW ad 59) s.heap H1 locs1 → W p l e R s m args below meth c H1 locs1 cells slots Q (F0 m (pc + 3) ls rest)) : W p l e R s m args below meth c H locs cells slots Q (F0 m pc ls (.int x :: .ref (ad k) :: rest)) :=
  u_put hA C hP hS (lt_X2 hk) (cE_X2 hk) rfl inX2 tyX2 tyX2_ok nmX2 3 (by decide) rfl q_56 rfl (ty := .int) rfl rfl rfl hdg kk
theorem pf_X2_18 {p : Program} {l : Launch} {e : Env} {R : Room} {s : State} {m : MethodId} {args : Array Value} {below : List Frame} {meth : Method} {c : Code} {H : Heap} {locs : List Loc} {cells slots : Nat} {Q : State → Prop} {cc : ByteArray} {nL : Nat} {ret : Option FieldType} {pc : Nat} {ls : Array Slot} {rest : List Value} {D : va_G} {ids : Nat → ClassId} {ad : Nat → Nat} {h : Hp} {x : Int32} (hA : adOk ad 59) (C : CX p s m args meth c cc nL ret RX2 D ids) {k : Nat} (hk : isX2 k) (hP : wp D (cEC ids ad) ad 59 h H) (hS : va_S (inW ad 59) s.heap H locs) (hdg : decode cc pc = .ok (.putfield 18, 3)) (kk : ∀ (H1 : Heap) (locs1 : List Loc), wp D (cEC ids ad) ad 59 (hs h k 4 x) H1 → va_S (inW ad 59) s.heap H1 locs1 → W p l e R s m args below meth c H1 locs1 cells slots Q (F0 m (pc + 3) ls rest)) : W p l e R s m args below meth c H locs cells slots Q (F0 m pc ls (.int x :: .ref (ad k) :: rest)) :=
  u_put hA C hP hS (lt_X2 hk) (cE_X2 hk) rfl inX2 tyX2 tyX2_ok nmX2 4 (by decide) rfl q_49 rfl (ty := .int) rfl rfl rfl hdg kk
theorem pf_X2_21 {p : Program} {l : Launch} {e : Env} {R : Room} {s : State} {m : MethodId} {args : Array Value} {below : List Frame} {meth : Method} {c : Code} {H : Heap} {locs : List Loc} {cells slots : Nat} {Q : State → Prop} {cc : ByteArray} {nL : Nat} {ret : Option FieldType} {pc : Nat} {ls : Array Slot} {rest : List Value} {D : va_G} {ids : Nat → ClassId} {ad : Nat → Nat} {h : Hp} {x : Int32} (hA : adOk ad 59) (C : CX p s m args meth c cc nL ret RX2 D ids) {k : Nat} (hk : isX2 k) (hP : wp D (cEC ids ad) ad 59 h H) (hS : va_S (inW ad 59) s.heap H locs) (hdg : decode cc pc = .ok (.putfield 21, 3)) (kk : ∀ (H1 : Heap) (locs1 : List Loc), wp D (cEC ids ad) ad 59 (hs h k 5 x) H1 → va_S (inW ad 59) s.heap H1 locs1 → W p l e R s m args below meth c H1 locs1 cells slots Q (F0 m (pc + 3) ls rest)) : W p l e R s m args below meth c H locs cells slots Q (F0 m pc ls (.int x :: .ref (ad k) :: rest)) :=
  u_put hA C hP hS (lt_X2 hk) (cE_X2 hk) rfl inX2 tyX2 tyX2_ok nmX2 5 (by decide) rfl q_50 rfl (ty := .int) rfl rfl rfl hdg kk
theorem pf_X2_24 {p : Program} {l : Launch} {e : Env} {R : Room} {s : State} {m : MethodId} {args : Array Value} {below : List Frame} {meth : Method} {c : Code} {H : Heap} {locs : List Loc} {cells slots : Nat} {Q : State → Prop} {cc : ByteArray} {nL : Nat} {ret : Option FieldType} {pc : Nat} {ls : Array Slot} {rest : List Value} {D : va_G} {ids : Nat → ClassId} {ad : Nat → Nat} {h : Hp} {x : Int32} (hA : adOk ad 59) (C : CX p s m args meth c cc nL ret RX2 D ids) {k : Nat} (hk : isX2 k) (hP : wp D (cEC ids ad) ad 59 h H) (hS : va_S (inW ad 59) s.heap H locs) (hdg : decode cc pc = .ok (.putfield 24, 3)) (kk : ∀ (H1 : Heap) (locs1 : List Loc), wp D (cEC ids ad) ad 59 (hs h k 6 x) H1 → va_S (inW ad 59) s.heap H1 locs1 → W p l e R s m args below meth c H1 locs1 cells slots Q (F0 m (pc + 3) ls rest)) : W p l e R s m args below meth c H locs cells slots Q (F0 m pc ls (.int x :: .ref (ad k) :: rest)) :=
  u_put hA C hP hS (lt_X2 hk) (cE_X2 hk) rfl inX2 tyX2 tyX2_ok nmX2 6 (by decide) rfl q_51 rfl (ty := .int) rfl rfl rfl hdg kk
theorem pf_X2_27 {p : Program} {l : Launch} {e : Env} {R : Room} {s : State} {m : MethodId} {args : Array Value} {below : List Frame} {meth : Method} {c : Code} {H : Heap} {locs : List Loc} {cells slots : Nat} {Q : State → Prop} {cc : ByteArray} {nL : Nat} {ret : Option FieldType} {pc : Nat} {ls : Array Slot} {rest : List Value} {D : va_G} {ids : Nat → ClassId} {ad : Nat → Nat} {h : Hp} {x : Int32} (hA : adOk ad 59) (C : CX p s m args meth c cc nL ret RX2 D ids) {k : Nat} (hk : isX2 k) (hP : wp D (cEC ids ad) ad 59 h H) (hS : va_S (inW ad 59) s.heap H locs) (hdg : decode cc pc = .ok (.putfield 27, 3)) (kk : ∀ (H1 : Heap) (locs1 : List Loc), wp D (cEC ids ad) ad 59 (hs h k 7 x) H1 → va_S (inW ad 59) s.heap H1 locs1 → W p l e R s m args below meth c H1 locs1 cells slots Q (F0 m (pc + 3) ls rest)) : W p l e R s m args below meth c H locs cells slots Q (F0 m pc ls (.int x :: .ref (ad k) :: rest)) :=
  u_put hA C hP hS (lt_X2 hk) (cE_X2 hk) rfl inX2 tyX2 tyX2_ok nmX2 7 (by decide) rfl q_52 rfl (ty := .int) rfl rfl rfl hdg kk
theorem pf_X2_30 {p : Program} {l : Launch} {e : Env} {R : Room} {s : State} {m : MethodId} {args : Array Value} {below : List Frame} {meth : Method} {c : Code} {H : Heap} {locs : List Loc} {cells slots : Nat} {Q : State → Prop} {cc : ByteArray} {nL : Nat} {ret : Option FieldType} {pc : Nat} {ls : Array Slot} {rest : List Value} {D : va_G} {ids : Nat → ClassId} {ad : Nat → Nat} {h : Hp} {x : Int32} (hA : adOk ad 59) (C : CX p s m args meth c cc nL ret RX2 D ids) {k : Nat} (hk : isX2 k) (hP : wp D (cEC ids ad) ad 59 h H) (hS : va_S (inW ad 59) s.heap H locs) (hdg : decode cc pc = .ok (.putfield 30, 3)) (kk : ∀ (H1 : Heap) (locs1 : List Loc), wp D (cEC ids ad) ad 59 (hs h k 8 x) H1 → va_S (inW ad 59) s.heap H1 locs1 → W p l e R s m args below meth c H1 locs1 cells slots Q (F0 m (pc + 3) ls rest)) : W p l e R s m args below meth c H locs cells slots Q (F0 m pc ls (.int x :: .ref (ad k) :: rest)) :=
  u_put hA C hP hS (lt_X2 hk) (cE_X2 hk) rfl inX2 tyX2 tyX2_ok nmX2 8 (by decide) rfl q_53 rfl (ty := .int) rfl rfl rfl hdg kk
theorem pf_X2_33 {p : Program} {l : Launch} {e : Env} {R : Room} {s : State} {m : MethodId} {args : Array Value} {below : List Frame} {meth : Method} {c : Code} {H : Heap} {locs : List Loc} {cells slots : Nat} {Q : State → Prop} {cc : ByteArray} {nL : Nat} {ret : Option FieldType} {pc : Nat} {ls : Array Slot} {rest : List Value} {D : va_G} {ids : Nat → ClassId} {ad : Nat → Nat} {h : Hp} {x : Int32} (hA : adOk ad 59) (C : CX p s m args meth c cc nL ret RX2 D ids) {k : Nat} (hk : isX2 k) (hP : wp D (cEC ids ad) ad 59 h H) (hS : va_S (inW ad 59) s.heap H locs) (hdg : decode cc pc = .ok (.putfield 33, 3)) (kk : ∀ (H1 : Heap) (locs1 : List Loc), wp D (cEC ids ad) ad 59 (hs h k 9 x) H1 → va_S (inW ad 59) s.heap H1 locs1 → W p l e R s m args below meth c H1 locs1 cells slots Q (F0 m (pc + 3) ls rest)) : W p l e R s m args below meth c H locs cells slots Q (F0 m pc ls (.int x :: .ref (ad k) :: rest)) :=
  u_put hA C hP hS (lt_X2 hk) (cE_X2 hk) rfl inX2 tyX2 tyX2_ok nmX2 9 (by decide) rfl q_54 rfl (ty := .int) rfl rfl rfl hdg kk
abbrev rm_X2_copyFrom : Room := { frames := 0, cells := 0, slots := 0, locals := 0 }
set_option maxRecDepth 100000 in
set_option maxHeartbeats 4000000 in
theorem w_X2_copyFrom_64 {p : Program} {l : Launch} {e : Env} {s : State} {m : MethodId} {args : Array Value} {below : List Frame} {meth : Method} {c : Code} {D : va_G} {ids : Nat → ClassId} {ad tt : Nat → Nat} {rv : Hp} (hA : adOk ad 59) (C : CX p s m args meth c cX2_copyFrom 2 none RX2 D ids) (hX : (ExC tt ad) s s.heap) {k : Nat} (hk : isX2 k) {k1 : Nat} (hk1 : isX2 k1) : ∀ (h : Hp) (H : Heap) (locs : List Loc) (ls : Array Slot), f_X2_copyFrom_64 k k1 h = some rv → wp D (cEC ids ad) ad 59 h H → va_S (inW ad 59) s.heap H locs → lv_has ls 2 [(0, .ref (ad k)), (1, .ref (ad k1))] → W p l e rm_X2_copyFrom s m args below meth c H locs 0 0 (MQ below (QW D (cEC ids ad) ad 59 none rv) args s 0 0 (inW ad 59)) (F0 m 64 ls []) := by
  intro h H locs ls hf hP hS hl
  unfold f_X2_copyFrom_64 at hf
  refine lv_aload_n C.1 C.2.1 dX2_copyFrom_64 rfl (lv_at hl 0 rfl) ?_
  refine lv_aload_n C.1 C.2.1 dX2_copyFrom_65 rfl (lv_at hl 1 rfl) ?_
  refine gf_X2_30 C hk1 hP dX2_copyFrom_66 ?_
  refine pf_X2_30 hA C hk hP hS dX2_copyFrom_69 (fun H locs hP hS => ?_)
  refine lv_aload_n C.1 C.2.1 dX2_copyFrom_72 rfl (lv_at hl 0 rfl) ?_
  refine lv_aload_n C.1 C.2.1 dX2_copyFrom_73 rfl (lv_at hl 1 rfl) ?_
  refine gf_X2_33 C hk1 hP dX2_copyFrom_74 ?_
  refine pf_X2_33 hA C hk hP hS dX2_copyFrom_77 (fun H locs hP hS => ?_)
  obtain rfl := Option.some.inj hf
  exact u_vret C hP hS dX2_copyFrom_80
set_option maxRecDepth 100000 in
set_option maxHeartbeats 4000000 in
theorem w_X2_copyFrom_48 {p : Program} {l : Launch} {e : Env} {s : State} {m : MethodId} {args : Array Value} {below : List Frame} {meth : Method} {c : Code} {D : va_G} {ids : Nat → ClassId} {ad tt : Nat → Nat} {rv : Hp} (hA : adOk ad 59) (C : CX p s m args meth c cX2_copyFrom 2 none RX2 D ids) (hX : (ExC tt ad) s s.heap) {k : Nat} (hk : isX2 k) {k1 : Nat} (hk1 : isX2 k1) : ∀ (h : Hp) (H : Heap) (locs : List Loc) (ls : Array Slot), f_X2_copyFrom_48 k k1 h = some rv → wp D (cEC ids ad) ad 59 h H → va_S (inW ad 59) s.heap H locs → lv_has ls 2 [(0, .ref (ad k)), (1, .ref (ad k1))] → W p l e rm_X2_copyFrom s m args below meth c H locs 0 0 (MQ below (QW D (cEC ids ad) ad 59 none rv) args s 0 0 (inW ad 59)) (F0 m 48 ls []) := by
  intro h H locs ls hf hP hS hl
  unfold f_X2_copyFrom_48 at hf
  refine lv_aload_n C.1 C.2.1 dX2_copyFrom_48 rfl (lv_at hl 0 rfl) ?_
  refine lv_aload_n C.1 C.2.1 dX2_copyFrom_49 rfl (lv_at hl 1 rfl) ?_
  refine gf_X2_24 C hk1 hP dX2_copyFrom_50 ?_
  refine pf_X2_24 hA C hk hP hS dX2_copyFrom_53 (fun H locs hP hS => ?_)
  refine lv_aload_n C.1 C.2.1 dX2_copyFrom_56 rfl (lv_at hl 0 rfl) ?_
  refine lv_aload_n C.1 C.2.1 dX2_copyFrom_57 rfl (lv_at hl 1 rfl) ?_
  refine gf_X2_27 C hk1 hP dX2_copyFrom_58 ?_
  refine pf_X2_27 hA C hk hP hS dX2_copyFrom_61 (fun H locs hP hS => ?_)
  exact w_X2_copyFrom_64 hA C hX hk hk1 _ _ _ _ hf hP hS (lv_sub hl [0, 1] rfl)
set_option maxRecDepth 100000 in
set_option maxHeartbeats 4000000 in
theorem w_X2_copyFrom_32 {p : Program} {l : Launch} {e : Env} {s : State} {m : MethodId} {args : Array Value} {below : List Frame} {meth : Method} {c : Code} {D : va_G} {ids : Nat → ClassId} {ad tt : Nat → Nat} {rv : Hp} (hA : adOk ad 59) (C : CX p s m args meth c cX2_copyFrom 2 none RX2 D ids) (hX : (ExC tt ad) s s.heap) {k : Nat} (hk : isX2 k) {k1 : Nat} (hk1 : isX2 k1) : ∀ (h : Hp) (H : Heap) (locs : List Loc) (ls : Array Slot), f_X2_copyFrom_32 k k1 h = some rv → wp D (cEC ids ad) ad 59 h H → va_S (inW ad 59) s.heap H locs → lv_has ls 2 [(0, .ref (ad k)), (1, .ref (ad k1))] → W p l e rm_X2_copyFrom s m args below meth c H locs 0 0 (MQ below (QW D (cEC ids ad) ad 59 none rv) args s 0 0 (inW ad 59)) (F0 m 32 ls []) := by
  intro h H locs ls hf hP hS hl
  unfold f_X2_copyFrom_32 at hf
  refine lv_aload_n C.1 C.2.1 dX2_copyFrom_32 rfl (lv_at hl 0 rfl) ?_
  refine lv_aload_n C.1 C.2.1 dX2_copyFrom_33 rfl (lv_at hl 1 rfl) ?_
  refine gf_X2_18 C hk1 hP dX2_copyFrom_34 ?_
  refine pf_X2_18 hA C hk hP hS dX2_copyFrom_37 (fun H locs hP hS => ?_)
  refine lv_aload_n C.1 C.2.1 dX2_copyFrom_40 rfl (lv_at hl 0 rfl) ?_
  refine lv_aload_n C.1 C.2.1 dX2_copyFrom_41 rfl (lv_at hl 1 rfl) ?_
  refine gf_X2_21 C hk1 hP dX2_copyFrom_42 ?_
  refine pf_X2_21 hA C hk hP hS dX2_copyFrom_45 (fun H locs hP hS => ?_)
  exact w_X2_copyFrom_48 hA C hX hk hk1 _ _ _ _ hf hP hS (lv_sub hl [0, 1] rfl)
set_option maxRecDepth 100000 in
set_option maxHeartbeats 4000000 in
theorem w_X2_copyFrom_16 {p : Program} {l : Launch} {e : Env} {s : State} {m : MethodId} {args : Array Value} {below : List Frame} {meth : Method} {c : Code} {D : va_G} {ids : Nat → ClassId} {ad tt : Nat → Nat} {rv : Hp} (hA : adOk ad 59) (C : CX p s m args meth c cX2_copyFrom 2 none RX2 D ids) (hX : (ExC tt ad) s s.heap) {k : Nat} (hk : isX2 k) {k1 : Nat} (hk1 : isX2 k1) : ∀ (h : Hp) (H : Heap) (locs : List Loc) (ls : Array Slot), f_X2_copyFrom_16 k k1 h = some rv → wp D (cEC ids ad) ad 59 h H → va_S (inW ad 59) s.heap H locs → lv_has ls 2 [(0, .ref (ad k)), (1, .ref (ad k1))] → W p l e rm_X2_copyFrom s m args below meth c H locs 0 0 (MQ below (QW D (cEC ids ad) ad 59 none rv) args s 0 0 (inW ad 59)) (F0 m 16 ls []) := by
  intro h H locs ls hf hP hS hl
  unfold f_X2_copyFrom_16 at hf
  refine lv_aload_n C.1 C.2.1 dX2_copyFrom_16 rfl (lv_at hl 0 rfl) ?_
  refine lv_aload_n C.1 C.2.1 dX2_copyFrom_17 rfl (lv_at hl 1 rfl) ?_
  refine gf_X2_15 C hk1 hP dX2_copyFrom_18 ?_
  refine pf_X2_15 hA C hk hP hS dX2_copyFrom_21 (fun H locs hP hS => ?_)
  refine lv_aload_n C.1 C.2.1 dX2_copyFrom_24 rfl (lv_at hl 0 rfl) ?_
  refine lv_aload_n C.1 C.2.1 dX2_copyFrom_25 rfl (lv_at hl 1 rfl) ?_
  refine gf_X2_39 C hk1 hP dX2_copyFrom_26 ?_
  refine pf_X2_39 hA C hk hP hS dX2_copyFrom_29 (fun H locs hP hS => ?_)
  exact w_X2_copyFrom_32 hA C hX hk hk1 _ _ _ _ hf hP hS (lv_sub hl [0, 1] rfl)
set_option maxRecDepth 100000 in
set_option maxHeartbeats 4000000 in
theorem w_X2_copyFrom {p : Program} {l : Launch} {e : Env} {s : State} {m : MethodId} {args : Array Value} {below : List Frame} {meth : Method} {c : Code} {D : va_G} {ids : Nat → ClassId} {ad tt : Nat → Nat} {rv : Hp} (hA : adOk ad 59) (C : CX p s m args meth c cX2_copyFrom 2 none RX2 D ids) (hX : (ExC tt ad) s s.heap) {k : Nat} (hk : isX2 k) {k1 : Nat} (hk1 : isX2 k1) : ∀ (h : Hp) (H : Heap) (locs : List Loc) (ls : Array Slot), f_X2_copyFrom h k k1 = some rv → wp D (cEC ids ad) ad 59 h H → va_S (inW ad 59) s.heap H locs → lv_has ls 2 [(0, .ref (ad k)), (1, .ref (ad k1))] → W p l e rm_X2_copyFrom s m args below meth c H locs 0 0 (MQ below (QW D (cEC ids ad) ad 59 none rv) args s 0 0 (inW ad 59)) (F0 m 0 ls []) := by
  intro h H locs ls hf hP hS hl
  unfold f_X2_copyFrom at hf
  refine lv_aload_n C.1 C.2.1 dX2_copyFrom_0 rfl (lv_at hl 0 rfl) ?_
  refine lv_aload_n C.1 C.2.1 dX2_copyFrom_1 rfl (lv_at hl 1 rfl) ?_
  refine gf_X2_36 C hk1 hP dX2_copyFrom_2 ?_
  refine pf_X2_36 hA C hk hP hS dX2_copyFrom_5 (fun H locs hP hS => ?_)
  refine lv_aload_n C.1 C.2.1 dX2_copyFrom_8 rfl (lv_at hl 0 rfl) ?_
  refine lv_aload_n C.1 C.2.1 dX2_copyFrom_9 rfl (lv_at hl 1 rfl) ?_
  refine gf_X2_9 C hk1 hP dX2_copyFrom_10 ?_
  refine pf_X2_9 hA C hk hP hS dX2_copyFrom_13 (fun H locs hP hS => ?_)
  exact w_X2_copyFrom_16 hA C hX hk hk1 _ _ _ _ hf hP hS (lv_sub hl [0, 1] rfl)
theorem c_X2_copyFrom (l : Launch) (D : va_G) (ids : Nat → ClassId) (ad tt : Nat → Nat) (hA : adOk ad 59) {k : Nat} (hk : isX2 k) {k1 : Nat} (hk1 : isX2 k1) {h : Hp} {rv : Hp} (hf : f_X2_copyFrom h k k1 = some rv) : Met l yX2_copyFrom (ws_ yX2_copyFrom cX2_copyFrom 2 none) rm_X2_copyFrom (va_Pc [.ref (ad k), .ref (ad k1)] (WB D ids (cEC ids ad) ad 59 (ExC tt ad) h)) (QW D (cEC ids ad) ad 59 none rv) 0 0 (inW ad 59) :=
  u_met (own := RX2) (by decide) rfl (Nat.le_of_ble_eq_true rfl) rfl (fun p e s m args below meth c H ls C hX hP hS hl => w_X2_copyFrom (tt := tt) hA C hX hk hk1 _ _ _ _ hf hP hS hl)
