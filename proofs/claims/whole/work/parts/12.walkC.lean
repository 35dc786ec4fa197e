abbrev rm_X7_isCaptain : Room := { frames := 0, cells := 0, slots := 0, locals := 0 }
set_option maxRecDepth 100000 in
set_option maxHeartbeats 4000000 in
theorem w_X7_isCaptain {p : Program} {l : Launch} {e : Env} {s : State} {m : MethodId} {args : Array Value} {below : List Frame} {meth : Method} {c : Code} {D : va_G} {ids : Nat → ClassId} {ad tt : Nat → Nat} {rv : Int32 × Hp} (hA : adOk ad 59) (C : CX p s m args meth c cX7_isCaptain 1 (some .boolean) RX7 D ids) (hX : (ExC tt ad) s s.heap) : ∀ (h : Hp) (a1 : Int32) (H : Heap) (locs : List Loc) (ls : Array Slot), f_X7_isCaptain h a1 = some rv → wp D (cEC ids ad) ad 59 h H → va_S (inW ad 59) s.heap H locs → lv_has ls 1 [(0, .int a1)] → W p l e rm_X7_isCaptain s m args below meth c H locs 0 0 (MQ below (QW D (cEC ids ad) ad 59 (some (.int rv.1)) rv.2) args s 0 0 (inW ad 59)) (F0 m 0 ls []) := by
  intro h a1 H locs ls hf hP hS hl
  unfold f_X7_isCaptain at hf
  refine lv_iload_n C.1 C.2.1 dX7_isCaptain_0 rfl (lv_at hl 0 rfl) ?_
  refine lv_if_lt (tgt := 13) C.1 C.2.1 dX7_isCaptain_1 (by decide) (fun hc => ?_) (fun hc => ?_)
  · have hf := g_t hc hf
    refine lv_iconst (v := (0 : Int32)) C.1 C.2.1 dX7_isCaptain_13 (by decide) ?_
    obtain rfl := Option.some.inj hf
    exact u_zret C hP hS isb_0 dX7_isCaptain_14
  · have hf := g_f hc hf
    refine lv_iload_n C.1 C.2.1 dX7_isCaptain_4 rfl (lv_at hl 0 rfl) ?_
    refine lv_iconst (v := (3 : Int32)) C.1 C.2.1 dX7_isCaptain_5 (by decide) ?_
    refine lv_icmp_ge (tgt := 13) C.1 C.2.1 dX7_isCaptain_6 (by decide) (fun hc => ?_) (fun hc => ?_)
    · have hf := g_t hc hf
      refine lv_iconst (v := (0 : Int32)) C.1 C.2.1 dX7_isCaptain_13 (by decide) ?_
      obtain rfl := Option.some.inj hf
      exact u_zret C hP hS isb_0 dX7_isCaptain_14
    · have hf := g_f hc hf
      refine lv_iconst (v := (1 : Int32)) C.1 C.2.1 dX7_isCaptain_9 (by decide) ?_
      refine lv_goto (tgt := 14) C.1 C.2.1 dX7_isCaptain_10 (by decide) ?_
      obtain rfl := Option.some.inj hf
      exact u_zret C hP hS isb_1 dX7_isCaptain_14
theorem c_X7_isCaptain (l : Launch) (D : va_G) (ids : Nat → ClassId) (ad tt : Nat → Nat) (hA : adOk ad 59) {a1 : Int32} {h : Hp} {rv : Int32 × Hp} (hf : f_X7_isCaptain h a1 = some rv) : Met l yX7_isCaptain (ws_ yX7_isCaptain cX7_isCaptain 1 (some .boolean)) rm_X7_isCaptain (va_Pc [.int a1] (WB D ids (cEC ids ad) ad 59 (ExC tt ad) h)) (QW D (cEC ids ad) ad 59 (some (.int rv.1)) rv.2) 0 0 (inW ad 59) :=
  u_met (own := RX7) (by decide) rfl (Nat.le_of_ble_eq_true rfl) rfl (fun p e s m args below meth c H ls C hX hP hS hl => w_X7_isCaptain (tt := tt) hA C hX _ _ _ _ _ hf hP hS hl)
theorem gf_X2_36 {p : Program} {l : Launch} {e : Env} {R : Room} {s : State} {m : MethodId} {args : Array Value} {below : List Frame} {meth : Method} {c : Code} {H : Heap} {locs : List Loc} {cells slots : Nat} {Q : State → Prop} {cc : ByteArray} {nL : Nat} {ret : Option FieldType} {pc : Nat} {ls : Array Slot} {rest : List Value} {D : va_G} {ids : Nat → ClassId} {ad : Nat → Nat} {h : Hp} (C : CX p s m args meth c cc nL ret RX2 D ids) {k : Nat} (hk : isX2 k) (hP : wp D (cEC ids ad) ad 59 h H) (hdg : decode cc pc = .ok (.getfield 36, 3)) (kk : W p l e R s m args below meth c H locs cells slots Q (F0 m (pc + 3) ls (.int (h k 0) :: rest))) : W p l e R s m args below meth c H locs cells slots Q (F0 m pc ls (.ref (ad k) :: rest)) :=
  u_get C hP (lt_X2 hk) (cE_X2 hk) rfl inX2 0 (by decide) rfl q_58 hdg kk
theorem gf_X2_9 {p : Program} {l : Launch} {e : Env} {R : Room} {s : State} {m : MethodId} {args : Array Value} {below : List Frame} {meth : Method} {c : Code} {H : Heap} {locs : List Loc} {cells slots : Nat} {Q : State → Prop} {cc : ByteArray} {nL : Nat} {ret : Option FieldType} {pc : Nat} {ls : Array Slot} {rest : List Value} {D : va_G} {ids : Nat → ClassId} {ad : Nat → Nat} {h : Hp} (C : CX p s m args meth c cc nL ret RX2 D ids) {k : Nat} (hk : isX2 k) (hP : wp D (cEC ids ad) ad 59 h H) (hdg : decode cc pc = .ok (.getfield 9, 3)) (kk : W p l e R s m args below meth c H locs cells slots Q (F0 m (pc + 3) ls (.int (h k 1) :: rest))) : W p l e R s m args below meth c H locs cells slots Q (F0 m pc ls (.ref (ad k) :: rest)) :=
  u_get C hP (lt_X2 hk) (cE_X2 hk) rfl inX2 1 (by decide) rfl q_50 hdg kk
theorem gf_X2_15 {p : Program} {l : Launch} {e : Env} {R : Room} {s : State} {m : MethodId} {args : Array Value} {below : List Frame} {meth : Method} {c : Code} {H : Heap} {locs : List Loc} {cells slots : Nat} {Q : State → Prop} {cc : ByteArray} {nL : Nat} {ret : Option FieldType} {pc : Nat} {ls : Array Slot} {rest : List Value} {D : va_G} {ids : Nat → ClassId} {ad : Nat → Nat} {h : Hp} (C : CX p s m args meth c cc nL ret RX2 D ids) {k : Nat} (hk : isX2 k) (hP : wp D (cEC ids ad) ad 59 h H) (hdg : decode cc pc = .ok (.getfield 15, 3)) (kk : W p l e R s m args below meth c H locs cells slots Q (F0 m (pc + 3) ls (.int (h k 2) :: rest))) : W p l e R s m args below meth c H locs cells slots Q (F0 m pc ls (.ref (ad k) :: rest)) :=
  u_get C hP (lt_X2 hk) (cE_X2 hk) rfl inX2 2 (by decide) rfl q_51 hdg kk
theorem gf_X2_39 {p : Program} {l : Launch} {e : Env} {R : Room} {s : State} {m : MethodId} {args : Array Value} {below : List Frame} {meth : Method} {c : Code} {H : Heap} {locs : List Loc} {cells slots : Nat} {Q : State → Prop} {cc : ByteArray} {nL : Nat} {ret : Option FieldType} {pc : Nat} {ls : Array Slot} {rest : List Value} {D : va_G} {ids : Nat → ClassId} {ad : Nat → Nat} {h : Hp} (C : CX p s m args meth c cc nL ret RX2 D ids) {k : Nat} (hk : isX2 k) (hP : wp D (cEC ids ad) ad 59 h H) (hdg : decode cc pc = .ok (.getfield 39, 3)) (kk : W p l e R s m args below meth c H locs cells slots Q (F0 m (pc + 3) ls (.int (h k 3) :: rest))) : W p l e R s m args below meth c H locs cells slots Q (F0 m pc ls (.ref (ad k) :: rest)) :=
  u_get C hP (lt_X2 hk) (cE_X2 hk) rfl inX2 3 (by decide) rfl q_59 hdg kk
theorem gf_X2_18 {p : Program} {l : Launch} {e : Env} {R : Room} {s : State} {m : MethodId} {args : Array Value} {below : List Frame} {meth : Method} {c : Code} {H : Heap} {locs : List Loc} {cells slots : Nat} {Q : State → Prop} {cc : ByteArray} {nL : Nat} {ret : Option FieldType} {pc : Nat} {ls : Array Slot} {rest : List Value} {D : va_G} {ids : Nat → ClassId} {ad : Nat → Nat} {h : Hp} (C : CX p s m args meth c cc nL ret RX2 D ids) {k : Nat} (hk : isX2 k) (hP : wp D (cEC ids ad) ad 59 h H) (hdg : decode cc pc = .ok (.getfield 18, 3)) (kk : W p l e R s m args below meth c H locs cells slots Q (F0 m (pc + 3) ls (.int (h k 4) :: rest))) : W p l e R s m args below meth c H locs cells slots Q (F0 m pc ls (.ref (ad k) :: rest)) :=
  u_get C hP (lt_X2 hk) (cE_X2 hk) rfl inX2 4 (by decide) rfl q_52 hdg kk
theorem gf_X2_21 {p : Program} {l : Launch} {e : Env} {R : Room} {s : State} {m : MethodId} {args : Array Value} {below : List Frame} {meth : Method} {c : Code} {H : Heap} {locs : List Loc} {cells slots : Nat} {Q : State → Prop} {cc : ByteArray} {nL : Nat} {ret : Option FieldType} {pc : Nat} {ls : Array Slot} {rest : List Value} {D : va_G} {ids : Nat → ClassId} {ad : Nat → Nat} {h : Hp} (C : CX p s m args meth c cc nL ret RX2 D ids) {k : Nat} (hk : isX2 k) (hP : wp D (cEC ids ad) ad 59 h H) (hdg : decode cc pc = .ok (.getfield 21, 3)) (kk : W p l e R s m args below meth c H locs cells slots Q (F0 m (pc + 3) ls (.int (h k 5) :: rest))) : W p l e R s m args below meth c H locs cells slots Q (F0 m pc ls (.ref (ad k) :: rest)) :=
  u_get C hP (lt_X2 hk) (cE_X2 hk) rfl inX2 5 (by decide) rfl q_53 hdg kk
theorem gf_X2_24 {p : Program} {l : Launch} {e : Env} {R : Room} {s : State} {m : MethodId} {args : Array Value} {below : List Frame} {meth : Method} {c : Code} {H : Heap} {locs : List Loc} {cells slots : Nat} {Q : State → Prop} {cc : ByteArray} {nL : Nat} {ret : Option FieldType} {pc : Nat} {ls : Array Slot} {rest : List Value} {D : va_G} {ids : Nat → ClassId} {ad : Nat → Nat} {h : Hp} (C : CX p s m args meth c cc nL ret RX2 D ids) {k : Nat} (hk : isX2 k) (hP : wp D (cEC ids ad) ad 59 h H) (hdg : decode cc pc = .ok (.getfield 24, 3)) (kk : W p l e R s m args below meth c H locs cells slots Q (F0 m (pc + 3) ls (.int (h k 6) :: rest))) : W p l e R s m args below meth c H locs cells slots Q (F0 m pc ls (.ref (ad k) :: rest)) :=
  u_get C hP (lt_X2 hk) (cE_X2 hk) rfl inX2 6 (by decide) rfl q_54 hdg kk
theorem gf_X2_27 {p : Program} {l : Launch} {e : Env} {R : Room} {s : State} {m : MethodId} {args : Array Value} {below : List Frame} {meth : Method} {c : Code} {H : Heap} {locs : List Loc} {cells slots : Nat} {Q : State → Prop} {cc : ByteArray} {nL : Nat} {ret : Option FieldType} {pc : Nat} {ls : Array Slot} {rest : List Value} {D : va_G} {ids : Nat → ClassId} {ad : Nat → Nat} {h : Hp} (C : CX p s m args meth c cc nL ret RX2 D ids) {k : Nat} (hk : isX2 k) (hP : wp D (cEC ids ad) ad 59 h H) (hdg : decode cc pc = .ok (.getfield 27, 3)) (kk : W p l e R s m args below meth c H locs cells slots Q (F0 m (pc + 3) ls (.int (h k 7) :: rest))) : W p l e R s m args below meth c H locs cells slots Q (F0 m pc ls (.ref (ad k) :: rest)) :=
  u_get C hP (lt_X2 hk) (cE_X2 hk) rfl inX2 7 (by decide) rfl q_55 hdg kk
theorem gf_X2_30 {p : Program} {l : Launch} {e : Env} {R : Room} {s : State} {m : MethodId} {args : Array Value} {below : List Frame} {meth : Method} {c : Code} {H : Heap} {locs : List Loc} {cells slots : Nat} {Q : State → Prop} {cc : ByteArray} {nL : Nat} {ret : Option FieldType} {pc : Nat} {ls : Array Slot} {rest : List Value} {D : va_G} {ids : Nat → ClassId} {ad : Nat → Nat} {h : Hp} (C : CX p s m args meth c cc nL ret RX2 D ids) {k : Nat} (hk : isX2 k) (hP : wp D (cEC ids ad) ad 59 h H) (hdg : decode cc pc = .ok (.getfield 30, 3)) (kk : W p l e R s m args below meth c H locs cells slots Q (F0 m (pc + 3) ls (.int (h k 8) :: rest))) : W p l e R s m args below meth c H locs cells slots Q (F0 m pc ls (.ref (ad k) :: rest)) :=
  u_get C hP (lt_X2 hk) (cE_X2 hk) rfl inX2 8 (by decide) rfl q_56 hdg kk
theorem gf_X2_33 {p : Program} {l : Launch} {e : Env} {R : Room} {s : State} {m : MethodId} {args : Array Value} {below : List Frame} {meth : Method} {c : Code} {H : Heap} {locs : List Loc} {cells slots : Nat} {Q : State → Prop} {cc : ByteArray} {nL : Nat} {ret : Option FieldType} {pc : Nat} {ls : Array Slot} {rest : List Value} {D : va_G} {ids : Nat → ClassId} {ad : Nat → Nat} {h : Hp} (C : CX p s m args meth c cc nL ret RX2 D ids) {k : Nat} (hk : isX2 k) (hP : wp D (cEC ids ad) ad 59 h H) (hdg : decode cc pc = .ok (.getfield 33, 3)) (kk : W p l e R s m args below meth c H locs cells slots Q (F0 m (pc + 3) ls (.int (h k 9) :: rest))) : W p l e R s m args below meth c H locs cells slots Q (F0 m pc ls (.ref (ad k) :: rest)) :=
  u_get C hP (lt_X2 hk) (cE_X2 hk) rfl inX2 9 (by decide) rfl q_57 hdg kk
abbrev rm_X2_tell : Room := { frames := 0, cells := 0, slots := 0, locals := 0 }
set_option maxRecDepth 100000 in
set_option maxHeartbeats 4000000 in
theorem w_X2_tell {p : Program} {l : Launch} {e : Env} {s : State} {m : MethodId} {args : Array Value} {below : List Frame} {meth : Method} {c : Code} {D : va_G} {ids : Nat → ClassId} {ad tt : Nat → Nat} {rv : Int32 × Hp} (hA : adOk ad 59) (C : CX p s m args meth c cX2_tell 2 (some .int) RX2 D ids) (hX : (ExC tt ad) s s.heap) {k : Nat} (hk : isX2 k) : ∀ (h : Hp) (a1 : Int32) (H : Heap) (locs : List Loc) (ls : Array Slot), f_X2_tell h k a1 = some rv → wp D (cEC ids ad) ad 59 h H → va_S (inW ad 59) s.heap H locs → lv_has ls 2 [(0, .ref (ad k)), (1, .int a1)] → W p l e rm_X2_tell s m args below meth c H locs 0 0 (MQ below (QW D (cEC ids ad) ad 59 (some (.int rv.1)) rv.2) args s 0 0 (inW ad 59)) (F0 m 0 ls []) := by
  intro h a1 H locs ls hf hP hS hl
  unfold f_X2_tell at hf
  refine lv_iload_n C.1 C.2.1 dX2_tell_0 rfl (lv_at hl 1 rfl) ?_
  by_cases hc0 : a1 = 0
  · have hf := g_t hc0 hf
    refine lv_tableIn (off := 59) (tgt := 60) C.1 C.2.1 dX2_tell_1 (by rw [hc0]; decide) (by rw [hc0]; decide) (by rw [hc0]; rfl) (by decide) ?_
    refine lv_aload_n C.1 C.2.1 dX2_tell_60 rfl (lv_at hl 0 rfl) ?_
    refine gf_X2_36 C hk hP dX2_tell_61 ?_
    obtain rfl := Option.some.inj hf
    exact u_iret C hP hS dX2_tell_64
  · have hf := g_f hc0 hf
    by_cases hc1 : a1 = 1
    · have hf := g_t hc1 hf
      refine lv_tableIn (off := 64) (tgt := 65) C.1 C.2.1 dX2_tell_1 (by rw [hc1]; decide) (by rw [hc1]; decide) (by rw [hc1]; rfl) (by decide) ?_
      refine lv_aload_n C.1 C.2.1 dX2_tell_65 rfl (lv_at hl 0 rfl) ?_
      refine gf_X2_9 C hk hP dX2_tell_66 ?_
      obtain rfl := Option.some.inj hf
      exact u_iret C hP hS dX2_tell_69
    · have hf := g_f hc1 hf
      by_cases hc2 : a1 = 2
      · have hf := g_t hc2 hf
        refine lv_tableIn (off := 69) (tgt := 70) C.1 C.2.1 dX2_tell_1 (by rw [hc2]; decide) (by rw [hc2]; decide) (by rw [hc2]; rfl) (by decide) ?_
        refine lv_aload_n C.1 C.2.1 dX2_tell_70 rfl (lv_at hl 0 rfl) ?_
        refine gf_X2_15 C hk hP dX2_tell_71 ?_
        obtain rfl := Option.some.inj hf
        exact u_iret C hP hS dX2_tell_74
      · have hf := g_f hc2 hf
        by_cases hc3 : a1 = 3
        · have hf := g_t hc3 hf
          refine lv_tableIn (off := 74) (tgt := 75) C.1 C.2.1 dX2_tell_1 (by rw [hc3]; decide) (by rw [hc3]; decide) (by rw [hc3]; rfl) (by decide) ?_
          refine lv_aload_n C.1 C.2.1 dX2_tell_75 rfl (lv_at hl 0 rfl) ?_
          refine gf_X2_39 C hk hP dX2_tell_76 ?_
          obtain rfl := Option.some.inj hf
          exact u_iret C hP hS dX2_tell_79
        · have hf := g_f hc3 hf
          by_cases hc4 : a1 = 4
          · have hf := g_t hc4 hf
            refine lv_tableIn (off := 109) (tgt := 110) C.1 C.2.1 dX2_tell_1 (by rw [hc4]; decide) (by rw [hc4]; decide) (by rw [hc4]; rfl) (by decide) ?_
            refine lv_iconst (v := (0 : Int32)) C.1 C.2.1 dX2_tell_110 (by decide) ?_
            obtain rfl := Option.some.inj hf
            exact u_iret C hP hS dX2_tell_111
          · have hf := g_f hc4 hf
            by_cases hc5 : a1 = 5
            · have hf := g_t hc5 hf
              refine lv_tableIn (off := 79) (tgt := 80) C.1 C.2.1 dX2_tell_1 (by rw [hc5]; decide) (by rw [hc5]; decide) (by rw [hc5]; rfl) (by decide) ?_
              refine lv_aload_n C.1 C.2.1 dX2_tell_80 rfl (lv_at hl 0 rfl) ?_
              refine gf_X2_18 C hk hP dX2_tell_81 ?_
              obtain rfl := Option.some.inj hf
              exact u_iret C hP hS dX2_tell_84
            · have hf := g_f hc5 hf
              by_cases hc6 : a1 = 6
              · have hf := g_t hc6 hf
                refine lv_tableIn (off := 84) (tgt := 85) C.1 C.2.1 dX2_tell_1 (by rw [hc6]; decide) (by rw [hc6]; decide) (by rw [hc6]; rfl) (by decide) ?_
                refine lv_aload_n C.1 C.2.1 dX2_tell_85 rfl (lv_at hl 0 rfl) ?_
                refine gf_X2_21 C hk hP dX2_tell_86 ?_
                obtain rfl := Option.some.inj hf
                exact u_iret C hP hS dX2_tell_89
              · have hf := g_f hc6 hf
                by_cases hc7 : a1 = 7
                · have hf := g_t hc7 hf
                  refine lv_tableIn (off := 89) (tgt := 90) C.1 C.2.1 dX2_tell_1 (by rw [hc7]; decide) (by rw [hc7]; decide) (by rw [hc7]; rfl) (by decide) ?_
                  refine lv_aload_n C.1 C.2.1 dX2_tell_90 rfl (lv_at hl 0 rfl) ?_
                  refine gf_X2_24 C hk hP dX2_tell_91 ?_
                  obtain rfl := Option.some.inj hf
                  exact u_iret C hP hS dX2_tell_94
                · have hf := g_f hc7 hf
                  by_cases hc8 : a1 = 8
                  · have hf := g_t hc8 hf
                    refine lv_tableIn (off := 94) (tgt := 95) C.1 C.2.1 dX2_tell_1 (by rw [hc8]; decide) (by rw [hc8]; decide) (by rw [hc8]; rfl) (by decide) ?_
                    refine lv_aload_n C.1 C.2.1 dX2_tell_95 rfl (lv_at hl 0 rfl) ?_
                    refine gf_X2_27 C hk hP dX2_tell_96 ?_
                    obtain rfl := Option.some.inj hf
                    exact u_iret C hP hS dX2_tell_99
                  · have hf := g_f hc8 hf
                    by_cases hc9 : a1 = 9
                    · have hf := g_t hc9 hf
                      refine lv_tableIn (off := 99) (tgt := 100) C.1 C.2.1 dX2_tell_1 (by rw [hc9]; decide) (by rw [hc9]; decide) (by rw [hc9]; rfl) (by decide) ?_
                      refine lv_aload_n C.1 C.2.1 dX2_tell_100 rfl (lv_at hl 0 rfl) ?_
                      refine gf_X2_30 C hk hP dX2_tell_101 ?_
                      obtain rfl := Option.some.inj hf
                      exact u_iret C hP hS dX2_tell_104
                    · have hf := g_f hc9 hf
                      by_cases hc10 : a1 = 10
                      · have hf := g_t hc10 hf
                        refine lv_tableIn (off := 104) (tgt := 105) C.1 C.2.1 dX2_tell_1 (by rw [hc10]; decide) (by rw [hc10]; decide) (by rw [hc10]; rfl) (by decide) ?_
                        refine lv_aload_n C.1 C.2.1 dX2_tell_105 rfl (lv_at hl 0 rfl) ?_
                        refine gf_X2_33 C hk hP dX2_tell_106 ?_
                        obtain rfl := Option.some.inj hf
                        exact u_iret C hP hS dX2_tell_109
                      · have hf := g_f hc10 hf
                        have hsw : a1.toInt < 0 ∨ 10 < a1.toInt := by
                          have zhc0 := lv_neT hc0 (show (0 : Int32).toInt = 0 by decide)
                          have zhc1 := lv_neT hc1 (show (1 : Int32).toInt = 1 by decide)
                          have zhc2 := lv_neT hc2 (show (2 : Int32).toInt = 2 by decide)
                          have zhc3 := lv_neT hc3 (show (3 : Int32).toInt = 3 by decide)
                          have zhc4 := lv_neT hc4 (show (4 : Int32).toInt = 4 by decide)
                          have zhc5 := lv_neT hc5 (show (5 : Int32).toInt = 5 by decide)
                          have zhc6 := lv_neT hc6 (show (6 : Int32).toInt = 6 by decide)
                          have zhc7 := lv_neT hc7 (show (7 : Int32).toInt = 7 by decide)
                          have zhc8 := lv_neT hc8 (show (8 : Int32).toInt = 8 by decide)
                          have zhc9 := lv_neT hc9 (show (9 : Int32).toInt = 9 by decide)
                          have zhc10 := lv_neT hc10 (show (10 : Int32).toInt = 10 by decide)
                          omega
                        refine lv_tableOut (tgt := 110) C.1 C.2.1 dX2_tell_1 hsw (by decide) ?_
                        refine lv_iconst (v := (0 : Int32)) C.1 C.2.1 dX2_tell_110 (by decide) ?_
                        obtain rfl := Option.some.inj hf
                        exact u_iret C hP hS dX2_tell_111
theorem c_X2_tell (l : Launch) (D : va_G) (ids : Nat → ClassId) (ad tt : Nat → Nat) (hA : adOk ad 59) {k : Nat} (hk : isX2 k) {a1 : Int32} {h : Hp} {rv : Int32 × Hp} (hf : f_X2_tell h k a1 = some rv) : Met l yX2_tell (ws_ yX2_tell cX2_tell 2 (some .int)) rm_X2_tell (va_Pc [.ref (ad k), .int a1] (WB D ids (cEC ids ad) ad 59 (ExC tt ad) h)) (QW D (cEC ids ad) ad 59 (some (.int rv.1)) rv.2) 0 0 (inW ad 59) :=
  u_met (own := RX2) (by decide) rfl (Nat.le_of_ble_eq_true rfl) rfl (fun p e s m args below meth c H ls C hX hP hS hl => w_X2_tell (tt := tt) hA C hX hk _ _ _ _ _ hf hP hS hl)
theorem pf_X2_36 {p : Program} {l : Launch} {e : Env} {R : Room} {s : State} {m : MethodId} {args : Array Value} {below : List Frame} {meth : Method} {c : Code} {H : Heap} {locs : List Loc} {cells slots : Nat} {Q : State → Prop} {cc : ByteArray} {nL : Nat} {ret : Option FieldType} {pc : Nat} {ls : Array Slot} {rest : List Value} {D : va_G} {ids : Nat → ClassId} {ad : Nat → Nat} {h : Hp} {x : Int32} (hA : adOk ad 59) (C : CX p s m args meth c cc nL ret RX2 D ids) {k : Nat} (hk : isX2 k) (hP : wp D (cEC ids ad) ad 59 h H) (hS : va_S (inW ad 59) s.heap H locs) (hdg : decode cc pc = .ok (.putfield 36, 3)) (kk : ∀ (H1 : Heap) (locs1 : List Loc), wp D (cEC ids ad) ad 59 (hs h k 0 x) H1 → va_S (inW ad 59) s.heap H1 locs1 → W p l e R s m args below meth c H1 locs1 cells slots Q (F0 m (pc + 3) ls rest)) : W p l e R s m args below meth c H locs cells slots Q (F0 m pc ls (.int x :: .ref (ad k) :: rest)) :=
  u_put hA C hP hS (lt_X2 hk) (cE_X2 hk) rfl inX2 tyX2 tyX2_ok nmX2 0 (by decide) rfl q_58 rfl (ty := .int) rfl rfl rfl hdg kk
theorem pf_X2_9 {p : Program} {l : Launch} {e : Env} {R : Room} {s : State} {m : MethodId} {args : Array Value} {below : List Frame} {meth : Method} {c : Code} {H : Heap} {locs : List Loc} {cells slots : Nat} {Q : State → Prop} {cc : ByteArray} {nL : Nat} {ret : Option FieldType} {pc : Nat} {ls : Array Slot} {rest : List Value} {D : va_G} {ids : Nat → ClassId} {ad : Nat → Nat} {h : Hp} {x : Int32} (hA : adOk ad 59) (C : CX p s m args meth c cc nL ret RX2 D ids) {k : Nat} (hk : isX2 k) (hP : wp D (cEC ids ad) ad 59 h H) (hS : va_S (inW ad 59) s.heap H locs) (hdg : decode cc pc = .ok (.putfield 9, 3)) (kk : ∀ (H1 : Heap) (locs1 : List Loc), wp D (cEC ids ad) ad 59 (hs h k 1 x) H1 → va_S (inW ad 59) s.heap H1 locs1 → W p l e R s m args below meth c H1 locs1 cells slots Q (F0 m (pc + 3) ls rest)) : W p l e R s m args below meth c H locs cells slots Q (F0 m pc ls (.int x :: .ref (ad k) :: rest)) :=
  u_put hA C hP hS (lt_X2 hk) (cE_X2 hk) rfl inX2 tyX2 tyX2_ok nmX2 1 (by decide) rfl q_50 rfl (ty := .int) rfl rfl rfl hdg kk
theorem pf_X2_15 {p : Program} {l : Launch} {e : Env} {R : Room} {s : State} {m : MethodId} {args : Array Value} {below : List Frame} {meth : Method} {c : Code} {H : Heap} {locs : List Loc} {cells slots : Nat} {Q : State → Prop} {cc : ByteArray} {nL : Nat} {ret : Option FieldType} {pc : Nat} {ls : Array Slot} {rest : List Value} {D : va_G} {ids : Nat → ClassId} {ad : Nat → Nat} {h : Hp} {x : Int32} (hA : adOk ad 59) (C : CX p s m args meth c cc nL ret RX2 D ids) {k : Nat} (hk : isX2 k) (hP : wp D (cEC ids ad) ad 59 h H) (hS : va_S (inW ad 59) s.heap H locs) (hdg : decode cc pc = .ok (.putfield 15, 3)) (kk : ∀ (H1 : Heap) (locs1 : List Loc), wp D (cEC ids ad) ad 59 (hs h k 2 x) H1 → va_S (inW ad 59) s.heap H1 locs1 → W p l e R s m args below meth c H1 locs1 cells slots Q (F0 m (pc + 3) ls rest)) : W p l e R s m args below meth c H locs cells slots Q (F0 m pc ls (.int x :: .ref (ad k) :: rest)) :=
  u_put hA C hP hS (lt_X2 hk) (cE_X2 hk) rfl inX2 tyX2 tyX2_ok nmX2 2 (by decide) rfl q_51 rfl (ty := .int) rfl rfl rfl hdg kk
theorem pf_X2_39 {p : Program} {l : Launch} {e : Env} {R : Room} {s : State} {m : MethodId} {args : Array Value} {below : List Frame} {meth : Method} {c : Code} {H : Heap} {locs : List Loc} {cells slots : Nat} {Q : State → Prop} {cc : ByteArray} {nL : Nat} {ret : Option FieldType} {pc : Nat} {ls : Array Slot} {rest : List Value} {D : va_G} {ids : Nat → ClassId} {ad : Nat → Nat} {h : Hp} {x : Int32} (hA : adOk ad 59) (C : CX p s m args meth c cc nL ret RX2 D ids) {k : Nat} (hk : isX2 k) (hP : wp D (cEC ids ad) ad 59 h H) (hS : va_S (inW ad 59) s.heap H locs) (hdg : decode cc pc = .ok (.putfield 39, 3)) (kk : ∀ (H1 : Heap) (locs1 : List Loc), wp D (cEC ids ad) ad 59 (hs h k 3 x) H1 → va_S (inW ad 59) s.heap H1 locs1 → W p l e R s m args below meth c H1 locs1 cells slots Q (F0 m (pc + 3) ls rest)) : W p l e R s m args below meth c H locs cells slots Q (F0 m pc ls (.int x :: .ref (ad k) :: rest)) :=
  u_put hA C hP hS (lt_X2 hk) (cE_X2 hk) rfl inX2 tyX2 tyX2_ok nmX2 3 (by decide) rfl q_59 rfl (ty := .int) rfl rfl rfl hdg kk
theorem pf_X2_18 {p : Program} {l : Launch} {e : Env} {R : Room} {s : State} {m : MethodId} {args : Array Value} {below : List Frame} {meth : Method} {c : Code} {H : Heap} {locs : List Loc} {cells slots : Nat} {Q : State → Prop} {cc : ByteArray} {nL : Nat} {ret : Option FieldType} {pc : Nat} {ls : Array Slot} {rest : List Value} {D : va_G} {ids : Nat → ClassId} {ad : Nat → Nat} {h : Hp} {x : Int32} (hA : adOk ad 59) (C : CX p s m args meth c cc nL ret RX2 D ids) {k : Nat} (hk : isX2 k) (hP : wp D (cEC ids ad) ad 59 h H) (hS : va_S (inW ad 59) s.heap H locs) (hdg : decode cc pc = .ok (.putfield 18, 3)) (kk : ∀ (H1 : Heap) (locs1 : List Loc), wp D (cEC ids ad) ad 59 (hs h k 4 x) H1 → va_S (inW ad 59) s.heap H1 locs1 → W p l e R s m args below meth c H1 locs1 cells slots Q (F0 m (pc + 3) ls rest)) : W p l e R s m args below meth c H locs cells slots Q (F0 m pc ls (.int x :: .ref (ad k) :: rest)) :=
  u_put hA C hP hS (lt_X2 hk) (cE_X2 hk) rfl inX2 tyX2 tyX2_ok nmX2 4 (by decide) rfl q_52 rfl (ty := .int) rfl rfl rfl hdg kk
theorem pf_X2_21 {p : Program} {l : Launch} {e : Env} {R : Room} {s : State} {m : MethodId} {args : Array Value} {below : List Frame} {meth : Method} {c : Code} {H : Heap} {locs : List Loc} {cells slots : Nat} {Q : State → Prop} {cc : ByteArray} {nL : Nat} {ret : Option FieldType} {pc : Nat} {ls : Array Slot} {rest : List Value} {D : va_G} {ids : Nat → ClassId} {ad : Nat → Nat} {h : Hp} {x : Int32} (hA : adOk ad 59) (C : CX p s m args meth c cc nL ret RX2 D ids) {k : Nat} (hk : isX2 k) (hP : wp D (cEC ids ad) ad 59 h H) (hS : va_S (inW ad 59) s.heap H locs) (hdg : decode cc pc = .ok (.putfield 21, 3)) (kk : ∀ (H1 : Heap) (locs1 : List Loc), wp D (cEC ids ad) ad 59 (hs h k 5 x) H1 → va_S (inW ad 59) s.heap H1 locs1 → W p l e R s m args below meth c H1 locs1 cells slots Q (F0 m (pc + 3) ls rest)) : W p l e R s m args below meth c H locs cells slots Q (F0 m pc ls (.int x :: .ref (ad k) :: rest)) :=
  u_put hA C hP hS (lt_X2 hk) (cE_X2 hk) rfl inX2 tyX2 tyX2_ok nmX2 5 (by decide) rfl q_53 rfl (ty := .int) rfl rfl rfl hdg kk
theorem pf_X2_24 {p : Program} {l : Launch} {e : Env} {R : Room} {s : State} {m : MethodId} {args : Array Value} {below : List Frame} {meth : Method} {c : Code} {H : Heap} {locs : List Loc} {cells slots : Nat} {Q : State → Prop} {cc : ByteArray} {nL : Nat} {ret : Option FieldType} {pc : Nat} {ls : Array Slot} {rest : List Value} {D : va_G} {ids : Nat → ClassId} {ad : Nat → Nat} {h : Hp} {x : Int32} (hA : adOk ad 59) (C : CX p s m args meth c cc nL ret RX2 D ids) {k : Nat} (hk : isX2 k) (hP : wp D (cEC ids ad) ad 59 h H) (hS : va_S (inW ad 59) s.heap H locs) (hdg : decode cc pc = .ok (.putfield 24, 3)) (kk : ∀ (H1 : Heap) (locs1 : List Loc), wp D (cEC ids ad) ad 59 (hs h k 6 x) H1 → va_S (inW ad 59) s.heap H1 locs1 → W p l e R s m args below meth c H1 locs1 cells slots Q (F0 m (pc + 3) ls rest)) : W p l e R s m args below meth c H locs cells slots Q (F0 m pc ls (.int x :: .ref (ad k) :: rest)) :=
  u_put hA C hP hS (lt_X2 hk) (cE_X2 hk) rfl inX2 tyX2 tyX2_ok nmX2 6 (by decide) rfl q_54 rfl (ty := .int) rfl rfl rfl hdg kk
theorem pf_X2_27 {p : Program} {l : Launch} {e : Env} {R : Room} {s : State} {m : MethodId} {args : Array Value} {below : List Frame} {meth : Method} {c : Code} {H : Heap} {locs : List Loc} {cells slots : Nat} {Q : State → Prop} {cc : ByteArray} {nL : Nat} {ret : Option FieldType} {pc : Nat} {ls : Array Slot} {rest : List Value} {D : va_G} {ids : Nat → ClassId} {ad : Nat → Nat} {h : Hp} {x : Int32} (hA : adOk ad 59) (C : CX p s m args meth c cc nL ret RX2 D ids) {k : Nat} (hk : isX2 k) (hP : wp D (cEC ids ad) ad 59 h H) (hS : va_S (inW ad 59) s.heap H locs) (hdg : decode cc pc = .ok (.putfield 27, 3)) (kk : ∀ (H1 : Heap) (locs1 : List Loc), wp D (cEC ids ad) ad 59 (hs h k 7 x) H1 → va_S (inW ad 59) s.heap H1 locs1 → W p l e R s m args below meth c H1 locs1 cells slots Q (F0 m (pc + 3) ls rest)) : W p l e R s m args below meth c H locs cells slots Q (F0 m pc ls (.int x :: .ref (ad k) :: rest)) :=
  u_put hA C hP hS (lt_X2 hk) (cE_X2 hk) rfl inX2 tyX2 tyX2_ok nmX2 7 (by decide) rfl q_55 rfl (ty := .int) rfl rfl rfl hdg kk
theorem pf_X2_30 {p : Program} {l : Launch} {e : Env} {R : Room} {s : State} {m : MethodId} {args : Array Value} {below : List Frame} {meth : Method} {c : Code} {H : Heap} {locs : List Loc} {cells slots : Nat} {Q : State → Prop} {cc : ByteArray} {nL : Nat} {ret : Option FieldType} {pc : Nat} {ls : Array Slot} {rest : List Value} {D : va_G} {ids : Nat → ClassId} {ad : Nat → Nat} {h : Hp} {x : Int32} (hA : adOk ad 59) (C : CX p s m args meth c cc nL ret RX2 D ids) {k : Nat} (hk : isX2 k) (hP : wp D (cEC ids ad) ad 59 h H) (hS : va_S (inW ad 59) s.heap H locs) (hdg : decode cc pc = .ok (.putfield 30, 3)) (kk : ∀ (H1 : Heap) (locs1 : List Loc), wp D (cEC ids ad) ad 59 (hs h k 8 x) H1 → va_S (inW ad 59) s.heap H1 locs1 → W p l e R s m args below meth c H1 locs1 cells slots Q (F0 m (pc + 3) ls rest)) : W p l e R s m args below meth c H locs cells slots Q (F0 m pc ls (.int x :: .ref (ad k) :: rest)) :=
  u_put hA C hP hS (lt_X2 hk) (cE_X2 hk) rfl inX2 tyX2 tyX2_ok nmX2 8 (by decide) rfl q_56 rfl (ty := .int) rfl rfl rfl hdg kk
theorem pf_X2_33 {p : Program} {l : Launch} {e : Env} {R : Room} {s : State} {m : MethodId} {args : Array Value} {below : List Frame} {meth : Method} {c : Code} {H : Heap} {locs : List Loc} {cells slots : Nat} {Q : State → Prop} {cc : ByteArray} {nL : Nat} {ret : Option FieldType} {pc : Nat} {ls : Array Slot} {rest : List Value} {D : va_G} {ids : Nat → ClassId} {ad : Nat → Nat} {h : Hp} {x : Int32} (hA : adOk ad 59) (C : CX p s m args meth c cc nL ret RX2 D ids) {k : Nat} (hk : isX2 k) (hP : wp D (cEC ids ad) ad 59 h H) (hS : va_S (inW ad 59) s.heap H locs) (hdg : decode cc pc = .ok (.putfield 33, 3)) (kk : ∀ (H1 : Heap) (locs1 : List Loc), wp D (cEC ids ad) ad 59 (hs h k 9 x) H1 → va_S (inW ad 59) s.heap H1 locs1 → W p l e R s m args below meth c H1 locs1 cells slots Q (F0 m (pc + 3) ls rest)) : W p l e R s m args below meth c H locs cells slots Q (F0 m pc ls (.int x :: .ref (ad k) :: rest)) :=
  u_put hA C hP hS (lt_X2 hk) (cE_X2 hk) rfl inX2 tyX2 tyX2_ok nmX2 9 (by decide) rfl q_57 rfl (ty := .int) rfl rfl rfl hdg kk
abbrev rm_X2_copyFrom : Room := { frames := 0, cells := 0, slots := 0, locals := 0 }
set_option maxRecDepth 100000 in
set_option maxHeartbeats 4000000 in
theorem w_X2_copyFrom_64 {p : Program} {l : Launch} {e : Env} {s : State} {m : MethodId} {args : Array Value} {below : List Frame} {meth : Method} {c : Code} {D : va_G} {ids : Nat → ClassId} {ad tt : Nat → Nat} {rv : Hp} (hA : adOk ad 59) (C : CX p s m args meth c cX2_copyFrom 2 none RX2 D ids) (hX : (ExC tt ad) s s.heap) {k : Nat} (hk : isX2 k) {k1 : Nat} (hk1 : isX2 k1) : ∀ (h : Hp) (H : Heap) (locs : List Loc) (ls : Array Slot), f_X2_copyFrom_64 k k1 h = some rv → wp D (cEC ids ad) ad 59 h H → va_S (inW ad 59) s.heap H locs → lv_has ls 2 [(0, .ref (ad k)), (1, .ref (ad k1))] → W p l e rm_X2_copyFrom s m args below meth c H locs 0 0 (MQ below (QW D (cEC ids ad) ad 59 none rv) args s 0 0 (inW ad 59)) (F0 m 64 ls []) := by
  intro h H locs ls hf hP hS hl
  unfold f_X2_copyFrom_64 at hf
  refine lv_aload_n C.1 C.2.1 dX2_copyFrom_64 rfl (lv_at hl 0 rfl) ?_
  refine lv_aload_n C.1 C.2.1 dX2_copyFrom_65 rfl (lv_at hl 1 rfl) ?_
  refine gf_X2_30 C hk1 hP dX2_copyFrom_66 ?_
  refine pf_X2_30 hA C hk hP hS dX2_copyFrom_69 (fun H locs hP hS => ?_)
  refine lv_aload_n C.1 C.2.1 dX2_copyFrom_72 rfl (lv_at hl 0 rfl) ?_
  refine lv_aload_n C.1 C.2.1 dX2_copyFrom_73 rfl (lv_at hl 1 rfl) ?_
  refine gf_X2_33 C hk1 hP dX2_copyFrom_74 ?_
  refine pf_X2_33 hA C hk hP hS dX2_copyFrom_77 (fun H locs hP hS => ?_)
  obtain rfl := Option.some.inj hf
  exact u_vret C hP hS dX2_copyFrom_80
set_option maxRecDepth 100000 in
set_option maxHeartbeats 4000000 in
theorem w_X2_copyFrom_48 {p : Program} {l : Launch} {e : Env} {s : State} {m : MethodId} {args : Array Value} {below : List Frame} {meth : Method} {c : Code} {D : va_G} {ids : Nat → ClassId} {ad tt : Nat → Nat} {rv : Hp} (hA : adOk ad 59) (C : CX p s m args meth c cX2_copyFrom 2 none RX2 D ids) (hX : (ExC tt ad) s s.heap) {k : Nat} (hk : isX2 k) {k1 : Nat} (hk1 : isX2 k1) : ∀ (h : Hp) (H : Heap) (locs : List Loc) (ls : Array Slot), f_X2_copyFrom_48 k k1 h = some rv → wp D (cEC ids ad) ad 59 h H → va_S (inW ad 59) s.heap H locs → lv_has ls 2 [(0, .ref (ad k)), (1, .ref (ad k1))] → W p l e rm_X2_copyFrom s m args below meth c H locs 0 0 (MQ below (QW D (cEC ids ad) ad 59 none rv) args s 0 0 (inW ad 59)) (F0 m 48 ls []) := by
  intro h H locs ls hf hP hS hl
  unfold f_X2_copyFrom_48 at hf
  refine lv_aload_n C.1 C.2.1 dX2_copyFrom_48 rfl (lv_at hl 0 rfl) ?_
  refine lv_aload_n C.1 C.2.1 dX2_copyFrom_49 rfl (lv_at hl 1 rfl) ?_
  refine gf_X2_24 C hk1 hP dX2_copyFrom_50 ?_
  refine pf_X2_24 hA C hk hP hS dX2_copyFrom_53 (fun H locs hP hS => ?_)
  refine lv_aload_n C.1 C.2.1 dX2_copyFrom_56 rfl (lv_at hl 0 rfl) ?_
  refine lv_aload_n C.1 C.2.1 dX2_copyFrom_57 rfl (lv_at hl 1 rfl) ?_
  refine gf_X2_27 C hk1 hP dX2_copyFrom_58 ?_
  refine pf_X2_27 hA C hk hP hS dX2_copyFrom_61 (fun H locs hP hS => ?_)
  exact w_X2_copyFrom_64 hA C hX hk hk1 _ _ _ _ hf hP hS (lv_sub hl [0, 1] rfl)
set_option maxRecDepth 100000 in
set_option maxHeartbeats 4000000 in
theorem w_X2_copyFrom_32 {p : Program} {l : Launch} {e : Env} {s : State} {m : MethodId} {args : Array Value} {below : List Frame} {meth : Method} {c : Code} {D : va_G} {ids : Nat → ClassId} {ad tt : Nat → Nat} {rv : Hp} (hA : adOk ad 59) (C : CX p s m args meth c cX2_copyFrom 2 none RX2 D ids) (hX : (ExC tt ad) s s.heap) {k : Nat} (hk : isX2 k) {k1 : Nat} (hk1 : isX2 k1) : ∀ (h : Hp) (H : Heap) (locs : List Loc) (ls : Array Slot), f_X2_copyFrom_32 k k1 h = some rv → wp D (cEC ids ad) ad 59 h H → va_S (inW ad 59) s.heap H locs → lv_has ls 2 [(0, .ref (ad k)), (1, .ref (ad k1))] → W p l e rm_X2_copyFrom s m args below meth c H locs 0 0 (MQ below (QW D (cEC ids ad) ad 59 none rv) args s 0 0 (inW ad 59)) (F0 m 32 ls []) := by
  intro h H locs ls hf hP hS hl
  unfold f_X2_copyFrom_32 at hf
  refine lv_aload_n C.1 C.2.1 dX2_copyFrom_32 rfl (lv_at hl 0 rfl) ?_
  refine lv_aload_n C.1 C.2.1 dX2_copyFrom_33 rfl (lv_at hl 1 rfl) ?_
  refine gf_X2_18 C hk1 hP dX2_copyFrom_34 ?_
  refine pf_X2_18 hA C hk hP hS dX2_copyFrom_37 (fun H locs hP hS => ?_)
  refine lv_aload_n C.1 C.2.1 dX2_copyFrom_40 rfl (lv_at hl 0 rfl) ?_
  refine lv_aload_n C.1 C.2.1 dX2_copyFrom_41 rfl (lv_at hl 1 rfl) ?_
  refine gf_X2_21 C hk1 hP dX2_copyFrom_42 ?_
  refine pf_X2_21 hA C hk hP hS dX2_copyFrom_45 (fun H locs hP hS => ?_)
  exact w_X2_copyFrom_48 hA C hX hk hk1 _ _ _ _ hf hP hS (lv_sub hl [0, 1] rfl)
set_option maxRecDepth 100000 in
set_option maxHeartbeats 4000000 in
theorem w_X2_copyFrom_16 {p : Program} {l : Launch} {e : Env} {s : State} {m : MethodId} {args : Array Value} {below : List Frame} {meth : Method} {c : Code} {D : va_G} {ids : Nat → ClassId} {ad tt : Nat → Nat} {rv : Hp} (hA : adOk ad 59) (C : CX p s m args meth c cX2_copyFrom 2 none RX2 D ids) (hX : (ExC tt ad) s s.heap) {k : Nat} (hk : isX2 k) {k1 : Nat} (hk1 : isX2 k1) : ∀ (h : Hp) (H : Heap) (locs : List Loc) (ls : Array Slot), f_X2_copyFrom_16 k k1 h = some rv → wp D (cEC ids ad) ad 59 h H → va_S (inW ad 59) s.heap H locs → lv_has ls 2 [(0, .ref (ad k)), (1, .ref (ad k1))] → W p l e rm_X2_copyFrom s m args below meth c H locs 0 0 (MQ below (QW D (cEC ids ad) ad 59 none rv) args s 0 0 (inW ad 59)) (F0 m 16 ls []) := by
  intro h H locs ls hf hP hS hl
  unfold f_X2_copyFrom_16 at hf
  refine lv_aload_n C.1 C.2.1 dX2_copyFrom_16 rfl (lv_at hl 0 rfl) ?_
  refine lv_aload_n C.1 C.2.1 dX2_copyFrom_17 rfl (lv_at hl 1 rfl) ?_
  refine gf_X2_15 C hk1 hP dX2_copyFrom_18 ?_
  refine pf_X2_15 hA C hk hP hS dX2_copyFrom_21 (fun H locs hP hS => ?_)
  refine lv_aload_n C.1 C.2.1 dX2_copyFrom_24 rfl (lv_at hl 0 rfl) ?_
  refine lv_aload_n C.1 C.2.1 dX2_copyFrom_25 rfl (lv_at hl 1 rfl) ?_
  refine gf_X2_39 C hk1 hP dX2_copyFrom_26 ?_
  refine pf_X2_39 hA C hk hP hS dX2_copyFrom_29 (fun H locs hP hS => ?_)
  exact w_X2_copyFrom_32 hA C hX hk hk1 _ _ _ _ hf hP hS (lv_sub hl [0, 1] rfl)
set_option maxRecDepth 100000 in
set_option maxHeartbeats 4000000 in
theorem w_X2_copyFrom {p : Program} {l : Launch} {e : Env} {s : State} {m : MethodId} {args : Array Value} {below : List Frame} {meth : Method} {c : Code} {D : va_G} {ids : Nat → ClassId} {ad tt : Nat → Nat} {rv : Hp} (hA : adOk ad 59) (C : CX p s m args meth c cX2_copyFrom 2 none RX2 D ids) (hX : (ExC tt ad) s s.heap) {k : Nat} (hk : isX2 k) {k1 : Nat} (hk1 : isX2 k1) : ∀ (h : Hp) (H : Heap) (locs : List Loc) (ls : Array Slot), f_X2_copyFrom h k k1 = some rv → wp D (cEC ids ad) ad 59 h H → va_S (inW ad 59) s.heap H locs → lv_has ls 2 [(0, .ref (ad k)), (1, .ref (ad k1))] → W p l e rm_X2_copyFrom s m args below meth c H locs 0 0 (MQ below (QW D (cEC ids ad) ad 59 none rv) args s 0 0 (inW ad 59)) (F0 m 0 ls []) := by
  intro h H locs ls hf hP hS hl
  unfold f_X2_copyFrom at hf
  refine lv_aload_n C.1 C.2.1 dX2_copyFrom_0 rfl (lv_at hl 0 rfl) ?_
  refine lv_aload_n C.1 C.2.1 dX2_copyFrom_1 rfl (lv_at hl 1 rfl) ?_
  refine gf_X2_36 C hk1 hP dX2_copyFrom_2 ?_
  refine pf_X2_36 hA C hk hP hS dX2_copyFrom_5 (fun H locs hP hS => ?_)
  refine lv_aload_n C.1 C.2.1 dX2_copyFrom_8 rfl (lv_at hl 0 rfl) ?_
  refine lv_aload_n C.1 C.2.1 dX2_copyFrom_9 rfl (lv_at hl 1 rfl) ?_
  refine gf_X2_9 C hk1 hP dX2_copyFrom_10 ?_
  refine pf_X2_9 hA C hk hP hS dX2_copyFrom_13 (fun H locs hP hS => ?_)
  exact w_X2_copyFrom_16 hA C hX hk hk1 _ _ _ _ hf hP hS (lv_sub hl [0, 1] rfl)
theorem c_X2_copyFrom (l : Launch) (D : va_G) (ids : Nat → ClassId) (ad tt : Nat → Nat) (hA : adOk ad 59) {k : Nat} (hk : isX2 k) {k1 : Nat} (hk1 : isX2 k1) {h : Hp} {rv : Hp} (hf : f_X2_copyFrom h k k1 = some rv) : Met l yX2_copyFrom (ws_ yX2_copyFrom cX2_copyFrom 2 none) rm_X2_copyFrom (va_Pc [.ref (ad k), .ref (ad k1)] (WB D ids (cEC ids ad) ad 59 (ExC tt ad) h)) (QW D (cEC ids ad) ad 59 none rv) 0 0 (inW ad 59) :=
  u_met (own := RX2) (by decide) rfl (Nat.le_of_ble_eq_true rfl) rfl (fun p e s m args below meth c H ls C hX hP hS hl => w_X2_copyFrom (tt := tt) hA C hX hk hk1 _ _ _ _ hf hP hS hl)
theorem gf_X5_20 {p : Program} {l : Launch} {e : Env} {R : Room} {s : State} {m : MethodId} {args : Array Value} {below : List Frame} {meth : Method} {c : Code} {H : Heap} {locs : List Loc} {cells slots : Nat} {Q : State → Prop} {cc : ByteArray} {nL : Nat} {ret : Option FieldType} {pc : Nat} {ls : Array Slot} {rest : List Value} {D : va_G} {ids : Nat → ClassId} {ad : Nat → Nat} {h : Hp} (C : CX p s m args meth c cc nL ret RX5 D ids) {k : Nat} (hk : isX5 k) (hP : wp D (cEC ids ad) ad 59 h H) (hdg : decode cc pc = .ok (.getfield 20, 3)) (kk : W p l e R s m args below meth c H locs cells slots Q (F0 m (pc + 3) ls (.int (h k 1) :: rest))) : W p l e R s m args below meth c H locs cells slots Q (F0 m pc ls (.ref (ad k) :: rest)) :=
  u_get C hP (lt_X5 hk) (cE_X5 hk) rfl inX5 1 (by decide) rfl q_40 hdg kk
theorem pf_X5_20 {p : Program} {l : Launch} {e : Env} {R : Room} {s : State} {m : MethodId} {args : Array Value} {below : List Frame} {meth : Method} {c : Code} {H : Heap} {locs : List Loc} {cells slots : Nat} {Q : State → Prop} {cc : ByteArray} {nL : Nat} {ret : Option FieldType} {pc : Nat} {ls : Array Slot} {rest : List Value} {D : va_G} {ids : Nat → ClassId} {ad : Nat → Nat} {h : Hp} {x : Int32} (hA : adOk ad 59) (C : CX p s m args meth c cc nL ret RX5 D ids) {k : Nat} (hk : isX5 k) (hP : wp D (cEC ids ad) ad 59 h H) (hS : va_S (inW ad 59) s.heap H locs) (hdg : decode cc pc = .ok (.putfield 20, 3)) (kk : ∀ (H1 : Heap) (locs1 : List Loc), wp D (cEC ids ad) ad 59 (hs h k 1 x) H1 → va_S (inW ad 59) s.heap H1 locs1 → W p l e R s m args below meth c H1 locs1 cells slots Q (F0 m (pc + 3) ls rest)) : W p l e R s m args below meth c H locs cells slots Q (F0 m pc ls (.int x :: .ref (ad k) :: rest)) :=
  u_put hA C hP hS (lt_X5 hk) (cE_X5 hk) rfl inX5 tyX5 tyX5_ok nmX5 1 (by decide) rfl q_40 rfl (ty := .int) rfl rfl rfl hdg kk
theorem gf_X5_24 {p : Program} {l : Launch} {e : Env} {R : Room} {s : State} {m : MethodId} {args : Array Value} {below : List Frame} {meth : Method} {c : Code} {H : Heap} {locs : List Loc} {cells slots : Nat} {Q : State → Prop} {cc : ByteArray} {nL : Nat} {ret : Option FieldType} {pc : Nat} {ls : Array Slot} {rest : List Value} {D : va_G} {ids : Nat → ClassId} {ad : Nat → Nat} {h : Hp} (C : CX p s m args meth c cc nL ret RX5 D ids) {k : Nat} (hk : isX5 k) (hP : wp D (cEC ids ad) ad 59 h H) (hdg : decode cc pc = .ok (.getfield 24, 3)) (kk : W p l e R s m args below meth c H locs cells slots Q (F0 m (pc + 3) ls (.int (h k 2) :: rest))) : W p l e R s m args below meth c H locs cells slots Q (F0 m pc ls (.ref (ad k) :: rest)) :=
  u_get C hP (lt_X5 hk) (cE_X5 hk) rfl inX5 2 (by decide) rfl q_41 hdg kk
theorem pf_X5_24 {p : Program} {l : Launch} {e : Env} {R : Room} {s : State} {m : MethodId} {args : Array Value} {below : List Frame} {meth : Method} {c : Code} {H : Heap} {locs : List Loc} {cells slots : Nat} {Q : State → Prop} {cc : ByteArray} {nL : Nat} {ret : Option FieldType} {pc : Nat} {ls : Array Slot} {rest : List Value} {D : va_G} {ids : Nat → ClassId} {ad : Nat → Nat} {h : Hp} {x : Int32} (hA : adOk ad 59) (C : CX p s m args meth c cc nL ret RX5 D ids) {k : Nat} (hk : isX5 k) (hP : wp D (cEC ids ad) ad 59 h H) (hS : va_S (inW ad 59) s.heap H locs) (hdg : decode cc pc = .ok (.putfield 24, 3)) (kk : ∀ (H1 : Heap) (locs1 : List Loc), wp D (cEC ids ad) ad 59 (hs h k 2 x) H1 → va_S (inW ad 59) s.heap H1 locs1 → W p l e R s m args below meth c H1 locs1 cells slots Q (F0 m (pc + 3) ls rest)) : W p l e R s m args below meth c H locs cells slots Q (F0 m pc ls (.int x :: .ref (ad k) :: rest)) :=
  u_put hA C hP hS (lt_X5 hk) (cE_X5 hk) rfl inX5 tyX5 tyX5_ok nmX5 2 (by decide) rfl q_41 rfl (ty := .int) rfl rfl rfl hdg kk
theorem gf_X5_14 {p : Program} {l : Launch} {e : Env} {R : Room} {s : State} {m : MethodId} {args : Array Value} {below : List Frame} {meth : Method} {c : Code} {H : Heap} {locs : List Loc} {cells slots : Nat} {Q : State → Prop} {cc : ByteArray} {nL : Nat} {ret : Option FieldType} {pc : Nat} {ls : Array Slot} {rest : List Value} {D : va_G} {ids : Nat → ClassId} {ad : Nat → Nat} {h : Hp} (C : CX p s m args meth c cc nL ret RX5 D ids) {k : Nat} (hk : isX5 k) (hP : wp D (cEC ids ad) ad 59 h H) (hdg : decode cc pc = .ok (.getfield 14, 3)) (kk : W p l e R s m args below meth c H locs cells slots Q (F0 m (pc + 3) ls (.ref (ad (k + 1)) :: rest))) : W p l e R s m args below meth c H locs cells slots Q (F0 m pc ls (.ref (ad k) :: rest)) :=
  u_get C hP (lt_X5 hk) (cE_X5 hk) rfl inX5 0 (by decide) rfl q_39 hdg kk
theorem rl_aCap {p : Program} {l : Launch} {e : Env} {R : Room} {s : State} {m : MethodId} {args : Array Value} {below : List Frame} {meth : Method} {c : Code} {H : Heap} {locs : List Loc} {cells slots : Nat} {Q : State → Prop} {cc : ByteArray} {nL : Nat} {ret : Option FieldType} {own : String} {pc : Nat} {ls : Array Slot} {rest : List Value} {D : va_G} {ids : Nat → ClassId} {ad : Nat → Nat} {h : Hp} (C : CX p s m args meth c cc nL ret own D ids) {k : Nat} (hk : isaCap k) (hP : wp D (cEC ids ad) ad 59 h H) {i : Int32} (hg : inb i 3 = true) (hdg : decode cc pc = .ok (.aaload, 1)) (kk : W p l e R s m args below meth c H locs cells slots Q (F0 m (pc + 1) ls (.ref (ad (k + 1 + i.toNatClampNeg)) :: rest))) : W p l e R s m args below meth c H locs cells slots Q (F0 m pc ls (.int i :: .ref (ad k) :: rest)) :=
  u_aald C hP 2 rfl (lt_aCap hk) (cE_aCap hk) hg rfl hdg kk
theorem cv_X5_64 {p : Program} {l : Launch} {e : Env} {R : Room} {s : State} {m : MethodId} {args : Array Value} {below : List Frame} {meth : Method} {c : Code} {H : Heap} {locs : List Loc} {Q : State → Prop} {cc : ByteArray} {nL : Nat} {ret : Option FieldType} {pc : Nat} {ls : Array Slot} {rest : List Value} {D : va_G} {ids : Nat → ClassId} {ad tt : Nat → Nat} {h : Hp} (hA : adOk ad 59) (C : CX p s m args meth c cc nL ret RX5 D ids) (hX : (ExC tt ad) s s.heap) (hP : wp D (cEC ids ad) ad 59 h H) (hS : va_S (inW ad 59) s.heap H locs) {k : Nat} (hk : isX2 k) {k1 : Nat} (hk1 : isX2 k1) {rv : Hp} (hf : f_X2_copyFrom h k k1 = some rv) (hR : 0 + 1 ≤ R.frames ∧ 8 + (2 + 11) + 0 ≤ R.locals) (hsz : ls.size = nL) (hcat : (rest.map fun v => v.category).sum ≤ 8) (hdg : decode cc pc = .ok (.invokevirtual 64, 3)) (kk : ∀ (H1 : Heap) (locs1 : List Loc), wp D (cEC ids ad) ad 59 rv H1 → va_S (inW ad 59) s.heap H1 locs1 → W p l e R s m args below meth c H1 locs1 0 0 Q (F0 m (pc + 3) ls (rest))) : W p l e R s m args below meth c H locs 0 0 Q (F0 m pc ls (.ref (ad k1) :: .ref (ad k) :: rest)) :=
  u_callV (As := [.ref (ad k1)]) (rv := none) C (exC_ok hA) hX (c_X2_copyFrom l D ids ad tt hA hk hk1 hf) q_157 q_158 q_159 q_38 q_160 ⟨rfl, rfl⟩ (by refine ⟨by decide +kernel, by decide +kernel, ?_⟩; show _ = some 1; decide +kernel) hR (lt_X2 hk) (cE_X2 hk _) rfl hP hS hsz hcat rfl hdg kk
theorem gf_X5_27 {p : Program} {l : Launch} {e : Env} {R : Room} {s : State} {m : MethodId} {args : Array Value} {below : List Frame} {meth : Method} {c : Code} {H : Heap} {locs : List Loc} {cells slots : Nat} {Q : State → Prop} {cc : ByteArray} {nL : Nat} {ret : Option FieldType} {pc : Nat} {ls : Array Slot} {rest : List Value} {D : va_G} {ids : Nat → ClassId} {ad : Nat → Nat} {h : Hp} (C : CX p s m args meth c cc nL ret RX5 D ids) {k : Nat} (hk : isX5 k) (hP : wp D (cEC ids ad) ad 59 h H) (hdg : decode cc pc = .ok (.getfield 27, 3)) (kk : W p l e R s m args below meth c H locs cells slots Q (F0 m (pc + 3) ls (.int (h k 3) :: rest))) : W p l e R s m args below meth c H locs cells slots Q (F0 m pc ls (.ref (ad k) :: rest)) :=
  u_get C hP (lt_X5 hk) (cE_X5 hk) rfl inX5 3 (by decide) rfl q_42 hdg kk
theorem pf_X5_27 {p : Program} {l : Launch} {e : Env} {R : Room} {s : State} {m : MethodId} {args : Array Value} {below : List Frame} {meth : Method} {c : Code} {H : Heap} {locs : List Loc} {cells slots : Nat} {Q : State → Prop} {cc : ByteArray} {nL : Nat} {ret : Option FieldType} {pc : Nat} {ls : Array Slot} {rest : List Value} {D : va_G} {ids : Nat → ClassId} {ad : Nat → Nat} {h : Hp} {x : Int32} (hA : adOk ad 59) (C : CX p s m args meth c cc nL ret RX5 D ids) {k : Nat} (hk : isX5 k) (hP : wp D (cEC ids ad) ad 59 h H) (hS : va_S (inW ad 59) s.heap H locs) (hdg : decode cc pc = .ok (.putfield 27, 3)) (kk : ∀ (H1 : Heap) (locs1 : List Loc), wp D (cEC ids ad) ad 59 (hs h k 3 x) H1 → va_S (inW ad 59) s.heap H1 locs1 → W p l e R s m args below meth c H1 locs1 cells slots Q (F0 m (pc + 3) ls rest)) : W p l e R s m args below meth c H locs cells slots Q (F0 m pc ls (.int x :: .ref (ad k) :: rest)) :=
  u_put hA C hP hS (lt_X5 hk) (cE_X5 hk) rfl inX5 tyX5 tyX5_ok nmX5 3 (by decide) rfl q_42 rfl (ty := .int) rfl rfl rfl hdg kk
theorem gf_X5_30 {p : Program} {l : Launch} {e : Env} {R : Room} {s : State} {m : MethodId} {args : Array Value} {below : List Frame} {meth : Method} {c : Code} {H : Heap} {locs : List Loc} {cells slots : Nat} {Q : State → Prop} {cc : ByteArray} {nL : Nat} {ret : Option FieldType} {pc : Nat} {ls : Array Slot} {rest : List Value} {D : va_G} {ids : Nat → ClassId} {ad : Nat → Nat} {h : Hp} (C : CX p s m args meth c cc nL ret RX5 D ids) {k : Nat} (hk : isX5 k) (hP : wp D (cEC ids ad) ad 59 h H) (hdg : decode cc pc = .ok (.getfield 30, 3)) (kk : W p l e R s m args below meth c H locs cells slots Q (F0 m (pc + 3) ls (.int (h k 4) :: rest))) : W p l e R s m args below meth c H locs cells slots Q (F0 m pc ls (.ref (ad k) :: rest)) :=
  u_get C hP (lt_X5 hk) (cE_X5 hk) rfl inX5 4 (by decide) rfl q_43 hdg kk
theorem pf_X5_30 {p : Program} {l : Launch} {e : Env} {R : Room} {s : State} {m : MethodId} {args : Array Value} {below : List Frame} {meth : Method} {c : Code} {H : Heap} {locs : List Loc} {cells slots : Nat} {Q : State → Prop} {cc : ByteArray} {nL : Nat} {ret : Option FieldType} {pc : Nat} {ls : Array Slot} {rest : List Value} {D : va_G} {ids : Nat → ClassId} {ad : Nat → Nat} {h : Hp} {x : Int32} (hA : adOk ad 59) (C : CX p s m args meth c cc nL ret RX5 D ids) {k : Nat} (hk : isX5 k) (hP : wp D (cEC ids ad) ad 59 h H) (hS : va_S (inW ad 59) s.heap H locs) (hdg : decode cc pc = .ok (.putfield 30, 3)) (kk : ∀ (H1 : Heap) (locs1 : List Loc), wp D (cEC ids ad) ad 59 (hs h k 4 x) H1 → va_S (inW ad 59) s.heap H1 locs1 → W p l e R s m args below meth c H1 locs1 cells slots Q (F0 m (pc + 3) ls rest)) : W p l e R s m args below meth c H locs cells slots Q (F0 m pc ls (.int x :: .ref (ad k) :: rest)) :=
  u_put hA C hP hS (lt_X5 hk) (cE_X5 hk) rfl inX5 tyX5 tyX5_ok nmX5 4 (by decide) rfl q_43 rfl (ty := .int) rfl rfl rfl hdg kk
theorem gf_X5_33 {p : Program} {l : Launch} {e : Env} {R : Room} {s : State} {m : MethodId} {args : Array Value} {below : List Frame} {meth : Method} {c : Code} {H : Heap} {locs : List Loc} {cells slots : Nat} {Q : State → Prop} {cc : ByteArray} {nL : Nat} {ret : Option FieldType} {pc : Nat} {ls : Array Slot} {rest : List Value} {D : va_G} {ids : Nat → ClassId} {ad : Nat → Nat} {h : Hp} (C : CX p s m args meth c cc nL ret RX5 D ids) {k : Nat} (hk : isX5 k) (hP : wp D (cEC ids ad) ad 59 h H) (hdg : decode cc pc = .ok (.getfield 33, 3)) (kk : W p l e R s m args below meth c H locs cells slots Q (F0 m (pc + 3) ls (.int (h k 5) :: rest))) : W p l e R s m args below meth c H locs cells slots Q (F0 m pc ls (.ref (ad k) :: rest)) :=
  u_get C hP (lt_X5 hk) (cE_X5 hk) rfl inX5 5 (by decide) rfl q_44 hdg kk
theorem pf_X5_33 {p : Program} {l : Launch} {e : Env} {R : Room} {s : State} {m : MethodId} {args : Array Value} {below : List Frame} {meth : Method} {c : Code} {H : Heap} {locs : List Loc} {cells slots : Nat} {Q : State → Prop} {cc : ByteArray} {nL : Nat} {ret : Option FieldType} {pc : Nat} {ls : Array Slot} {rest : List Value} {D : va_G} {ids : Nat → ClassId} {ad : Nat → Nat} {h : Hp} {x : Int32} (hA : adOk ad 59) (C : CX p s m args meth c cc nL ret RX5 D ids) {k : Nat} (hk : isX5 k) (hP : wp D (cEC ids ad) ad 59 h H) (hS : va_S (inW ad 59) s.heap H locs) (hdg : decode cc pc = .ok (.putfield 33, 3)) (kk : ∀ (H1 : Heap) (locs1 : List Loc), wp D (cEC ids ad) ad 59 (hs h k 5 x) H1 → va_S (inW ad 59) s.heap H1 locs1 → W p l e R s m args below meth c H1 locs1 cells slots Q (F0 m (pc + 3) ls rest)) : W p l e R s m args below meth c H locs cells slots Q (F0 m pc ls (.int x :: .ref (ad k) :: rest)) :=
  u_put hA C hP hS (lt_X5 hk) (cE_X5 hk) rfl inX5 tyX5 tyX5_ok nmX5 5 (by decide) rfl q_44 rfl (ty := .int) rfl rfl rfl hdg kk
theorem gf_X5_36 {p : Program} {l : Launch} {e : Env} {R : Room} {s : State} {m : MethodId} {args : Array Value} {below : List Frame} {meth : Method} {c : Code} {H : Heap} {locs : List Loc} {cells slots : Nat} {Q : State → Prop} {cc : ByteArray} {nL : Nat} {ret : Option FieldType} {pc : Nat} {ls : Array Slot} {rest : List Value} {D : va_G} {ids : Nat → ClassId} {ad : Nat → Nat} {h : Hp} (C : CX p s m args meth c cc nL ret RX5 D ids) {k : Nat} (hk : isX5 k) (hP : wp D (cEC ids ad) ad 59 h H) (hdg : decode cc pc = .ok (.getfield 36, 3)) (kk : W p l e R s m args below meth c H locs cells slots Q (F0 m (pc + 3) ls (.int (h k 6) :: rest))) : W p l e R s m args below meth c H locs cells slots Q (F0 m pc ls (.ref (ad k) :: rest)) :=
  u_get C hP (lt_X5 hk) (cE_X5 hk) rfl inX5 6 (by decide) rfl q_45 hdg kk
theorem pf_X5_36 {p : Program} {l : Launch} {e : Env} {R : Room} {s : State} {m : MethodId} {args : Array Value} {below : List Frame} {meth : Method} {c : Code} {H : Heap} {locs : List Loc} {cells slots : Nat} {Q : State → Prop} {cc : ByteArray} {nL : Nat} {ret : Option FieldType} {pc : Nat} {ls : Array Slot} {rest : List Value} {D : va_G} {ids : Nat → ClassId} {ad : Nat → Nat} {h : Hp} {x : Int32} (hA : adOk ad 59) (C : CX p s m args meth c cc nL ret RX5 D ids) {k : Nat} (hk : isX5 k) (hP : wp D (cEC ids ad) ad 59 h H) (hS : va_S (inW ad 59) s.heap H locs) (hdg : decode cc pc = .ok (.putfield 36, 3)) (kk : ∀ (H1 : Heap) (locs1 : List Loc), wp D (cEC ids ad) ad 59 (hs h k 6 x) H1 → va_S (inW ad 59) s.heap H1 locs1 → W p l e R s m args below meth c H1 locs1 cells slots Q (F0 m (pc + 3) ls rest)) : W p l e R s m args below meth c H locs cells slots Q (F0 m pc ls (.int x :: .ref (ad k) :: rest)) :=
  u_put hA C hP hS (lt_X5 hk) (cE_X5 hk) rfl inX5 tyX5 tyX5_ok nmX5 6 (by decide) rfl q_45 rfl (ty := .int) rfl rfl rfl hdg kk
abbrev rm_X5_copyFrom : Room := { frames := 1, cells := 0, slots := 0, locals := 21 }
set_option maxRecDepth 100000 in
set_option maxHeartbeats 4000000 in
theorem w_X5_copyFrom_60 {p : Program} {l : Launch} {e : Env} {s : State} {m : MethodId} {args : Array Value} {below : List Frame} {meth : Method} {c : Code} {D : va_G} {ids : Nat → ClassId} {ad tt : Nat → Nat} {rv : Hp} (hA : adOk ad 59) (C : CX p s m args meth c cX5_copyFrom 3 none RX5 D ids) (hX : (ExC tt ad) s s.heap) {k : Nat} (hk : isX5 k) {k1 : Nat} (hk1 : isX5 k1) : ∀ (h : Hp) (H : Heap) (locs : List Loc) (ls : Array Slot), f_X5_copyFrom_60 k k1 h = some rv → wp D (cEC ids ad) ad 59 h H → va_S (inW ad 59) s.heap H locs → lv_has ls 3 [(0, .ref (ad k)), (1, .ref (ad k1))] → W p l e rm_X5_copyFrom s m args below meth c H locs 0 0 (MQ below (QW D (cEC ids ad) ad 59 none rv) args s 0 0 (inW ad 59)) (F0 m 60 ls []) := by
  intro h H locs ls hf hP hS hl
  unfold f_X5_copyFrom_60 at hf
  refine lv_aload_n C.1 C.2.1 dX5_copyFrom_60 rfl (lv_at hl 0 rfl) ?_
  refine lv_aload_n C.1 C.2.1 dX5_copyFrom_61 rfl (lv_at hl 1 rfl) ?_
  refine gf_X5_33 C hk1 hP dX5_copyFrom_62 ?_
  refine pf_X5_33 hA C hk hP hS dX5_copyFrom_65 (fun H locs hP hS => ?_)
  refine lv_aload_n C.1 C.2.1 dX5_copyFrom_68 rfl (lv_at hl 0 rfl) ?_
  refine lv_aload_n C.1 C.2.1 dX5_copyFrom_69 rfl (lv_at hl 1 rfl) ?_
  refine gf_X5_36 C hk1 hP dX5_copyFrom_70 ?_
  refine pf_X5_36 hA C hk hP hS dX5_copyFrom_73 (fun H locs hP hS => ?_)
  obtain rfl := Option.some.inj hf
  exact u_vret C hP hS dX5_copyFrom_76
set_option maxRecDepth 100000 in
set_option maxHeartbeats 4000000 in
theorem w_X5_copyFrom_44 {p : Program} {l : Launch} {e : Env} {s : State} {m : MethodId} {args : Array Value} {below : List Frame} {meth : Method} {c : Code} {D : va_G} {ids : Nat → ClassId} {ad tt : Nat → Nat} {rv : Hp} (hA : adOk ad 59) (C : CX p s m args meth c cX5_copyFrom 3 none RX5 D ids) (hX : (ExC tt ad) s s.heap) {k : Nat} (hk : isX5 k) {k1 : Nat} (hk1 : isX5 k1) : ∀ (h : Hp) (H : Heap) (locs : List Loc) (ls : Array Slot), f_X5_copyFrom_44 k k1 h = some rv → wp D (cEC ids ad) ad 59 h H → va_S (inW ad 59) s.heap H locs → lv_has ls 3 [(0, .ref (ad k)), (1, .ref (ad k1))] → W p l e rm_X5_copyFrom s m args below meth c H locs 0 0 (MQ below (QW D (cEC ids ad) ad 59 none rv) args s 0 0 (inW ad 59)) (F0 m 44 ls []) := by
  intro h H locs ls hf hP hS hl
  unfold f_X5_copyFrom_44 at hf
  refine lv_aload_n C.1 C.2.1 dX5_copyFrom_44 rfl (lv_at hl 0 rfl) ?_
  refine lv_aload_n C.1 C.2.1 dX5_copyFrom_45 rfl (lv_at hl 1 rfl) ?_
  refine gf_X5_27 C hk1 hP dX5_copyFrom_46 ?_
  refine pf_X5_27 hA C hk hP hS dX5_copyFrom_49 (fun H locs hP hS => ?_)
  refine lv_aload_n C.1 C.2.1 dX5_copyFrom_52 rfl (lv_at hl 0 rfl) ?_
  refine lv_aload_n C.1 C.2.1 dX5_copyFrom_53 rfl (lv_at hl 1 rfl) ?_
  refine gf_X5_30 C hk1 hP dX5_copyFrom_54 ?_
  refine pf_X5_30 hA C hk hP hS dX5_copyFrom_57 (fun H locs hP hS => ?_)
  exact w_X5_copyFrom_60 hA C hX hk hk1 _ _ _ _ hf hP hS (lv_sub hl [0, 1] rfl)
set_option maxRecDepth 100000 in
set_option maxHeartbeats 4000000 in
theorem w_X5_copyFrom_2 {p : Program} {l : Launch} {e : Env} {s : State} {m : MethodId} {args : Array Value} {below : List Frame} {meth : Method} {c : Code} {D : va_G} {ids : Nat → ClassId} {ad tt : Nat → Nat} {rv : Hp} (hA : adOk ad 59) (C : CX p s m args meth c cX5_copyFrom 3 none RX5 D ids) (hX : (ExC tt ad) s s.heap) {k : Nat} (hk : isX5 k) {k1 : Nat} (hk1 : isX5 k1) : ∀ (fu : Nat), ∀ (h : Hp) (x2 : Int32) (H : Heap) (locs : List Loc) (ls : Array Slot), f_X5_copyFrom_2 k k1 fu h x2 = some rv → wp D (cEC ids ad) ad 59 h H → va_S (inW ad 59) s.heap H locs → lv_has ls 3 [(0, .ref (ad k)), (1, .ref (ad k1)), (2, .int x2)] → W p l e rm_X5_copyFrom s m args below meth c H locs 0 0 (MQ below (QW D (cEC ids ad) ad 59 none rv) args s 0 0 (inW ad 59)) (F0 m 2 ls []) := by
  intro fu
  induction fu with
  | zero =>
    intro h x2 H locs ls hf hP hS hl
    cases hf
  | succ fu ih =>
    intro h x2 H locs ls hf hP hS hl
    rw [f_X5_copyFrom_2_s] at hf
    refine lv_iload_n C.1 C.2.1 dX5_copyFrom_2 rfl (lv_at hl 2 rfl) ?_
    refine lv_iconst (v := (3 : Int32)) C.1 C.2.1 dX5_copyFrom_3 (by decide) ?_
    refine lv_icmp_ge (tgt := 28) C.1 C.2.1 dX5_copyFrom_4 (by decide) (fun hc => ?_) (fun hc => ?_)
    · have hf := g_t hc hf
      refine lv_aload_n C.1 C.2.1 dX5_copyFrom_28 rfl (lv_at hl 0 rfl) ?_
      refine lv_aload_n C.1 C.2.1 dX5_copyFrom_29 rfl (lv_at hl 1 rfl) ?_
      refine gf_X5_20 C hk1 hP dX5_copyFrom_30 ?_
      refine pf_X5_20 hA C hk hP hS dX5_copyFrom_33 (fun H locs hP hS => ?_)
      refine lv_aload_n C.1 C.2.1 dX5_copyFrom_36 rfl (lv_at hl 0 rfl) ?_
      refine lv_aload_n C.1 C.2.1 dX5_copyFrom_37 rfl (lv_at hl 1 rfl) ?_
      refine gf_X5_24 C hk1 hP dX5_copyFrom_38 ?_
      refine pf_X5_24 hA C hk hP hS dX5_copyFrom_41 (fun H locs hP hS => ?_)
      exact w_X5_copyFrom_44 hA C hX hk hk1 _ _ _ _ hf hP hS (lv_sub hl [0, 1] rfl)
    · have hf := g_f hc hf
      refine lv_aload_n C.1 C.2.1 dX5_copyFrom_7 rfl (lv_at hl 0 rfl) ?_
      refine gf_X5_14 C hk hP dX5_copyFrom_8 ?_
      refine lv_iload_n C.1 C.2.1 dX5_copyFrom_11 rfl (lv_at hl 2 rfl) ?_
      obtain ⟨hg1, hf⟩ := g_if hf
      refine rl_aCap C (cap_of hk) hP hg1 dX5_copyFrom_12 ?_
      refine lv_aload_n C.1 C.2.1 dX5_copyFrom_13 rfl (lv_at hl 1 rfl) ?_
      refine gf_X5_14 C hk1 hP dX5_copyFrom_14 ?_
      refine lv_iload_n C.1 C.2.1 dX5_copyFrom_17 rfl (lv_at hl 2 rfl) ?_
      obtain ⟨hg2, hf⟩ := g_if hf
      refine rl_aCap C (cap_of hk1) hP hg2 dX5_copyFrom_18 ?_
      obtain ⟨q3, eq3, hf⟩ := g_b hf
      refine cv_X5_64 hA C hX hP hS (cp_el (cap_of hk) hg1) (cp_el (cap_of hk1) hg2) eq3 ⟨Nat.le_of_ble_eq_true rfl, Nat.le_of_ble_eq_true rfl⟩ hl.1 (Nat.le_of_ble_eq_true rfl) dX5_copyFrom_19 (fun H locs hP hS => ?_)
      refine lv_iinc (v := (x2 + 1)) (lv' := [(2, .int (x2 + 1)), (0, .ref (ad k)), (1, .ref (ad k1))]) C.1 C.2.1 dX5_copyFrom_22 hl (k := 2) rfl (by rfl) (by decide) rfl (fun ls hl => ?_)
      refine lv_goto (tgt := 2) C.1 C.2.1 dX5_copyFrom_25 (by decide) ?_
      exact ih _ _ _ _ _ hf hP hS (lv_sub hl [1, 2, 0] rfl)
set_option maxRecDepth 100000 in
set_option maxHeartbeats 4000000 in
theorem w_X5_copyFrom {p : Program} {l : Launch} {e : Env} {s : State} {m : MethodId} {args : Array Value} {below : List Frame} {meth : Method} {c : Code} {D : va_G} {ids : Nat → ClassId} {ad tt : Nat → Nat} {rv : Hp} (hA : adOk ad 59) (C : CX p s m args meth c cX5_copyFrom 3 none RX5 D ids) (hX : (ExC tt ad) s s.heap) {k : Nat} (hk : isX5 k) {k1 : Nat} (hk1 : isX5 k1) : ∀ (h : Hp) (H : Heap) (locs : List Loc) (ls : Array Slot), f_X5_copyFrom h k k1 = some rv → wp D (cEC ids ad) ad 59 h H → va_S (inW ad 59) s.heap H locs → lv_has ls 3 [(0, .ref (ad k)), (1, .ref (ad k1))] → W p l e rm_X5_copyFrom s m args below meth c H locs 0 0 (MQ below (QW D (cEC ids ad) ad 59 none rv) args s 0 0 (inW ad 59)) (F0 m 0 ls []) := by
  intro h H locs ls hf hP hS hl
  unfold f_X5_copyFrom at hf
  refine lv_iconst (v := (0 : Int32)) C.1 C.2.1 dX5_copyFrom_0 (by decide) ?_
  refine lv_istore_n (lv' := [(2, .int (0 : Int32)), (0, .ref (ad k)), (1, .ref (ad k1))]) C.1 C.2.1 dX5_copyFrom_1 rfl hl (by decide) rfl (fun ls hl => ?_)
  exact w_X5_copyFrom_2 hA C hX hk hk1 _ _ _ _ _ _ hf hP hS (lv_sub hl [1, 2, 0] rfl)
theorem c_X5_copyFrom (l : Launch) (D : va_G) (ids : Nat → ClassId) (ad tt : Nat → Nat) (hA : adOk ad 59) {k : Nat} (hk : isX5 k) {k1 : Nat} (hk1 : isX5 k1) {h : Hp} {rv : Hp} (hf : f_X5_copyFrom h k k1 = some rv) : Met l yX5_copyFrom (ws_ yX5_copyFrom cX5_copyFrom 3 none) rm_X5_copyFrom (va_Pc [.ref (ad k), .ref (ad k1)] (WB D ids (cEC ids ad) ad 59 (ExC tt ad) h)) (QW D (cEC ids ad) ad 59 none rv) 0 0 (inW ad 59) :=
  u_met (own := RX5) (by decide) rfl (Nat.le_of_ble_eq_true rfl) rfl (fun p e s m args below meth c H ls C hX hP hS hl => w_X5_copyFrom (tt := tt) hA C hX hk hk1 _ _ _ _ hf hP hS hl)
theorem gf_X7_27 {p : Program} {l : Launch} {e : Env} {R : Room} {s : State} {m : MethodId} {args : Array Value} {below : List Frame} {meth : Method} {c : Code} {H : Heap} {locs : List Loc} {cells slots : Nat} {Q : State → Prop} {cc : ByteArray} {nL : Nat} {ret : Option FieldType} {pc : Nat} {ls : Array Slot} {rest : List Value} {D : va_G} {ids : Nat → ClassId} {ad : Nat → Nat} {h : Hp} (C : CX p s m args meth c cc nL ret RX7 D ids) (hP : wp D (cEC ids ad) ad 59 h H) (hdg : decode cc pc = .ok (.getfield 27, 3)) (kk : W p l e R s m args below meth c H locs cells slots Q (F0 m (pc + 3) ls (.int (h 0 4) :: rest))) : W p l e R s m args below meth c H locs cells slots Q (F0 m pc ls (.ref (ad 0) :: rest)) :=
  u_get C hP (by decide) cE_X7 rfl inX7 4 (by decide) rfl q_19 hdg kk
theorem gf_X7_23 {p : Program} {l : Launch} {e : Env} {R : Room} {s : State} {m : MethodId} {args : Array Value} {below : List Frame} {meth : Method} {c : Code} {H : Heap} {locs : List Loc} {cells slots : Nat} {Q : State → Prop} {cc : ByteArray} {nL : Nat} {ret : Option FieldType} {pc : Nat} {ls : Array Slot} {rest : List Value} {D : va_G} {ids : Nat → ClassId} {ad : Nat → Nat} {h : Hp} (C : CX p s m args meth c cc nL ret RX7 D ids) (hP : wp D (cEC ids ad) ad 59 h H) (hdg : decode cc pc = .ok (.getfield 23, 3)) (kk : W p l e R s m args below meth c H locs cells slots Q (F0 m (pc + 3) ls (.ref (ad 36) :: rest))) : W p l e R s m args below meth c H locs cells slots Q (F0 m pc ls (.ref (ad 0) :: rest)) :=
  u_get C hP (by decide) cE_X7 rfl inX7 3 (by decide) rfl q_18 hdg kk
theorem ln_aSt {p : Program} {l : Launch} {e : Env} {R : Room} {s : State} {m : MethodId} {args : Array Value} {below : List Frame} {meth : Method} {c : Code} {H : Heap} {locs : List Loc} {cells slots : Nat} {Q : State → Prop} {cc : ByteArray} {nL : Nat} {ret : Option FieldType} {own : String} {pc : Nat} {ls : Array Slot} {rest : List Value} {D : va_G} {ids : Nat → ClassId} {ad : Nat → Nat} {h : Hp} (C : CX p s m args meth c cc nL ret own D ids) (hP : wp D (cEC ids ad) ad 59 h H) (hdg : decode cc pc = .ok (.arraylength, 1)) (kk : W p l e R s m args below meth c H locs cells slots Q (F0 m (pc + 1) ls (.int (4 : Int32) :: rest))) : W p l e R s m args below meth c H locs cells slots Q (F0 m pc ls (.ref (ad 36) :: rest)) :=
  u_alen C hP 4 rfl (by decide) (cE_aSt _) rfl hdg kk
theorem rl_aSt {p : Program} {l : Launch} {e : Env} {R : Room} {s : State} {m : MethodId} {args : Array Value} {below : List Frame} {meth : Method} {c : Code} {H : Heap} {locs : List Loc} {cells slots : Nat} {Q : State → Prop} {cc : ByteArray} {nL : Nat} {ret : Option FieldType} {own : String} {pc : Nat} {ls : Array Slot} {rest : List Value} {D : va_G} {ids : Nat → ClassId} {ad : Nat → Nat} {h : Hp} (C : CX p s m args meth c cc nL ret own D ids) (hP : wp D (cEC ids ad) ad 59 h H) {i : Int32} (hg : inb i 4 = true) (hdg : decode cc pc = .ok (.aaload, 1)) (kk : W p l e R s m args below meth c H locs cells slots Q (F0 m (pc + 1) ls (.ref (ad (11 + 5 * (h 36 i.toNatClampNeg).toNatClampNeg)) :: rest))) : W p l e R s m args below meth c H locs cells slots Q (F0 m pc ls (.int i :: .ref (ad 36) :: rest)) :=
  u_aald C hP 4 rfl (by decide) cE_aSt hg rfl hdg kk
theorem gf_X7_12 {p : Program} {l : Launch} {e : Env} {R : Room} {s : State} {m : MethodId} {args : Array Value} {below : List Frame} {meth : Method} {c : Code} {H : Heap} {locs : List Loc} {cells slots : Nat} {Q : State → Prop} {cc : ByteArray} {nL : Nat} {ret : Option FieldType} {pc : Nat} {ls : Array Slot} {rest : List Value} {D : va_G} {ids : Nat → ClassId} {ad : Nat → Nat} {h : Hp} (C : CX p s m args meth c cc nL ret RX7 D ids) (hP : wp D (cEC ids ad) ad 59 h H) (hdg : decode cc pc = .ok (.getfield 12, 3)) (kk : W p l e R s m args below meth c H locs cells slots Q (F0 m (pc + 3) ls (.ref (ad 1) :: rest))) : W p l e R s m args below meth c H locs cells slots Q (F0 m pc ls (.ref (ad 0) :: rest)) :=
  u_get C hP (by decide) cE_X7 rfl inX7 0 (by decide) rfl q_15 hdg kk
theorem cv_X7_80 {p : Program} {l : Launch} {e : Env} {R : Room} {s : State} {m : MethodId} {args : Array Value} {below : List Frame} {meth : Method} {c : Code} {H : Heap} {locs : List Loc} {Q : State → Prop} {cc : ByteArray} {nL : Nat} {ret : Option FieldType} {pc : Nat} {ls : Array Slot} {rest : List Value} {D : va_G} {ids : Nat → ClassId} {ad tt : Nat → Nat} {h : Hp} (hA : adOk ad 59) (C : CX p s m args meth c cc nL ret RX7 D ids) (hX : (ExC tt ad) s s.heap) (hP : wp D (cEC ids ad) ad 59 h H) (hS : va_S (inW ad 59) s.heap H locs) {k : Nat} (hk : isX5 k) {k1 : Nat} (hk1 : isX5 k1) {rv : Hp} (hf : f_X5_copyFrom h k k1 = some rv) (hR : 1 + 1 ≤ R.frames ∧ 8 + (3 + 11) + 21 ≤ R.locals) (hsz : ls.size = nL) (hcat : (rest.map fun v => v.category).sum ≤ 8) (hdg : decode cc pc = .ok (.invokevirtual 80, 3)) (kk : ∀ (H1 : Heap) (locs1 : List Loc), wp D (cEC ids ad) ad 59 rv H1 → va_S (inW ad 59) s.heap H1 locs1 → W p l e R s m args below meth c H1 locs1 0 0 Q (F0 m (pc + 3) ls (rest))) : W p l e R s m args below meth c H locs 0 0 Q (F0 m pc ls (.ref (ad k1) :: .ref (ad k) :: rest)) :=
  u_callV (As := [.ref (ad k1)]) (rv := none) C (exC_ok hA) hX (c_X5_copyFrom l D ids ad tt hA hk hk1 hf) q_153 q_154 q_155 q_14 q_156 ⟨rfl, rfl⟩ (by refine ⟨by decide +kernel, by decide +kernel, ?_⟩; show _ = some 1; decide +kernel) hR (lt_X5 hk) (cE_X5 hk _) rfl hP hS hsz hcat rfl hdg kk
theorem pf_X7_27 {p : Program} {l : Launch} {e : Env} {R : Room} {s : State} {m : MethodId} {args : Array Value} {below : List Frame} {meth : Method} {c : Code} {H : Heap} {locs : List Loc} {cells slots : Nat} {Q : State → Prop} {cc : ByteArray} {nL : Nat} {ret : Option FieldType} {pc : Nat} {ls : Array Slot} {rest : List Value} {D : va_G} {ids : Nat → ClassId} {ad : Nat → Nat} {h : Hp} {x : Int32} (hA : adOk ad 59) (C : CX p s m args meth c cc nL ret RX7 D ids) (hP : wp D (cEC ids ad) ad 59 h H) (hS : va_S (inW ad 59) s.heap H locs) (hdg : decode cc pc = .ok (.putfield 27, 3)) (kk : ∀ (H1 : Heap) (locs1 : List Loc), wp D (cEC ids ad) ad 59 (hs h 0 4 x) H1 → va_S (inW ad 59) s.heap H1 locs1 → W p l e R s m args below meth c H1 locs1 cells slots Q (F0 m (pc + 3) ls rest)) : W p l e R s m args below meth c H locs cells slots Q (F0 m pc ls (.int x :: .ref (ad 0) :: rest)) :=
  u_put hA C hP hS (by decide) cE_X7 rfl inX7 tyX7 tyX7_ok nmX7 4 (by decide) rfl q_19 rfl (ty := .int) rfl rfl rfl hdg kk
abbrev rm_X7_record : Room := { frames := 2, cells := 0, slots := 0, locals := 43 }
set_option maxRecDepth 100000 in
set_option maxHeartbeats 4000000 in
theorem w_X7_record_74 {p : Program} {l : Launch} {e : Env} {s : State} {m : MethodId} {args : Array Value} {below : List Frame} {meth : Method} {c : Code} {D : va_G} {ids : Nat → ClassId} {ad tt : Nat → Nat} {rv : Hp} (hA : adOk ad 59) (C : CX p s m args meth c cX7_record 3 none RX7 D ids) (hX : (ExC tt ad) s s.heap) : ∀ (h : Hp) (H : Heap) (locs : List Loc) (ls : Array Slot), f_X7_record_74 h = some rv → wp D (cEC ids ad) ad 59 h H → va_S (inW ad 59) s.heap H locs → lv_has ls 3 [(0, .ref (ad 0))] → W p l e rm_X7_record s m args below meth c H locs 0 0 (MQ below (QW D (cEC ids ad) ad 59 none rv) args s 0 0 (inW ad 59)) (F0 m 74 ls []) := by
  intro h H locs ls hf hP hS hl
  unfold f_X7_record_74 at hf
  refine lv_aload_n C.1 C.2.1 dX7_record_74 rfl (lv_at hl 0 rfl) ?_
  refine gf_X7_23 C hP dX7_record_75 ?_
  refine lv_aload_n C.1 C.2.1 dX7_record_78 rfl (lv_at hl 0 rfl) ?_
  refine gf_X7_27 C hP dX7_record_79 ?_
  obtain ⟨hg1, hf⟩ := g_if hf
  obtain ⟨hg2, hf⟩ := g_if hf
  refine rl_aSt C hP hg1 dX7_record_82 ?_
  refine lv_aload_n C.1 C.2.1 dX7_record_83 rfl (lv_at hl 0 rfl) ?_
  refine gf_X7_12 C hP dX7_record_84 ?_
  obtain ⟨q3, eq3, hf⟩ := g_b hf
  refine cv_X7_80 hA C hX hP hS (hi_el hg2) pX5_1 eq3 ⟨Nat.le_of_ble_eq_true rfl, Nat.le_of_ble_eq_true rfl⟩ hl.1 (Nat.le_of_ble_eq_true rfl) dX7_record_87 (fun H locs hP hS => ?_)
  refine lv_aload_n C.1 C.2.1 dX7_record_90 rfl (lv_at hl 0 rfl) ?_
  refine lv_dup C.1 C.2.1 dX7_record_91 rfl ?_
  refine gf_X7_27 C hP dX7_record_92 ?_
  refine lv_iconst (v := (1 : Int32)) C.1 C.2.1 dX7_record_95 (by decide) ?_
  refine lv_iadd C.1 C.2.1 dX7_record_96 ?_
  refine pf_X7_27 hA C hP hS dX7_record_97 (fun H locs hP hS => ?_)
  obtain rfl := Option.some.inj hf
  exact u_vret C hP hS dX7_record_100
set_option maxRecDepth 100000 in
set_option maxHeartbeats 4000000 in
theorem w_X7_record_63 {p : Program} {l : Launch} {e : Env} {s : State} {m : MethodId} {args : Array Value} {below : List Frame} {meth : Method} {c : Code} {D : va_G} {ids : Nat → ClassId} {ad tt : Nat → Nat} {rv : Hp} (hA : adOk ad 59) (C : CX p s m args meth c cX7_record 3 none RX7 D ids) (hX : (ExC tt ad) s s.heap) : ∀ (h : Hp) (H : Heap) (locs : List Loc) (ls : Array Slot), f_X7_record_63 h = some rv → wp D (cEC ids ad) ad 59 h H → va_S (inW ad 59) s.heap H locs → lv_has ls 3 [(0, .ref (ad 0))] → W p l e rm_X7_record s m args below meth c H locs 0 0 (MQ below (QW D (cEC ids ad) ad 59 none rv) args s 0 0 (inW ad 59)) (F0 m 63 ls []) := by
  intro h H locs ls hf hP hS hl
  unfold f_X7_record_63 at hf
  refine lv_aload_n C.1 C.2.1 dX7_record_63 rfl (lv_at hl 0 rfl) ?_
  refine lv_aload_n C.1 C.2.1 dX7_record_64 rfl (lv_at hl 0 rfl) ?_
  refine gf_X7_23 C hP dX7_record_65 ?_
  refine ln_aSt C hP dX7_record_68 ?_
  refine lv_iconst (v := (1 : Int32)) C.1 C.2.1 dX7_record_69 (by decide) ?_
  refine lv_isub C.1 C.2.1 dX7_record_70 ?_
  refine pf_X7_27 hA C hP hS dX7_record_71 (fun H locs hP hS => ?_)
  exact w_X7_record_74 hA C hX _ _ _ _ hf hP hS (lv_sub hl [0] rfl)
set_option maxRecDepth 100000 in
set_option maxHeartbeats 4000000 in
theorem w_X7_record_21 {p : Program} {l : Launch} {e : Env} {s : State} {m : MethodId} {args : Array Value} {below : List Frame} {meth : Method} {c : Code} {D : va_G} {ids : Nat → ClassId} {ad tt : Nat → Nat} {rv : Hp} (hA : adOk ad 59) (C : CX p s m args meth c cX7_record 3 none RX7 D ids) (hX : (ExC tt ad) s s.heap) : ∀ (fu : Nat), ∀ (h : Hp) (r1 : Nat) (x2 : Int32) (H : Heap) (locs : List Loc) (ls : Array Slot), f_X7_record_21 fu h r1 x2 = some rv → wp D (cEC ids ad) ad 59 h H → va_S (inW ad 59) s.heap H locs → isX5 r1 → lv_has ls 3 [(0, .ref (ad 0)), (1, .ref (ad r1)), (2, .int x2)] → W p l e rm_X7_record s m args below meth c H locs 0 0 (MQ below (QW D (cEC ids ad) ad 59 none rv) args s 0 0 (inW ad 59)) (F0 m 21 ls []) := by
  intro fu
  induction fu with
  | zero =>
    intro h r1 x2 H locs ls hf hP hS hr1 hl
    cases hf
  | succ fu ih =>
    intro h r1 x2 H locs ls hf hP hS hr1 hl
    rw [f_X7_record_21_s] at hf
    refine lv_iload_n C.1 C.2.1 dX7_record_21 rfl (lv_at hl 2 rfl) ?_
    refine lv_aload_n C.1 C.2.1 dX7_record_22 rfl (lv_at hl 0 rfl) ?_
    refine gf_X7_23 C hP dX7_record_23 ?_
    refine ln_aSt C hP dX7_record_26 ?_
    refine lv_icmp_ge (tgt := 50) C.1 C.2.1 dX7_record_27 (by decide) (fun hc => ?_) (fun hc => ?_)
    · have hf := g_t hc hf
      refine lv_aload_n C.1 C.2.1 dX7_record_50 rfl (lv_at hl 0 rfl) ?_
      refine gf_X7_23 C hP dX7_record_51 ?_
      refine lv_aload_n C.1 C.2.1 dX7_record_54 rfl (lv_at hl 0 rfl) ?_
      refine gf_X7_23 C hP dX7_record_55 ?_
      refine ln_aSt C hP dX7_record_58 ?_
      refine lv_iconst (v := (1 : Int32)) C.1 C.2.1 dX7_record_59 (by decide) ?_
      refine lv_isub C.1 C.2.1 dX7_record_60 ?_
      refine lv_aload_n C.1 C.2.1 dX7_record_61 rfl (lv_at hl 1 rfl) ?_
      obtain ⟨hg, hf⟩ := g_if hf
      obtain ⟨hh, hf⟩ := g_if hf
      refine rs_aSt2 hA C hr1 hh hP hS hg dX7_record_62 (fun H locs hP hS => ?_)
      exact w_X7_record_63 hA C hX _ _ _ _ hf hP hS (lv_sub hl [0] rfl)
    · have hf := g_f hc hf
      refine lv_aload_n C.1 C.2.1 dX7_record_30 rfl (lv_at hl 0 rfl) ?_
      refine gf_X7_23 C hP dX7_record_31 ?_
      refine lv_iload_n C.1 C.2.1 dX7_record_34 rfl (lv_at hl 2 rfl) ?_
      refine lv_iconst (v := (1 : Int32)) C.1 C.2.1 dX7_record_35 (by decide) ?_
      refine lv_isub C.1 C.2.1 dX7_record_36 ?_
      refine lv_aload_n C.1 C.2.1 dX7_record_37 rfl (lv_at hl 0 rfl) ?_
      refine gf_X7_23 C hP dX7_record_38 ?_
      refine lv_iload_n C.1 C.2.1 dX7_record_41 rfl (lv_at hl 2 rfl) ?_
      obtain ⟨hg1, hf⟩ := g_if hf
      obtain ⟨hg2, hf⟩ := g_if hf
      refine rl_aSt C hP hg1 dX7_record_42 ?_
      obtain ⟨hg, hf⟩ := g_if hf
      refine rs_aSt hA C ((hi_el hg2)) hP hS hg dX7_record_43 (fun H locs hP hS => ?_)
      refine lv_iinc (v := (x2 + 1)) (lv' := [(2, .int (x2 + 1)), (0, .ref (ad 0)), (1, .ref (ad r1))]) C.1 C.2.1 dX7_record_44 hl (k := 2) rfl (by rfl) (by decide) rfl (fun ls hl => ?_)
      refine lv_goto (tgt := 21) C.1 C.2.1 dX7_record_47 (by decide) ?_
      exact ih _ _ _ _ _ _ hf hP hS hr1 (lv_sub hl [1, 2, 0] rfl)
set_option maxRecDepth 100000 in
set_option maxHeartbeats 4000000 in
theorem w_X7_record {p : Program} {l : Launch} {e : Env} {s : State} {m : MethodId} {args : Array Value} {below : List Frame} {meth : Method} {c : Code} {D : va_G} {ids : Nat → ClassId} {ad tt : Nat → Nat} {rv : Hp} (hA : adOk ad 59) (C : CX p s m args meth c cX7_record 3 none RX7 D ids) (hX : (ExC tt ad) s s.heap) : ∀ (h : Hp) (H : Heap) (locs : List Loc) (ls : Array Slot), f_X7_record h = some rv → wp D (cEC ids ad) ad 59 h H → va_S (inW ad 59) s.heap H locs → lv_has ls 3 [(0, .ref (ad 0))] → W p l e rm_X7_record s m args below meth c H locs 0 0 (MQ below (QW D (cEC ids ad) ad 59 none rv) args s 0 0 (inW ad 59)) (F0 m 0 ls []) := by
  intro h H locs ls hf hP hS hl
  unfold f_X7_record at hf
  refine lv_aload_n C.1 C.2.1 dX7_record_0 rfl (lv_at hl 0 rfl) ?_
  refine gf_X7_27 C hP dX7_record_1 ?_
  refine lv_aload_n C.1 C.2.1 dX7_record_4 rfl (lv_at hl 0 rfl) ?_
  refine gf_X7_23 C hP dX7_record_5 ?_
  refine ln_aSt C hP dX7_record_8 ?_
  refine lv_icmp_lt (tgt := 74) C.1 C.2.1 dX7_record_9 (by decide) (fun hc => ?_) (fun hc => ?_)
  · have hf := g_t hc hf
    exact w_X7_record_74 hA C hX _ _ _ _ hf hP hS (lv_sub hl [0] rfl)
  · have hf := g_f hc hf
    refine lv_aload_n C.1 C.2.1 dX7_record_12 rfl (lv_at hl 0 rfl) ?_
    refine gf_X7_23 C hP dX7_record_13 ?_
    refine lv_iconst (v := (0 : Int32)) C.1 C.2.1 dX7_record_16 (by decide) ?_
    obtain ⟨hg1, hf⟩ := g_if hf
    obtain ⟨hg2, hf⟩ := g_if hf
    refine rl_aSt C hP hg1 dX7_record_17 ?_
    refine lv_astore_n (lv' := [(1, .ref (ad (11 + 5 * (h 36 (0 : Int32).toNatClampNeg).toNatClampNeg))), (0, .ref (ad 0))]) C.1 C.2.1 dX7_record_18 rfl hl (by decide) rfl (fun ls hl => ?_)
    refine lv_iconst (v := (1 : Int32)) C.1 C.2.1 dX7_record_19 (by decide) ?_
    refine lv_istore_n (lv' := [(2, .int (1 : Int32)), (1, .ref (ad (11 + 5 * (h 36 (0 : Int32).toNatClampNeg).toNatClampNeg))), (0, .ref (ad 0))]) C.1 C.2.1 dX7_record_20 rfl hl (by decide) rfl (fun ls hl => ?_)
    exact w_X7_record_21 hA C hX _ _ _ _ _ _ _ hf hP hS (hi_el hg2) (lv_sub hl [2, 1, 0] rfl)
theorem c_X7_record (l : Launch) (D : va_G) (ids : Nat → ClassId) (ad tt : Nat → Nat) (hA : adOk ad 59) {h : Hp} {rv : Hp} (hf : f_X7_record h = some rv) : Met l yX7_record (ws_ yX7_record cX7_record 3 none) rm_X7_record (va_Pc [.ref (ad 0)] (WB D ids (cEC ids ad) ad 59 (ExC tt ad) h)) (QW D (cEC ids ad) ad 59 none rv) 0 0 (inW ad 59) :=
  u_met (own := RX7) (by decide) rfl (Nat.le_of_ble_eq_true rfl) rfl (fun p e s m args below meth c H ls C hX hP hS hl => w_X7_record (tt := tt) hA C hX _ _ _ _ hf hP hS hl)
abbrev rm_X2_change : Room := { frames := 0, cells := 0, slots := 0, locals := 0 }
set_option maxRecDepth 100000 in
set_option maxHeartbeats 4000000 in
theorem w_X2_change_45 {p : Program} {l : Launch} {e : Env} {s : State} {m : MethodId} {args : Array Value} {below : List Frame} {meth : Method} {c : Code} {D : va_G} {ids : Nat → ClassId} {ad tt : Nat → Nat} {rv : Hp} (hA : adOk ad 59) (C : CX p s m args meth c cX2_change 3 none RX2 D ids) (hX : (ExC tt ad) s s.heap) {k : Nat} (hk : isX2 k) : ∀ (h : Hp) (H : Heap) (locs : List Loc) (ls : Array Slot), f_X2_change_45 k h = some rv → wp D (cEC ids ad) ad 59 h H → va_S (inW ad 59) s.heap H locs → lv_has ls 3 [] → W p l e rm_X2_change s m args below meth c H locs 0 0 (MQ below (QW D (cEC ids ad) ad 59 none rv) args s 0 0 (inW ad 59)) (F0 m 45 ls []) := by
  intro h H locs ls hf hP hS hl
  unfold f_X2_change_45 at hf
  refine lv_goto (tgt := 64) C.1 C.2.1 dX2_change_45 (by decide) ?_
  obtain rfl := Option.some.inj hf
  exact u_vret C hP hS dX2_change_64
set_option maxRecDepth 100000 in
set_option maxHeartbeats 4000000 in
theorem w_X2_change_61 {p : Program} {l : Launch} {e : Env} {s : State} {m : MethodId} {args : Array Value} {below : List Frame} {meth : Method} {c : Code} {D : va_G} {ids : Nat → ClassId} {ad tt : Nat → Nat} {rv : Hp} (hA : adOk ad 59) (C : CX p s m args meth c cX2_change 3 none RX2 D ids) (hX : (ExC tt ad) s s.heap) {k : Nat} (hk : isX2 k) : ∀ (h : Hp) (H : Heap) (locs : List Loc) (ls : Array Slot), f_X2_change_61 k h = some rv → wp D (cEC ids ad) ad 59 h H → va_S (inW ad 59) s.heap H locs → lv_has ls 3 [] → W p l e rm_X2_change s m args below meth c H locs 0 0 (MQ below (QW D (cEC ids ad) ad 59 none rv) args s 0 0 (inW ad 59)) (F0 m 61 ls []) := by
  intro h H locs ls hf hP hS hl
  unfold f_X2_change_61 at hf
  refine lv_goto (tgt := 64) C.1 C.2.1 dX2_change_61 (by decide) ?_
  obtain rfl := Option.some.inj hf
  exact u_vret C hP hS dX2_change_64
set_option maxRecDepth 100000 in
set_option maxHeartbeats 4000000 in
theorem w_X2_change {p : Program} {l : Launch} {e : Env} {s : State} {m : MethodId} {args : Array Value} {below : List Frame} {meth : Method} {c : Code} {D : va_G} {ids : Nat → ClassId} {ad tt : Nat → Nat} {rv : Hp} (hA : adOk ad 59) (C : CX p s m args meth c cX2_change 3 none RX2 D ids) (hX : (ExC tt ad) s s.heap) {k : Nat} (hk : isX2 k) : ∀ (h : Hp) (a1 : Int32) (a2 : Int32) (H : Heap) (locs : List Loc) (ls : Array Slot), f_X2_change h k a1 a2 = some rv → wp D (cEC ids ad) ad 59 h H → va_S (inW ad 59) s.heap H locs → lv_has ls 3 [(0, .ref (ad k)), (1, .int a1), (2, .int a2)] → W p l e rm_X2_change s m args below meth c H locs 0 0 (MQ below (QW D (cEC ids ad) ad 59 none rv) args s 0 0 (inW ad 59)) (F0 m 0 ls []) := by
  intro h a1 a2 H locs ls hf hP hS hl
  unfold f_X2_change at hf
  refine lv_iload_n C.1 C.2.1 dX2_change_0 rfl (lv_at hl 1 rfl) ?_
  by_cases hc0 : a1 = 0
  · have hf := g_t hc0 hf
    refine lv_tableIn (off := 31) (tgt := 32) C.1 C.2.1 dX2_change_1 (by rw [hc0]; decide) (by rw [hc0]; decide) (by rw [hc0]; rfl) (by decide) ?_
    refine lv_aload_n C.1 C.2.1 dX2_change_32 rfl (lv_at hl 0 rfl) ?_
    refine lv_iload_n C.1 C.2.1 dX2_change_33 rfl (lv_at hl 2 rfl) ?_
    refine pf_X2_36 hA C hk hP hS dX2_change_34 (fun H locs hP hS => ?_)
    refine lv_goto (tgt := 64) C.1 C.2.1 dX2_change_37 (by decide) ?_
    obtain rfl := Option.some.inj hf
    exact u_vret C hP hS dX2_change_64
  · have hf := g_f hc0 hf
    by_cases hc1 : a1 = 1
    · have hf := g_t hc1 hf
      refine lv_tableIn (off := 39) (tgt := 40) C.1 C.2.1 dX2_change_1 (by rw [hc1]; decide) (by rw [hc1]; decide) (by rw [hc1]; rfl) (by decide) ?_
      refine lv_aload_n C.1 C.2.1 dX2_change_40 rfl (lv_at hl 0 rfl) ?_
      refine lv_iload_n C.1 C.2.1 dX2_change_41 rfl (lv_at hl 2 rfl) ?_
      refine pf_X2_9 hA C hk hP hS dX2_change_42 (fun H locs hP hS => ?_)
      exact w_X2_change_45 hA C hX hk _ _ _ _ hf hP hS (lv_sub hl [] rfl)
    · have hf := g_f hc1 hf
      by_cases hc2 : a1 = 2
      · have hf := g_t hc2 hf
        refine lv_tableIn (off := 47) (tgt := 48) C.1 C.2.1 dX2_change_1 (by rw [hc2]; decide) (by rw [hc2]; decide) (by rw [hc2]; rfl) (by decide) ?_
        refine lv_aload_n C.1 C.2.1 dX2_change_48 rfl (lv_at hl 0 rfl) ?_
        refine lv_iload_n C.1 C.2.1 dX2_change_49 rfl (lv_at hl 2 rfl) ?_
        refine pf_X2_15 hA C hk hP hS dX2_change_50 (fun H locs hP hS => ?_)
        refine lv_goto (tgt := 64) C.1 C.2.1 dX2_change_53 (by decide) ?_
        obtain rfl := Option.some.inj hf
        exact u_vret C hP hS dX2_change_64
      · have hf := g_f hc2 hf
        by_cases hc3 : a1 = 3
        · have hf := g_t hc3 hf
          refine lv_tableIn (off := 55) (tgt := 56) C.1 C.2.1 dX2_change_1 (by rw [hc3]; decide) (by rw [hc3]; decide) (by rw [hc3]; rfl) (by decide) ?_
          refine lv_aload_n C.1 C.2.1 dX2_change_56 rfl (lv_at hl 0 rfl) ?_
          refine lv_iload_n C.1 C.2.1 dX2_change_57 rfl (lv_at hl 2 rfl) ?_
          refine pf_X2_39 hA C hk hP hS dX2_change_58 (fun H locs hP hS => ?_)
          exact w_X2_change_61 hA C hX hk _ _ _ _ hf hP hS (lv_sub hl [] rfl)
        · have hf := g_f hc3 hf
          have hsw : a1.toInt < 0 ∨ 3 < a1.toInt := by
            have zhc0 := lv_neT hc0 (show (0 : Int32).toInt = 0 by decide)
            have zhc1 := lv_neT hc1 (show (1 : Int32).toInt = 1 by decide)
            have zhc2 := lv_neT hc2 (show (2 : Int32).toInt = 2 by decide)
            have zhc3 := lv_neT hc3 (show (3 : Int32).toInt = 3 by decide)
            omega
          refine lv_tableOut (tgt := 64) C.1 C.2.1 dX2_change_1 hsw (by decide) ?_
          obtain rfl := Option.some.inj hf
          exact u_vret C hP hS dX2_change_64
theorem c_X2_change (l : Launch) (D : va_G) (ids : Nat → ClassId) (ad tt : Nat → Nat) (hA : adOk ad 59) {k : Nat} (hk : isX2 k) {a1 : Int32} {a2 : Int32} {h : Hp} {rv : Hp} (hf : f_X2_change h k a1 a2 = some rv) : Met l yX2_change (ws_ yX2_change cX2_change 3 none) rm_X2_change (va_Pc [.ref (ad k), .int a1, .int a2] (WB D ids (cEC ids ad) ad 59 (ExC tt ad) h)) (QW D (cEC ids ad) ad 59 none rv) 0 0 (inW ad 59) :=
  u_met (own := RX2) (by decide) rfl (Nat.le_of_ble_eq_true rfl) rfl (fun p e s m args below meth c H ls C hX hP hS hl => w_X2_change (tt := tt) hA C hX hk _ _ _ _ _ _ hf hP hS hl)
theorem cv_X7_55 {p : Program} {l : Launch} {e : Env} {R : Room} {s : State} {m : MethodId} {args : Array Value} {below : List Frame} {meth : Method} {c : Code} {H : Heap} {locs : List Loc} {Q : State → Prop} {cc : ByteArray} {nL : Nat} {ret : Option FieldType} {pc : Nat} {ls : Array Slot} {rest : List Value} {D : va_G} {ids : Nat → ClassId} {ad tt : Nat → Nat} {h : Hp} (hA : adOk ad 59) (C : CX p s m args meth c cc nL ret RX7 D ids) (hX : (ExC tt ad) s s.heap) (hP : wp D (cEC ids ad) ad 59 h H) (hS : va_S (inW ad 59) s.heap H locs) {a1 : Int32} {rv : Int32 × Hp} (hf : f_X7_isCaptain h a1 = some rv) (hR : 0 + 1 ≤ R.frames ∧ 8 + (1 + 11) + 0 ≤ R.locals) (hsz : ls.size = nL) (hcat : (rest.map fun v => v.category).sum ≤ 8) (hdg : decode cc pc = .ok (.invokestatic 55, 3)) (kk : ∀ (H1 : Heap) (locs1 : List Loc), wp D (cEC ids ad) ad 59 rv.2 H1 → va_S (inW ad 59) s.heap H1 locs1 → W p l e R s m args below meth c H1 locs1 0 0 Q (F0 m (pc + 3) ls (.int rv.1 :: rest))) : W p l e R s m args below meth c H locs 0 0 Q (F0 m pc ls (.int a1 :: rest)) :=
  u_callS (As := [.int a1]) (rv := (some (.int rv.1))) C (exC_ok hA) hX (c_X7_isCaptain l D ids ad tt hA hf) q_134 q_135 q_2 q_136 ⟨rfl, rfl⟩ (by refine ⟨by decide +kernel, by decide +kernel, ?_⟩; show _ = some 1; decide +kernel) hR hP hS hsz hcat rfl hdg kk
theorem cv_X7_59 {p : Program} {l : Launch} {e : Env} {R : Room} {s : State} {m : MethodId} {args : Array Value} {below : List Frame} {meth : Method} {c : Code} {H : Heap} {locs : List Loc} {Q : State → Prop} {cc : ByteArray} {nL : Nat} {ret : Option FieldType} {pc : Nat} {ls : Array Slot} {rest : List Value} {D : va_G} {ids : Nat → ClassId} {ad tt : Nat → Nat} {h : Hp} (hA : adOk ad 59) (C : CX p s m args meth c cc nL ret RX7 D ids) (hX : (ExC tt ad) s s.heap) (hP : wp D (cEC ids ad) ad 59 h H) (hS : va_S (inW ad 59) s.heap H locs) {a1 : Int32} {a2 : Int32} {rv : Int32 × Hp} (hf : f_X7_isValueOfCaptain h a1 a2 = some rv) (hR : 1 + 1 ≤ R.frames ∧ 8 + (2 + 11) + 23 ≤ R.locals) (hsz : ls.size = nL) (hcat : (rest.map fun v => v.category).sum ≤ 8) (hdg : decode cc pc = .ok (.invokestatic 59, 3)) (kk : ∀ (H1 : Heap) (locs1 : List Loc), wp D (cEC ids ad) ad 59 rv.2 H1 → va_S (inW ad 59) s.heap H1 locs1 → W p l e R s m args below meth c H1 locs1 0 0 Q (F0 m (pc + 3) ls (.int rv.1 :: rest))) : W p l e R s m args below meth c H locs 0 0 Q (F0 m pc ls (.int a2 :: .int a1 :: rest)) :=
  u_callS (As := [.int a1, .int a2]) (rv := (some (.int rv.1))) C (exC_ok hA) hX (c_X7_isValueOfCaptain l D ids ad tt hA hf) q_137 q_138 q_2 q_139 ⟨rfl, rfl⟩ (by refine ⟨by decide +kernel, by decide +kernel, ?_⟩; show _ = some 2; decide +kernel) hR hP hS hsz hcat rfl hdg kk
theorem gf_X7_63 {p : Program} {l : Launch} {e : Env} {R : Room} {s : State} {m : MethodId} {args : Array Value} {below : List Frame} {meth : Method} {c : Code} {H : Heap} {locs : List Loc} {cells slots : Nat} {Q : State → Prop} {cc : ByteArray} {nL : Nat} {ret : Option FieldType} {pc : Nat} {ls : Array Slot} {rest : List Value} {D : va_G} {ids : Nat → ClassId} {ad : Nat → Nat} {h : Hp} (C : CX p s m args meth c cc nL ret RX7 D ids) {k : Nat} (hk : isX5 k) (hP : wp D (cEC ids ad) ad 59 h H) (hdg : decode cc pc = .ok (.getfield 63, 3)) (kk : W p l e R s m args below meth c H locs cells slots Q (F0 m (pc + 3) ls (.ref (ad (k + 1)) :: rest))) : W p l e R s m args below meth c H locs cells slots Q (F0 m pc ls (.ref (ad k) :: rest)) :=
  u_get C hP (lt_X5 hk) (cE_X5 hk) rfl inX5 0 (by decide) rfl q_133 hdg kk
theorem cv_X7_67 {p : Program} {l : Launch} {e : Env} {R : Room} {s : State} {m : MethodId} {args : Array Value} {below : List Frame} {meth : Method} {c : Code} {H : Heap} {locs : List Loc} {Q : State → Prop} {cc : ByteArray} {nL : Nat} {ret : Option FieldType} {pc : Nat} {ls : Array Slot} {rest : List Value} {D : va_G} {ids : Nat → ClassId} {ad tt : Nat → Nat} {h : Hp} (hA : adOk ad 59) (C : CX p s m args meth c cc nL ret RX7 D ids) (hX : (ExC tt ad) s s.heap) (hP : wp D (cEC ids ad) ad 59 h H) (hS : va_S (inW ad 59) s.heap H locs) {k : Nat} (hk : isX2 k) {a1 : Int32} {rv : Int32 × Hp} (hf : f_X2_tell h k a1 = some rv) (hR : 0 + 1 ≤ R.frames ∧ 8 + (2 + 11) + 0 ≤ R.locals) (hsz : ls.size = nL) (hcat : (rest.map fun v => v.category).sum ≤ 8) (hdg : decode cc pc = .ok (.invokevirtual 67, 3)) (kk : ∀ (H1 : Heap) (locs1 : List Loc), wp D (cEC ids ad) ad 59 rv.2 H1 → va_S (inW ad 59) s.heap H1 locs1 → W p l e R s m args below meth c H1 locs1 0 0 Q (F0 m (pc + 3) ls (.int rv.1 :: rest))) : W p l e R s m args below meth c H locs 0 0 Q (F0 m pc ls (.int a1 :: .ref (ad k) :: rest)) :=
  u_callV (As := [.int a1]) (rv := (some (.int rv.1))) C (exC_ok hA) hX (c_X2_tell l D ids ad tt hA hk hf) q_145 q_146 q_147 q_38 q_148 ⟨rfl, rfl⟩ (by refine ⟨by decide +kernel, by decide +kernel, ?_⟩; show _ = some 1; decide +kernel) hR (lt_X2 hk) (cE_X2 hk _) rfl hP hS hsz hcat rfl hdg kk
theorem cv_X7_73 {p : Program} {l : Launch} {e : Env} {R : Room} {s : State} {m : MethodId} {args : Array Value} {below : List Frame} {meth : Method} {c : Code} {H : Heap} {locs : List Loc} {Q : State → Prop} {cc : ByteArray} {nL : Nat} {ret : Option FieldType} {pc : Nat} {ls : Array Slot} {rest : List Value} {D : va_G} {ids : Nat → ClassId} {ad tt : Nat → Nat} {h : Hp} (hA : adOk ad 59) (C : CX p s m args meth c cc nL ret RX7 D ids) (hX : (ExC tt ad) s s.heap) (hP : wp D (cEC ids ad) ad 59 h H) (hS : va_S (inW ad 59) s.heap H locs) {rv : Hp} (hf : f_X7_record h = some rv) (hR : 2 + 1 ≤ R.frames ∧ 8 + (3 + 11) + 43 ≤ R.locals) (hsz : ls.size = nL) (hcat : (rest.map fun v => v.category).sum ≤ 8) (hdg : decode cc pc = .ok (.invokevirtual 73, 3)) (kk : ∀ (H1 : Heap) (locs1 : List Loc), wp D (cEC ids ad) ad 59 rv H1 → va_S (inW ad 59) s.heap H1 locs1 → W p l e R s m args below meth c H1 locs1 0 0 Q (F0 m (pc + 3) ls (rest))) : W p l e R s m args below meth c H locs 0 0 Q (F0 m pc ls (.ref (ad 0) :: rest)) :=
  u_callV (As := []) (rv := none) C (exC_ok hA) hX (c_X7_record l D ids ad tt hA hf) q_149 q_150 q_151 q_2 q_152 ⟨rfl, rfl⟩ (by refine ⟨by decide +kernel, by decide +kernel, ?_⟩; show _ = some 0; decide +kernel) hR (by decide) (cE_X7 _) rfl hP hS hsz hcat rfl hdg kk
theorem cv_X7_76 {p : Program} {l : Launch} {e : Env} {R : Room} {s : State} {m : MethodId} {args : Array Value} {below : List Frame} {meth : Method} {c : Code} {H : Heap} {locs : List Loc} {Q : State → Prop} {cc : ByteArray} {nL : Nat} {ret : Option FieldType} {pc : Nat} {ls : Array Slot} {rest : List Value} {D : va_G} {ids : Nat → ClassId} {ad tt : Nat → Nat} {h : Hp} (hA : adOk ad 59) (C : CX p s m args meth c cc nL ret RX7 D ids) (hX : (ExC tt ad) s s.heap) (hP : wp D (cEC ids ad) ad 59 h H) (hS : va_S (inW ad 59) s.heap H locs) {k : Nat} (hk : isX2 k) {a1 : Int32} {a2 : Int32} {rv : Hp} (hf : f_X2_change h k a1 a2 = some rv) (hR : 0 + 1 ≤ R.frames ∧ 8 + (3 + 11) + 0 ≤ R.locals) (hsz : ls.size = nL) (hcat : (rest.map fun v => v.category).sum ≤ 8) (hdg : decode cc pc = .ok (.invokevirtual 76, 3)) (kk : ∀ (H1 : Heap) (locs1 : List Loc), wp D (cEC ids ad) ad 59 rv H1 → va_S (inW ad 59) s.heap H1 locs1 → W p l e R s m args below meth c H1 locs1 0 0 Q (F0 m (pc + 3) ls (rest))) : W p l e R s m args below meth c H locs 0 0 Q (F0 m pc ls (.int a2 :: .int a1 :: .ref (ad k) :: rest)) :=
  u_callV (As := [.int a1, .int a2]) (rv := none) C (exC_ok hA) hX (c_X2_change l D ids ad tt hA hk hf) q_161 q_162 q_163 q_38 q_164 ⟨rfl, rfl⟩ (by refine ⟨by decide +kernel, by decide +kernel, ?_⟩; show _ = some 2; decide +kernel) hR (lt_X2 hk) (cE_X2 hk _) rfl hP hS hsz hcat rfl hdg kk
abbrev rm_X7_captain : Room := { frames := 3, cells := 0, slots := 0, locals := 65 }
set_option maxRecDepth 100000 in
set_option maxHeartbeats 4000000 in
theorem w_X7_captain {p : Program} {l : Launch} {e : Env} {s : State} {m : MethodId} {args : Array Value} {below : List Frame} {meth : Method} {c : Code} {D : va_G} {ids : Nat → ClassId} {ad tt : Nat → Nat} {rv : Int32 × Hp} (hA : adOk ad 59) (C : CX p s m args meth c cX7_captain 5 (some .int) RX7 D ids) (hX : (ExC tt ad) s s.heap) : ∀ (h : Hp) (a1 : Int32) (a2 : Int32) (a3 : Int32) (H : Heap) (locs : List Loc) (ls : Array Slot), f_X7_captain h a1 a2 a3 = some rv → wp D (cEC ids ad) ad 59 h H → va_S (inW ad 59) s.heap H locs → lv_has ls 5 [(0, .ref (ad 0)), (1, .int a1), (2, .int a2), (3, .int a3)] → W p l e rm_X7_captain s m args below meth c H locs 0 0 (MQ below (QW D (cEC ids ad) ad 59 (some (.int rv.1)) rv.2) args s 0 0 (inW ad 59)) (F0 m 0 ls []) := by
  intro h a1 a2 a3 H locs ls hf hP hS hl
  unfold f_X7_captain at hf
  refine lv_iload_n C.1 C.2.1 dX7_captain_0 rfl (lv_at hl 1 rfl) ?_
  obtain ⟨q1, eq1, hf⟩ := g_b hf
  refine cv_X7_55 hA C hX hP hS eq1 ⟨Nat.le_of_ble_eq_true rfl, Nat.le_of_ble_eq_true rfl⟩ hl.1 (Nat.le_of_ble_eq_true rfl) dX7_captain_1 (fun H locs hP hS => ?_)
  refine lv_if_ne (tgt := 9) C.1 C.2.1 dX7_captain_4 (by decide) (fun hc => ?_) (fun hc => ?_)
  · have hf := g_f hc hf
    refine lv_iload_n C.1 C.2.1 dX7_captain_9 rfl (lv_at hl 2 rfl) ?_
    refine lv_iload_n C.1 C.2.1 dX7_captain_10 rfl (lv_at hl 3 rfl) ?_
    obtain ⟨q2, eq2, hf⟩ := g_b hf
    refine cv_X7_59 hA C hX hP hS eq2 ⟨Nat.le_of_ble_eq_true rfl, Nat.le_of_ble_eq_true rfl⟩ hl.1 (Nat.le_of_ble_eq_true rfl) dX7_captain_11 (fun H locs hP hS => ?_)
    refine lv_if_ne (tgt := 20) C.1 C.2.1 dX7_captain_14 (by decide) (fun hc => ?_) (fun hc => ?_)
    · have hf := g_f hc hf
      refine lv_aload_n C.1 C.2.1 dX7_captain_20 rfl (lv_at hl 0 rfl) ?_
      refine gf_X7_12 C hP dX7_captain_21 ?_
      refine gf_X7_63 C pX5_1 hP dX7_captain_24 ?_
      refine lv_iload_n C.1 C.2.1 dX7_captain_27 rfl (lv_at hl 1 rfl) ?_
      obtain ⟨hg3, hf⟩ := g_if hf
      refine rl_aCap C (cap_of pX5_1) hP hg3 dX7_captain_28 ?_
      refine lv_iload_n C.1 C.2.1 dX7_captain_29 rfl (lv_at hl 2 rfl) ?_
      obtain ⟨q4, eq4, hf⟩ := g_b hf
      refine cv_X7_67 hA C hX hP hS (cp_el (cap_of pX5_1) hg3) eq4 ⟨Nat.le_of_ble_eq_true rfl, Nat.le_of_ble_eq_true rfl⟩ hl.1 (Nat.le_of_ble_eq_true rfl) dX7_captain_30 (fun H locs hP hS => ?_)
      refine lv_istore (lv' := [(4, .int q4.1), (0, .ref (ad 0)), (1, .int a1), (2, .int a2), (3, .int a3)]) C.1 C.2.1 dX7_captain_33 hl (by decide) rfl (fun ls hl => ?_)
      refine lv_iload C.1 C.2.1 dX7_captain_35 (lv_at hl 0 rfl) ?_
      refine lv_iload_n C.1 C.2.1 dX7_captain_37 rfl (lv_at hl 4 rfl) ?_
      refine lv_icmp_ne (tgt := 44) C.1 C.2.1 dX7_captain_38 (by decide) (fun hc => ?_) (fun hc => ?_)
      · have hf := g_f hc hf
        refine lv_aload_n C.1 C.2.1 dX7_captain_44 rfl (lv_at hl 1 rfl) ?_
        obtain ⟨q5, eq5, hf⟩ := g_b hf
        refine cv_X7_73 hA C hX hP hS eq5 ⟨Nat.le_of_ble_eq_true rfl, Nat.le_of_ble_eq_true rfl⟩ hl.1 (Nat.le_of_ble_eq_true rfl) dX7_captain_45 (fun H locs hP hS => ?_)
        refine lv_aload_n C.1 C.2.1 dX7_captain_48 rfl (lv_at hl 1 rfl) ?_
        refine gf_X7_12 C hP dX7_captain_49 ?_
        refine gf_X7_63 C pX5_1 hP dX7_captain_52 ?_
        refine lv_iload_n C.1 C.2.1 dX7_captain_55 rfl (lv_at hl 2 rfl) ?_
        obtain ⟨hg6, hf⟩ := g_if hf
        refine rl_aCap C (cap_of pX5_1) hP hg6 dX7_captain_56 ?_
        refine lv_iload_n C.1 C.2.1 dX7_captain_57 rfl (lv_at hl 3 rfl) ?_
        refine lv_iload_n C.1 C.2.1 dX7_captain_58 rfl (lv_at hl 4 rfl) ?_
        obtain ⟨q7, eq7, hf⟩ := g_b hf
        refine cv_X7_76 hA C hX hP hS (cp_el (cap_of pX5_1) hg6) eq7 ⟨Nat.le_of_ble_eq_true rfl, Nat.le_of_ble_eq_true rfl⟩ hl.1 (Nat.le_of_ble_eq_true rfl) dX7_captain_59 (fun H locs hP hS => ?_)
        refine lv_iload C.1 C.2.1 dX7_captain_62 (lv_at hl 0 rfl) ?_
        obtain rfl := Option.some.inj hf
        exact u_iret C hP hS dX7_captain_64
      · have hf := g_t hc hf
        refine lv_bipush (v := (-5 : Int32)) C.1 C.2.1 dX7_captain_41 (by decide) ?_
        obtain rfl := Option.some.inj hf
        exact u_iret C hP hS dX7_captain_43
    · have hf := g_t hc hf
      refine lv_bipush (v := (-2 : Int32)) C.1 C.2.1 dX7_captain_17 (by decide) ?_
      obtain rfl := Option.some.inj hf
      exact u_iret C hP hS dX7_captain_19
  · have hf := g_t hc hf
    refine lv_iconst (v := (-1 : Int32)) C.1 C.2.1 dX7_captain_7 (by decide) ?_
    obtain rfl := Option.some.inj hf
    exact u_iret C hP hS dX7_captain_8
theorem c_X7_captain (l : Launch) (D : va_G) (ids : Nat → ClassId) (ad tt : Nat → Nat) (hA : adOk ad 59) {a1 : Int32} {a2 : Int32} {a3 : Int32} {h : Hp} {rv : Int32 × Hp} (hf : f_X7_captain h a1 a2 a3 = some rv) : Met l yX7_captain (ws_ yX7_captain cX7_captain 5 (some .int)) rm_X7_captain (va_Pc [.ref (ad 0), .int a1, .int a2, .int a3] (WB D ids (cEC ids ad) ad 59 (ExC tt ad) h)) (QW D (cEC ids ad) ad 59 (some (.int rv.1)) rv.2) 0 0 (inW ad 59) :=
  u_met (own := RX7) (by decide) rfl (Nat.le_of_ble_eq_true rfl) rfl (fun p e s m args below meth c H ls C hX hP hS hl => w_X7_captain (tt := tt) hA C hX _ _ _ _ _ _ _ hf hP hS hl)
abbrev rm_X0_digitOf : Room := { frames := 0, cells := 0, slots := 0, locals := 0 }
set_option maxRecDepth 100000 in
set_option maxHeartbeats 4000000 in
theorem w_X0_digitOf {p : Program} {l : Launch} {e : Env} {s : State} {m : MethodId} {args : Array Value} {below : List Frame} {meth : Method} {c : Code} {D : va_G} {ids : Nat → ClassId} {ad tt : Nat → Nat} {rv : Int32 × Hp} (hA : adOk ad 59) (C : CX p s m args meth c cX0_digitOf 1 (some .int) RX0 D ids) (hX : (ExC tt ad) s s.heap) : ∀ (h : Hp) (a1 : Int32) (H : Heap) (locs : List Loc) (ls : Array Slot), f_X0_digitOf h a1 = some rv → wp D (cEC ids ad) ad 59 h H → va_S (inW ad 59) s.heap H locs → lv_has ls 1 [(0, .int a1)] → W p l e rm_X0_digitOf s m args below meth c H locs 0 0 (MQ below (QW D (cEC ids ad) ad 59 (some (.int rv.1)) rv.2) args s 0 0 (inW ad 59)) (F0 m 0 ls []) := by
  intro h a1 H locs ls hf hP hS hl
  unfold f_X0_digitOf at hf
  refine lv_iload_n C.1 C.2.1 dX0_digitOf_0 rfl (lv_at hl 0 rfl) ?_
  refine lv_bipush (v := (48 : Int32)) C.1 C.2.1 dX0_digitOf_1 (by decide) ?_
  refine lv_icmp_lt (tgt := 19) C.1 C.2.1 dX0_digitOf_3 (by decide) (fun hc => ?_) (fun hc => ?_)
  · have hf := g_t hc hf
    refine lv_bipush (v := (-5 : Int32)) C.1 C.2.1 dX0_digitOf_19 (by decide) ?_
    obtain rfl := Option.some.inj hf
    exact u_iret C hP hS dX0_digitOf_21
  · have hf := g_f hc hf
    refine lv_iload_n C.1 C.2.1 dX0_digitOf_6 rfl (lv_at hl 0 rfl) ?_
    refine lv_bipush (v := (57 : Int32)) C.1 C.2.1 dX0_digitOf_7 (by decide) ?_
    refine lv_icmp_gt (tgt := 19) C.1 C.2.1 dX0_digitOf_9 (by decide) (fun hc => ?_) (fun hc => ?_)
    · have hf := g_t hc hf
      refine lv_bipush (v := (-5 : Int32)) C.1 C.2.1 dX0_digitOf_19 (by decide) ?_
      obtain rfl := Option.some.inj hf
      exact u_iret C hP hS dX0_digitOf_21
    · have hf := g_f hc hf
      refine lv_iload_n C.1 C.2.1 dX0_digitOf_12 rfl (lv_at hl 0 rfl) ?_
      refine lv_bipush (v := (48 : Int32)) C.1 C.2.1 dX0_digitOf_13 (by decide) ?_
      refine lv_isub C.1 C.2.1 dX0_digitOf_15 ?_
      refine lv_goto (tgt := 21) C.1 C.2.1 dX0_digitOf_16 (by decide) ?_
      obtain rfl := Option.some.inj hf
      exact u_iret C hP hS dX0_digitOf_21
theorem c_X0_digitOf (l : Launch) (D : va_G) (ids : Nat → ClassId) (ad tt : Nat → Nat) (hA : adOk ad 59) {a1 : Int32} {h : Hp} {rv : Int32 × Hp} (hf : f_X0_digitOf h a1 = some rv) : Met l yX0_digitOf (ws_ yX0_digitOf cX0_digitOf 1 (some .int)) rm_X0_digitOf (va_Pc [.int a1] (WB D ids (cEC ids ad) ad 59 (ExC tt ad) h)) (QW D (cEC ids ad) ad 59 (some (.int rv.1)) rv.2) 0 0 (inW ad 59) :=
  u_met (own := RX0) (by decide) rfl (Nat.le_of_ble_eq_true rfl) rfl (fun p e s m args below meth c H ls C hX hP hS hl => w_X0_digitOf (tt := tt) hA C hX _ _ _ _ _ hf hP hS hl)
theorem cv_X0_51 {p : Program} {l : Launch} {e : Env} {R : Room} {s : State} {m : MethodId} {args : Array Value} {below : List Frame} {meth : Method} {c : Code} {H : Heap} {locs : List Loc} {Q : State → Prop} {cc : ByteArray} {nL : Nat} {ret : Option FieldType} {pc : Nat} {ls : Array Slot} {rest : List Value} {D : va_G} {ids : Nat → ClassId} {ad tt : Nat → Nat} {h : Hp} (hA : adOk ad 59) (C : CX p s m args meth c cc nL ret RX0 D ids) (hX : (ExC tt ad) s s.heap) (hP : wp D (cEC ids ad) ad 59 h H) (hS : va_S (inW ad 59) s.heap H locs) {a1 : Int32} {rv : Int32 × Hp} (hf : f_X0_digitOf h a1 = some rv) (hR : 0 + 1 ≤ R.frames ∧ 8 + (1 + 11) + 0 ≤ R.locals) (hsz : ls.size = nL) (hcat : (rest.map fun v => v.category).sum ≤ 8) (hdg : decode cc pc = .ok (.invokestatic 51, 3)) (kk : ∀ (H1 : Heap) (locs1 : List Loc), wp D (cEC ids ad) ad 59 rv.2 H1 → va_S (inW ad 59) s.heap H1 locs1 → W p l e R s m args below meth c H1 locs1 0 0 Q (F0 m (pc + 3) ls (.int rv.1 :: rest))) : W p l e R s m args below meth c H locs 0 0 Q (F0 m pc ls (.int a1 :: rest)) :=
  u_callS (As := [.int a1]) (rv := (some (.int rv.1))) C (exC_ok hA) hX (c_X0_digitOf l D ids ad tt hA hf) q_207 q_208 q_22 q_209 ⟨rfl, rfl⟩ (by refine ⟨by decide +kernel, by decide +kernel, ?_⟩; show _ = some 1; decide +kernel) hR hP hS hsz hcat rfl hdg kk
theorem pf_X0_25 {p : Program} {l : Launch} {e : Env} {R : Room} {s : State} {m : MethodId} {args : Array Value} {below : List Frame} {meth : Method} {c : Code} {H : Heap} {locs : List Loc} {cells slots : Nat} {Q : State → Prop} {cc : ByteArray} {nL : Nat} {ret : Option FieldType} {pc : Nat} {ls : Array Slot} {rest : List Value} {D : va_G} {ids : Nat → ClassId} {ad : Nat → Nat} {h : Hp} {x : Int32} (hA : adOk ad 59) (C : CX p s m args meth c cc nL ret RX0 D ids) (hP : wp D (cEC ids ad) ad 59 h H) (hS : va_S (inW ad 59) s.heap H locs) (hdg : decode cc pc = .ok (.putfield 25, 3)) (kk : ∀ (H1 : Heap) (locs1 : List Loc), wp D (cEC ids ad) ad 59 (hs h 37 4 x) H1 → va_S (inW ad 59) s.heap H1 locs1 → W p l e R s m args below meth c H1 locs1 cells slots Q (F0 m (pc + 3) ls rest)) : W p l e R s m args below meth c H locs cells slots Q (F0 m pc ls (.int x :: .ref (ad 37) :: rest)) :=
  u_put hA C hP hS (by decide) cE_X0 rfl inX0 tyX0 tyX0_ok nmX0 4 (by decide) rfl q_68 rfl (ty := .int) rfl rfl rfl hdg kk
theorem gf_X0_19 {p : Program} {l : Launch} {e : Env} {R : Room} {s : State} {m : MethodId} {args : Array Value} {below : List Frame} {meth : Method} {c : Code} {H : Heap} {locs : List Loc} {cells slots : Nat} {Q : State → Prop} {cc : ByteArray} {nL : Nat} {ret : Option FieldType} {pc : Nat} {ls : Array Slot} {rest : List Value} {D : va_G} {ids : Nat → ClassId} {ad : Nat → Nat} {h : Hp} (C : CX p s m args meth c cc nL ret RX0 D ids) (hP : wp D (cEC ids ad) ad 59 h H) (hdg : decode cc pc = .ok (.getfield 19, 3)) (kk : W p l e R s m args below meth c H locs cells slots Q (F0 m (pc + 3) ls (.int (h 37 2) :: rest))) : W p l e R s m args below meth c H locs cells slots Q (F0 m pc ls (.ref (ad 37) :: rest)) :=
  u_get C hP (by decide) cE_X0 rfl inX0 2 (by decide) rfl q_66 hdg kk
theorem pf_X0_19 {p : Program} {l : Launch} {e : Env} {R : Room} {s : State} {m : MethodId} {args : Array Value} {below : List Frame} {meth : Method} {c : Code} {H : Heap} {locs : List Loc} {cells slots : Nat} {Q : State → Prop} {cc : ByteArray} {nL : Nat} {ret : Option FieldType} {pc : Nat} {ls : Array Slot} {rest : List Value} {D : va_G} {ids : Nat → ClassId} {ad : Nat → Nat} {h : Hp} {x : Int32} (hA : adOk ad 59) (C : CX p s m args meth c cc nL ret RX0 D ids) (hP : wp D (cEC ids ad) ad 59 h H) (hS : va_S (inW ad 59) s.heap H locs) (hdg : decode cc pc = .ok (.putfield 19, 3)) (kk : ∀ (H1 : Heap) (locs1 : List Loc), wp D (cEC ids ad) ad 59 (hs h 37 2 x) H1 → va_S (inW ad 59) s.heap H1 locs1 → W p l e R s m args below meth c H1 locs1 cells slots Q (F0 m (pc + 3) ls rest)) : W p l e R s m args below meth c H locs cells slots Q (F0 m pc ls (.int x :: .ref (ad 37) :: rest)) :=
  u_put hA C hP hS (by decide) cE_X0 rfl inX0 tyX0 tyX0_ok nmX0 2 (by decide) rfl q_66 rfl (ty := .int) rfl rfl rfl hdg kk
theorem pf_X0_22 {p : Program} {l : Launch} {e : Env} {R : Room} {s : State} {m : MethodId} {args : Array Value} {below : List Frame} {meth : Method} {c : Code} {H : Heap} {locs : List Loc} {cells slots : Nat} {Q : State → Prop} {cc : ByteArray} {nL : Nat} {ret : Option FieldType} {pc : Nat} {ls : Array Slot} {rest : List Value} {D : va_G} {ids : Nat → ClassId} {ad : Nat → Nat} {h : Hp} {x : Int32} (hA : adOk ad 59) (C : CX p s m args meth c cc nL ret RX0 D ids) (hP : wp D (cEC ids ad) ad 59 h H) (hS : va_S (inW ad 59) s.heap H locs) (hdg : decode cc pc = .ok (.putfield 22, 3)) (kk : ∀ (H1 : Heap) (locs1 : List Loc), wp D (cEC ids ad) ad 59 (hs h 37 3 x) H1 → va_S (inW ad 59) s.heap H1 locs1 → W p l e R s m args below meth c H1 locs1 cells slots Q (F0 m (pc + 3) ls rest)) : W p l e R s m args below meth c H locs cells slots Q (F0 m pc ls (.int x :: .ref (ad 37) :: rest)) :=
  u_put hA C hP hS (by decide) cE_X0 rfl inX0 tyX0 tyX0_ok nmX0 3 (by decide) rfl q_67 rfl (ty := .int) rfl rfl rfl hdg kk
theorem gf_X0_25 {p : Program} {l : Launch} {e : Env} {R : Room} {s : State} {m : MethodId} {args : Array Value} {below : List Frame} {meth : Method} {c : Code} {H : Heap} {locs : List Loc} {cells slots : Nat} {Q : State → Prop} {cc : ByteArray} {nL : Nat} {ret : Option FieldType} {pc : Nat} {ls : Array Slot} {rest : List Value} {D : va_G} {ids : Nat → ClassId} {ad : Nat → Nat} {h : Hp} (C : CX p s m args meth c cc nL ret RX0 D ids) (hP : wp D (cEC ids ad) ad 59 h H) (hdg : decode cc pc = .ok (.getfield 25, 3)) (kk : W p l e R s m args below meth c H locs cells slots Q (F0 m (pc + 3) ls (.int (h 37 4) :: rest))) : W p l e R s m args below meth c H locs cells slots Q (F0 m pc ls (.ref (ad 37) :: rest)) :=
  u_get C hP (by decide) cE_X0 rfl inX0 4 (by decide) rfl q_68 hdg kk
theorem cv_X0_55 {p : Program} {l : Launch} {e : Env} {R : Room} {s : State} {m : MethodId} {args : Array Value} {below : List Frame} {meth : Method} {c : Code} {H : Heap} {locs : List Loc} {Q : State → Prop} {cc : ByteArray} {nL : Nat} {ret : Option FieldType} {pc : Nat} {ls : Array Slot} {rest : List Value} {D : va_G} {ids : Nat → ClassId} {ad tt : Nat → Nat} {h : Hp} (hA : adOk ad 59) (C : CX p s m args meth c cc nL ret RX0 D ids) (hX : (ExC tt ad) s s.heap) (hP : wp D (cEC ids ad) ad 59 h H) (hS : va_S (inW ad 59) s.heap H locs) {a1 : Int32} {rv : Int32 × Hp} (hf : f_X7_isCaptain h a1 = some rv) (hR : 0 + 1 ≤ R.frames ∧ 8 + (1 + 11) + 0 ≤ R.locals) (hsz : ls.size = nL) (hcat : (rest.map fun v => v.category).sum ≤ 8) (hdg : decode cc pc = .ok (.invokestatic 55, 3)) (kk : ∀ (H1 : Heap) (locs1 : List Loc), wp D (cEC ids ad) ad 59 rv.2 H1 → va_S (inW ad 59) s.heap H1 locs1 → W p l e R s m args below meth c H1 locs1 0 0 Q (F0 m (pc + 3) ls (.int rv.1 :: rest))) : W p l e R s m args below meth c H locs 0 0 Q (F0 m pc ls (.int a1 :: rest)) :=
  u_callN (As := [.int a1]) (rv := (some (.int rv.1))) C (exC_ok hA) hX (exC_n0 hX) (c_X7_isCaptain l D ids ad tt hA hf) q_135 q_2 q_136 ⟨rfl, rfl⟩ (by refine ⟨by decide +kernel, by decide +kernel, ?_⟩; show _ = some 1; decide +kernel) hR hP hS hsz hcat rfl hdg kk
abbrev rm_X0_takesCaptain : Room := { frames := 1, cells := 0, slots := 0, locals := 20 }
set_option maxRecDepth 100000 in
set_option maxHeartbeats 4000000 in
theorem w_X0_takesCaptain_18 {p : Program} {l : Launch} {e : Env} {s : State} {m : MethodId} {args : Array Value} {below : List Frame} {meth : Method} {c : Code} {D : va_G} {ids : Nat → ClassId} {ad tt : Nat → Nat} {rv : Int32 × Hp} (hA : adOk ad 59) (C : CX p s m args meth c cX0_takesCaptain 2 (some .boolean) RX0 D ids) (hX : (ExC tt ad) s s.heap) : ∀ (h : Hp) (H : Heap) (locs : List Loc) (ls : Array Slot), f_X0_takesCaptain_18 h = some rv → wp D (cEC ids ad) ad 59 h H → va_S (inW ad 59) s.heap H locs → lv_has ls 2 [(0, .ref (ad 37))] → W p l e rm_X0_takesCaptain s m args below meth c H locs 0 0 (MQ below (QW D (cEC ids ad) ad 59 (some (.int rv.1)) rv.2) args s 0 0 (inW ad 59)) (F0 m 18 ls []) := by
  intro h H locs ls hf hP hS hl
  unfold f_X0_takesCaptain_18 at hf
  refine lv_aload_n C.1 C.2.1 dX0_takesCaptain_18 rfl (lv_at hl 0 rfl) ?_
  refine lv_iconst (v := (1 : Int32)) C.1 C.2.1 dX0_takesCaptain_19 (by decide) ?_
  refine pf_X0_22 hA C hP hS dX0_takesCaptain_20 (fun H locs hP hS => ?_)
  refine lv_aload_n C.1 C.2.1 dX0_takesCaptain_23 rfl (lv_at hl 0 rfl) ?_
  refine gf_X0_25 C hP dX0_takesCaptain_24 ?_
  obtain ⟨q1, eq1, hf⟩ := g_b hf
  refine cv_X0_55 hA C hX hP hS eq1 ⟨Nat.le_of_ble_eq_true rfl, Nat.le_of_ble_eq_true rfl⟩ hl.1 (Nat.le_of_ble_eq_true rfl) dX0_takesCaptain_27 (fun H locs hP hS => ?_)
  obtain ⟨hg, hf⟩ := g_if hf
  obtain rfl := Option.some.inj hf
  exact u_zret C hP hS hg dX0_takesCaptain_30
set_option maxRecDepth 100000 in
set_option maxHeartbeats 4000000 in
theorem w_X0_takesCaptain {p : Program} {l : Launch} {e : Env} {s : State} {m : MethodId} {args : Array Value} {below : List Frame} {meth : Method} {c : Code} {D : va_G} {ids : Nat → ClassId} {ad tt : Nat → Nat} {rv : Int32 × Hp} (hA : adOk ad 59) (C : CX p s m args meth c cX0_takesCaptain 2 (some .boolean) RX0 D ids) (hX : (ExC tt ad) s s.heap) : ∀ (h : Hp) (a1 : Int32) (H : Heap) (locs : List Loc) (ls : Array Slot), f_X0_takesCaptain h a1 = some rv → wp D (cEC ids ad) ad 59 h H → va_S (inW ad 59) s.heap H locs → lv_has ls 2 [(0, .ref (ad 37)), (1, .int a1)] → W p l e rm_X0_takesCaptain s m args below meth c H locs 0 0 (MQ below (QW D (cEC ids ad) ad 59 (some (.int rv.1)) rv.2) args s 0 0 (inW ad 59)) (F0 m 0 ls []) := by
  intro h a1 H locs ls hf hP hS hl
  unfold f_X0_takesCaptain at hf
  refine lv_aload_n C.1 C.2.1 dX0_takesCaptain_0 rfl (lv_at hl 0 rfl) ?_
  refine lv_iload_n C.1 C.2.1 dX0_takesCaptain_1 rfl (lv_at hl 1 rfl) ?_
  obtain ⟨q1, eq1, hf⟩ := g_b hf
  refine cv_X0_51 hA C hX hP hS eq1 ⟨Nat.le_of_ble_eq_true rfl, Nat.le_of_ble_eq_true rfl⟩ hl.1 (Nat.le_of_ble_eq_true rfl) dX0_takesCaptain_2 (fun H locs hP hS => ?_)
  refine pf_X0_25 hA C hP hS dX0_takesCaptain_5 (fun H locs hP hS => ?_)
  refine lv_aload_n C.1 C.2.1 dX0_takesCaptain_8 rfl (lv_at hl 0 rfl) ?_
  refine lv_dup C.1 C.2.1 dX0_takesCaptain_9 rfl ?_
  refine gf_X0_19 C hP dX0_takesCaptain_10 ?_
  refine lv_iconst (v := (1 : Int32)) C.1 C.2.1 dX0_takesCaptain_13 (by decide) ?_
  refine lv_iadd C.1 C.2.1 dX0_takesCaptain_14 ?_
  refine pf_X0_19 hA C hP hS dX0_takesCaptain_15 (fun H locs hP hS => ?_)
  exact w_X0_takesCaptain_18 hA C hX _ _ _ _ hf hP hS (lv_sub hl [0] rfl)
theorem c_X0_takesCaptain (l : Launch) (D : va_G) (ids : Nat → ClassId) (ad tt : Nat → Nat) (hA : adOk ad 59) {a1 : Int32} {h : Hp} {rv : Int32 × Hp} (hf : f_X0_takesCaptain h a1 = some rv) : Met l yX0_takesCaptain (ws_ yX0_takesCaptain cX0_takesCaptain 2 (some .boolean)) rm_X0_takesCaptain (va_Pc [.ref (ad 37), .int a1] (WB D ids (cEC ids ad) ad 59 (ExC tt ad) h)) (QW D (cEC ids ad) ad 59 (some (.int rv.1)) rv.2) 0 0 (inW ad 59) :=
  u_met (own := RX0) (by decide) rfl (Nat.le_of_ble_eq_true rfl) rfl (fun p e s m args below meth c H ls C hX hP hS hl => w_X0_takesCaptain (tt := tt) hA C hX _ _ _ _ _ hf hP hS hl)
