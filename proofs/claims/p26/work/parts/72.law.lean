theorem cs_k {cells slots : Nat} (h : cells + 4 ≤ 600000 ∧ slots + 192 ≤ 7302250) : cells ≤ room_1.cells ∧ slots ≤ room_1.slots := ⟨Nat.le_trans (Nat.le_add_right _ 4) h.1, Nat.le_trans (Nat.le_add_right _ 192) h.2⟩
theorem cs_1 {cells slots : Nat} (h : cells ≤ 600000 ∧ slots ≤ 7302250) : cells ≤ room_1.cells ∧ slots ≤ room_1.slots := h
set_option maxRecDepth 100000 in
set_option maxHeartbeats 4000000 in
theorem law_best {p : Program} {l : Launch} {e : Env} {s : State} {m : MethodId} {below : List Frame} {meth : Method} {c : Code} {D : va_G} {ids : Nat → ClassId} {ad tt : Nat → Nat} {b L : Nat} {xs : Nat → Int32} (C : CX p s m #[Value.ref b] meth c code 17 ret RL D ids) (G : lawG ad tt b L xs s) {ee cells slots dyB : Nat} (he : ee < 24) (hcs : cells + 4 ≤ 600000 ∧ slots + 192 ≤ 7302250) (hn : ∀ (h : Hp) (r : Nat → Int32) (dy kp : Nat) (H : Heap) (locs : List Loc) (ls : Array Slot), INV h r dy kp → dy ≤ dyB → wp D (cEC ids ad) ad 59 h H → va_S (fun q : Nat => s.heap.size ≤ q) s.heap H locs → lv_has ls 17 [(0, .ref b), (1, .ref (ad 0)), (2, .int (nI ee))] → W p l e room_1 s m #[Value.ref b] below meth c H locs (cells) (slots) (lw_Z below #[Value.ref b] s) (F0 m 397 ls [])) : ∀ (h : Hp) (r : Nat → Int32) (dy kp : Nat) (H : Heap) (locs : List Loc) (ls : Array Slot), INV h r dy kp → dy ≤ dyB → wp D (cEC ids ad) ad 59 h H → va_S (fun q : Nat => s.heap.size ≤ q) s.heap H locs → lv_has ls 17 [(0, .ref b), (1, .ref (ad 0)), (2, .int (nI ee))] → W p l e room_1 s m #[Value.ref b] below meth c H locs (cells) (slots) (lw_Z below #[Value.ref b] s) (F0 m 319 ls []) := by
  intro h r dy kp H locs ls I hdy hPC hS hl
  have KV : VR r := I.1.2
  have hc0 : ee % 3 < 3 := Nat.mod_lt _ (by decide)
  refine lv_aload_n C.1 C.2.1 dL_law_319 rfl (lv_at hl 1 rfl) ?_
  refine lv_iload_n C.1 C.2.1 dL_law_320 rfl (lv_at hl 2 rfl) ?_
  refine lv_iconst (v := (3 : Int32)) C.1 C.2.1 dL_law_321 (by decide) ?_
  refine lv_irem C.1 C.2.1 dL_law_322 (by decide) ?_
  rw [show ((nI ee) - (nI ee) / (3 : Int32) * (3 : Int32)) = nI (ee % 3) from pk_rem (d := 3) (by omega) (by decide) (by decide)]
  obtain ⟨h1, e1, d1⟩ := X_bestHour I.1 hc0
  have I := INV_rd I d1
  refine u_callVF (As := [.int (nI (ee % 3))]) (rv := some (.int (nI (BH r (ee % 3))))) C (exC_ok G.1) (c_X7_bestHour l D ids ad tt G.1 e1) lq_482 lq_483 lq_484 lq_8 lq_485 ⟨rfl, rfl⟩ (by refine ⟨by decide +kernel, by decide +kernel, ?_⟩; show _ = some 1; decide +kernel) ⟨Nat.le_of_ble_eq_true rfl, Nat.le_of_ble_eq_true rfl⟩ (cs_k hcs) (by decide) (cE_X7 _) rfl hPC hS G.2.1 (lawEx G hS) hl.1 (Nat.le_of_ble_eq_true rfl) rfl dL_law_323 (fun H locs hPC hk hS => ?_)
  refine lv_istore (lv' := [(14, .int (nI (BH r (ee % 3)))), (0, .ref b), (1, .ref (ad 0)), (2, .int (nI ee))]) C.1 C.2.1 dL_law_326 hl (by decide) rfl (fun ls hl => ?_)
  refine lv_aload_n C.1 C.2.1 dL_law_328 rfl (lv_at hl 2 rfl) ?_
  refine lv_iload_n C.1 C.2.1 dL_law_329 rfl (lv_at hl 3 rfl) ?_
  refine lv_iconst (v := (3 : Int32)) C.1 C.2.1 dL_law_330 (by decide) ?_
  refine lv_irem C.1 C.2.1 dL_law_331 (by decide) ?_
  rw [show ((nI ee) - (nI ee) / (3 : Int32) * (3 : Int32)) = nI (ee % 3) from pk_rem (d := 3) (by omega) (by decide) (by decide)]
  refine lv_iconst (v := (2 : Int32)) C.1 C.2.1 dL_law_332 (by decide) ?_
  obtain ⟨h2, e2, d2⟩ := X_captainOf I.1 hc0 (k := 2) (by decide)
  have I := INV_rd I d2
  refine u_callVF (As := [.int (nI (ee % 3)), .int (2 : Int32)]) (rv := some (.int (cO r (ee % 3) 2))) C (exC_ok G.1) (c_X7_captainOf l D ids ad tt G.1 e2) lq_403 lq_404 lq_405 lq_8 lq_406 ⟨rfl, rfl⟩ (by refine ⟨by decide +kernel, by decide +kernel, ?_⟩; show _ = some 2; decide +kernel) ⟨Nat.le_of_ble_eq_true rfl, Nat.le_of_ble_eq_true rfl⟩ (cs_k hcs) (by decide) (cE_X7 _) rfl hPC hS G.2.1 (lawEx G hS) hl.1 (Nat.le_of_ble_eq_true rfl) rfl dL_law_333 (fun H locs hPC hk hS => ?_)
  refine lv_istore (lv' := [(15, .int (cO r (ee % 3) 2)), (14, .int (nI (BH r (ee % 3)))), (0, .ref b), (1, .ref (ad 0)), (2, .int (nI ee))]) C.1 C.2.1 dL_law_336 hl (by decide) rfl (fun ls hl => ?_)
  refine lv_aload_n C.1 C.2.1 dL_law_338 rfl (lv_at hl 3 rfl) ?_
  refine lv_iconst (v := (3 : Int32)) C.1 C.2.1 dL_law_339 (by decide) ?_
  obtain ⟨h3, e3, d3⟩ := X_count I.1 (k := 3) (by decide)
  have I := INV_rd I d3
  refine u_callVF (As := [.int (3 : Int32)]) (rv := some (.int (cN r 3))) C (exC_ok G.1) (c_X7_count l D ids ad tt G.1 e3) lq_441 lq_442 lq_443 lq_8 lq_444 ⟨rfl, rfl⟩ (by refine ⟨by decide +kernel, by decide +kernel, ?_⟩; show _ = some 1; decide +kernel) ⟨Nat.le_of_ble_eq_true rfl, Nat.le_of_ble_eq_true rfl⟩ (cs_k hcs) (by decide) (cE_X7 _) rfl hPC hS G.2.1 (lawEx G hS) hl.1 (Nat.le_of_ble_eq_true rfl) rfl dL_law_340 (fun H locs hPC hk hS => ?_)
  refine lv_istore (lv' := [(16, .int (cN r 3)), (15, .int (cO r (ee % 3) 2)), (14, .int (nI (BH r (ee % 3)))), (0, .ref b), (1, .ref (ad 0)), (2, .int (nI ee))]) C.1 C.2.1 dL_law_343 hl (by decide) rfl (fun ls hl => ?_)
  refine lv_aload_n C.1 C.2.1 dL_law_345 rfl (lv_at hl 4 rfl) ?_
  refine lv_iload_n C.1 C.2.1 dL_law_346 rfl (lv_at hl 5 rfl) ?_
  refine lv_iconst (v := (3 : Int32)) C.1 C.2.1 dL_law_347 (by decide) ?_
  refine lv_irem C.1 C.2.1 dL_law_348 (by decide) ?_
  rw [show ((nI ee) - (nI ee) / (3 : Int32) * (3 : Int32)) = nI (ee % 3) from pk_rem (d := 3) (by omega) (by decide) (by decide)]
  refine lv_iconst (v := (2 : Int32)) C.1 C.2.1 dL_law_349 (by decide) ?_
  refine lv_iload C.1 C.2.1 dL_law_350 (lv_at hl 2 rfl) ?_
  obtain ⟨hb1, hb2⟩ := BH_min r (ee % 3)
  obtain ⟨v4, h4, kp4, e4, I⟩ := X_setHour I hc0 hb1
  refine u_callVF (As := [.int (nI (ee % 3)), .int (2 : Int32), .int (nI (BH r (ee % 3)))]) (rv := some (.int v4)) C (exC_ok G.1) (c_X7_captain l D ids ad tt G.1 e4) lq_272 lq_273 lq_274 lq_8 lq_275 ⟨rfl, rfl⟩ (by refine ⟨by decide +kernel, by decide +kernel, ?_⟩; show _ = some 3; decide +kernel) ⟨Nat.le_of_ble_eq_true rfl, Nat.le_of_ble_eq_true rfl⟩ (cs_k hcs) (by decide) (cE_X7 _) rfl hPC hS G.2.1 (lawEx G hS) hl.1 (Nat.le_of_ble_eq_true rfl) rfl dL_law_352 (fun H locs hPC hk hS => ?_)
  refine lv_pop C.1 C.2.1 dL_law_355 rfl ?_
  refine lv_aload_n C.1 C.2.1 dL_law_356 rfl (lv_at hl 4 rfl) ?_
  refine lv_iconst (v := (3 : Int32)) C.1 C.2.1 dL_law_357 (by decide) ?_
  obtain ⟨h5, e5, d5⟩ := X_count I.1 (k := 3) (by decide)
  have I := INV_rd I d5
  refine u_callVF (As := [.int (3 : Int32)]) (rv := some (.int (cN (rF r (ee % 3) (BH r (ee % 3))) 3))) C (exC_ok G.1) (c_X7_count l D ids ad tt G.1 e5) lq_441 lq_442 lq_443 lq_8 lq_444 ⟨rfl, rfl⟩ (by refine ⟨by decide +kernel, by decide +kernel, ?_⟩; show _ = some 1; decide +kernel) ⟨Nat.le_of_ble_eq_true rfl, Nat.le_of_ble_eq_true rfl⟩ (cs_k hcs) (by decide) (cE_X7 _) rfl hPC hS G.2.1 (lawEx G hS) hl.1 (Nat.le_of_ble_eq_true rfl) rfl dL_law_358 (fun H locs hPC hk hS => ?_)
  refine lv_iload C.1 C.2.1 dL_law_361 (lv_at hl 0 rfl) ?_
  have hcl : ¬ cN r 3 < cN (rF r (ee % 3) (BH r (ee % 3))) 3 := fun z => by
    have k1 : cN r 3 = nI (kF r (ee % 3) (cf r (ee % 3))) := by
      unfold kF
      rw [rF_own (VR_f KV hc0).1]
      rfl
    have k2 : cN (rF r (ee % 3) (BH r (ee % 3))) 3 = nI (kF r (ee % 3) (BH r (ee % 3))) := rfl
    rw [k1, k2] at z
    have b1 := kF_le r (ee % 3) (cf r (ee % 3))
    have b2 := kF_le r (ee % 3) (BH r (ee % 3))
    have b3 := hb2 _ (VR_f KV hc0).2
    have := (lt_iff (by omega) (by omega)).mp z
    omega
  refine lv_icmp_gt (tgt := 395) C.1 C.2.1 dL_law_363 (by decide) (fun hc => absurd hc (hcl)) (fun _ => ?_)
  refine lv_aload_n C.1 C.2.1 dL_law_366 rfl (lv_at hl 4 rfl) ?_
  refine lv_iload_n C.1 C.2.1 dL_law_367 rfl (lv_at hl 5 rfl) ?_
  refine lv_iconst (v := (3 : Int32)) C.1 C.2.1 dL_law_368 (by decide) ?_
  refine lv_irem C.1 C.2.1 dL_law_369 (by decide) ?_
  rw [show ((nI ee) - (nI ee) / (3 : Int32) * (3 : Int32)) = nI (ee % 3) from pk_rem (d := 3) (by omega) (by decide) (by decide)]
  obtain ⟨h6, e6, d6⟩ := X_bestHour I.1 hc0
  rw [BH_rF] at e6
  have I := INV_rd I d6
  refine u_callVF (As := [.int (nI (ee % 3))]) (rv := some (.int (nI (BH r (ee % 3))))) C (exC_ok G.1) (c_X7_bestHour l D ids ad tt G.1 e6) lq_482 lq_483 lq_484 lq_8 lq_485 ⟨rfl, rfl⟩ (by refine ⟨by decide +kernel, by decide +kernel, ?_⟩; show _ = some 1; decide +kernel) ⟨Nat.le_of_ble_eq_true rfl, Nat.le_of_ble_eq_true rfl⟩ (cs_k hcs) (by decide) (cE_X7 _) rfl hPC hS G.2.1 (lawEx G hS) hl.1 (Nat.le_of_ble_eq_true rfl) rfl dL_law_370 (fun H locs hPC hk hS => ?_)
  refine lv_iload C.1 C.2.1 dL_law_373 (lv_at hl 2 rfl) ?_
  refine lv_icmp_ne (tgt := 395) C.1 C.2.1 dL_law_375 (by decide) (fun hc => absurd (rfl) hc) (fun _ => ?_)
  refine lv_iload C.1 C.2.1 dL_law_378 (lv_at hl 1 rfl) ?_
  refine lv_iload C.1 C.2.1 dL_law_380 (lv_at hl 2 rfl) ?_
  refine lv_icmp_ne (tgt := 397) C.1 C.2.1 dL_law_382 (by decide) (fun hc => ?_) (fun hc => ?_)
  · exact hn _ _ _ _ _ _ _ I hdy hPC hS (lv_sub hl [3, 4, 5] rfl)
  · skip
    refine lv_aload_n C.1 C.2.1 dL_law_385 rfl (lv_at hl 4 rfl) ?_
    refine lv_iconst (v := (3 : Int32)) C.1 C.2.1 dL_law_386 (by decide) ?_
    obtain ⟨h7, e7, d7⟩ := X_count I.1 (k := 3) (by decide)
    have I := INV_rd I d7
    refine u_callVF (As := [.int (3 : Int32)]) (rv := some (.int (cN (rF r (ee % 3) (BH r (ee % 3))) 3))) C (exC_ok G.1) (c_X7_count l D ids ad tt G.1 e7) lq_441 lq_442 lq_443 lq_8 lq_444 ⟨rfl, rfl⟩ (by refine ⟨by decide +kernel, by decide +kernel, ?_⟩; show _ = some 1; decide +kernel) ⟨Nat.le_of_ble_eq_true rfl, Nat.le_of_ble_eq_true rfl⟩ (cs_k hcs) (by decide) (cE_X7 _) rfl hPC hS G.2.1 (lawEx G hS) hl.1 (Nat.le_of_ble_eq_true rfl) rfl dL_law_387 (fun H locs hPC hk hS => ?_)
    refine lv_iload C.1 C.2.1 dL_law_390 (lv_at hl 0 rfl) ?_
    have hown : cN (rF r (ee % 3) (BH r (ee % 3))) 3 = cN r 3 := by
      rw [rF_own (show r (6 + 10 * (ee % 3) + 2) = nI (BH r (ee % 3)) from hc)]
    refine lv_icmp_eq (tgt := 397) C.1 C.2.1 dL_law_392 (by decide) (fun _ => ?_) (fun hc => absurd (hown) hc)
    exact hn _ _ _ _ _ _ _ I hdy hPC hS (lv_sub hl [3, 4, 5] rfl)
set_option maxRecDepth 100000 in
set_option maxHeartbeats 4000000 in
theorem law_learn {p : Program} {l : Launch} {e : Env} {s : State} {m : MethodId} {below : List Frame} {meth : Method} {c : Code} {D : va_G} {ids : Nat → ClassId} {ad tt : Nat → Nat} {b L : Nat} {xs : Nat → Int32} (C : CX p s m #[Value.ref b] meth c code 17 ret RL D ids) (G : lawG ad tt b L xs s) {ee cells slots dy : Nat} {r : Nat → Int32} {ls11 : Int32} (hcs : cells + 4 ≤ 600000 ∧ slots + 192 ≤ 7302250) (hl11 : ∀ c, c < 3 → ((ls11 >>> (nI c &&& 31)) &&& (1 : Int32)) = 1 → r (6 + 10 * c + 0) = r 1) (hn : ∀ (h : Hp) (kp : Nat) (H : Heap) (locs : List Loc) (ls : Array Slot), INV h r dy kp → wp D (cEC ids ad) ad 59 h H → va_S (fun q : Nat => s.heap.size ≤ q) s.heap H locs → lv_has ls 17 [(0, .ref b), (1, .ref (ad 0)), (2, .int (nI ee))] → W p l e room_1 s m #[Value.ref b] below meth c H locs (cells) (slots) (lw_Z below #[Value.ref b] s) (F0 m 319 ls [])) : ∀ (n cc : Nat), cc + n = 3 → ∀ (h : Hp) (kp : Nat) (H : Heap) (locs : List Loc) (ls : Array Slot), INV h r dy kp → wp D (cEC ids ad) ad 59 h H → va_S (fun q : Nat => s.heap.size ≤ q) s.heap H locs → lv_has ls 17 [(0, .ref b), (1, .ref (ad 0)), (2, .int (nI ee)), (11, .int ls11), (14, .int (nI cc))] → W p l e room_1 s m #[Value.ref b] below meth c H locs (cells) (slots) (lw_Z below #[Value.ref b] s) (F0 m 279 ls []) := by
  intro n
  induction n with
  | zero =>
    intro cc hkn
    intro h kp H locs ls I hPC hS hl
    refine lv_iload C.1 C.2.1 dL_law_279 (lv_at hl 4 rfl) ?_
    refine lv_iconst (v := (3 : Int32)) C.1 C.2.1 dL_law_281 (by decide) ?_
    refine lv_icmp_ge (tgt := 319) C.1 C.2.1 dL_law_282 (by decide) (fun _ => ?_) (fun hc => absurd (show (3 : Int32) ≤ nI cc from (le_iff (a := 3) (by decide) (by omega)).mpr (by omega)) hc)
    exact hn h kp H locs ls I hPC hS (lv_sub hl [0, 1, 2] rfl)
  | succ n ih =>
    intro cc hkn
    intro h kp H locs ls I hPC hS hl
    have go : ∀ (h : Hp) (kp : Nat) (H : Heap) (locs : List Loc) (ls : Array Slot), INV h r dy kp → wp D (cEC ids ad) ad 59 h H → va_S (fun q : Nat => s.heap.size ≤ q) s.heap H locs → lv_has ls 17 [(0, .ref b), (1, .ref (ad 0)), (2, .int (nI ee)), (11, .int ls11), (14, .int (nI cc))] → W p l e room_1 s m #[Value.ref b] below meth c H locs (cells) (slots) (lw_Z below #[Value.ref b] s) (F0 m 313 ls []) := by
      intro h kp H locs ls I hPC hS hl
      refine lv_iinc (v := nI (cc + 1)) (lv' := [(14, .int (nI (cc + 1))), (0, .ref b), (1, .ref (ad 0)), (2, .int (nI ee)), (11, .int ls11)]) C.1 C.2.1 dL_law_313 hl (k := 4) rfl (nI_1 cc) (by decide) rfl (fun ls hl => ?_)
      refine lv_goto (tgt := 279) C.1 C.2.1 dL_law_316 (by decide) ?_
      exact ih (cc + 1) (by omega) h kp H locs ls I hPC hS (lv_sub hl [1, 2, 3, 4, 0] rfl)
    refine lv_iload C.1 C.2.1 dL_law_279 (lv_at hl 4 rfl) ?_
    refine lv_iconst (v := (3 : Int32)) C.1 C.2.1 dL_law_281 (by decide) ?_
    refine lv_icmp_ge (tgt := 319) C.1 C.2.1 dL_law_282 (by decide) (fun hc => absurd hc (fun (z : (3 : Int32) ≤ nI cc) => by have := (le_iff (a := 3) (by decide) (by omega)).mp z; omega)) (fun _ => ?_)
    refine lv_iload C.1 C.2.1 dL_law_285 (lv_at hl 3 rfl) ?_
    refine lv_iload C.1 C.2.1 dL_law_287 (lv_at hl 4 rfl) ?_
    refine lv_ishr C.1 C.2.1 dL_law_289 ?_
    refine lv_iconst (v := (1 : Int32)) C.1 C.2.1 dL_law_290 (by decide) ?_
    refine lv_iand C.1 C.2.1 dL_law_291 ?_
    refine lv_iconst (v := (1 : Int32)) C.1 C.2.1 dL_law_292 (by decide) ?_
    refine lv_icmp_ne (tgt := 313) C.1 C.2.1 dL_law_293 (by decide) (fun hc => ?_) (fun hc => ?_)
    · exact go h kp H locs ls I hPC hS hl
    · have hcb := hc
      refine lv_aload_n C.1 C.2.1 dL_law_296 rfl (lv_at hl 1 rfl) ?_
      refine lv_iload C.1 C.2.1 dL_law_297 (lv_at hl 4 rfl) ?_
      refine lv_iconst (v := (0 : Int32)) C.1 C.2.1 dL_law_299 (by decide) ?_
      obtain ⟨h1, e1, d1⟩ := X_captainOf I.1 (c := cc) (by omega) (k := 0) (by decide)
      have I := INV_rd I d1
      refine u_callVF (As := [.int (nI cc), .int (0 : Int32)]) (rv := some (.int (cO r cc 0))) C (exC_ok G.1) (c_X7_captainOf l D ids ad tt G.1 e1) lq_403 lq_404 lq_405 lq_8 lq_406 ⟨rfl, rfl⟩ (by refine ⟨by decide +kernel, by decide +kernel, ?_⟩; show _ = some 2; decide +kernel) ⟨Nat.le_of_ble_eq_true rfl, Nat.le_of_ble_eq_true rfl⟩ (cs_k hcs) (by decide) (cE_X7 _) rfl hPC hS G.2.1 (lawEx G hS) hl.1 (Nat.le_of_ble_eq_true rfl) rfl dL_law_300 (fun H locs hPC hk hS => ?_)
      refine lv_aload_n C.1 C.2.1 dL_law_303 rfl (lv_at hl 1 rfl) ?_
      refine lv_iconst (v := (1 : Int32)) C.1 C.2.1 dL_law_304 (by decide) ?_
      obtain ⟨h2, e2, d2⟩ := X_count I.1 (k := 1) (by decide)
      have I := INV_rd I d2
      refine u_callVF (As := [.int (1 : Int32)]) (rv := some (.int (cN r 1))) C (exC_ok G.1) (c_X7_count l D ids ad tt G.1 e2) lq_441 lq_442 lq_443 lq_8 lq_444 ⟨rfl, rfl⟩ (by refine ⟨by decide +kernel, by decide +kernel, ?_⟩; show _ = some 1; decide +kernel) ⟨Nat.le_of_ble_eq_true rfl, Nat.le_of_ble_eq_true rfl⟩ (cs_k hcs) (by decide) (cE_X7 _) rfl hPC hS G.2.1 (lawEx G hS) hl.1 (Nat.le_of_ble_eq_true rfl) rfl dL_law_305 (fun H locs hPC hk hS => ?_)
      refine lv_icmp_eq (tgt := 313) C.1 C.2.1 dL_law_308 (by decide) (fun _ => ?_) (fun hc => absurd (show cO r cc 0 = cN r 1 from hl11 cc (by omega) hcb) hc)
      exact go _ kp _ _ ls I hPC hS hl
set_option maxRecDepth 100000 in
set_option maxHeartbeats 4000000 in
theorem law_day {p : Program} {l : Launch} {e : Env} {s : State} {m : MethodId} {below : List Frame} {meth : Method} {c : Code} {D : va_G} {ids : Nat → ClassId} {ad tt : Nat → Nat} {b L : Nat} {xs : Nat → Int32} (C : CX p s m #[Value.ref b] meth c code 17 ret RL D ids) (G : lawG ad tt b L xs s) {ee cells slots dyB : Nat} (he : ee < 24) (hB : dyB < 9000) (hcs : cells + 4 ≤ 600000 ∧ slots + 192 ≤ 7302250) (hn : ∀ (h : Hp) (r : Nat → Int32) (dy kp : Nat) (H : Heap) (locs : List Loc) (ls : Array Slot), INV h r dy kp → dy ≤ dyB + 1 → wp D (cEC ids ad) ad 59 h H → va_S (fun q : Nat => s.heap.size ≤ q) s.heap H locs → lv_has ls 17 [(0, .ref b), (1, .ref (ad 0)), (2, .int (nI ee))] → W p l e room_1 s m #[Value.ref b] below meth c H locs (cells) (slots) (lw_Z below #[Value.ref b] s) (F0 m 397 ls [])) : ∀ (h : Hp) (r : Nat → Int32) (dy kp : Nat) (H : Heap) (locs : List Loc) (ls : Array Slot), INV h r dy kp → dy ≤ dyB → wp D (cEC ids ad) ad 59 h H → va_S (fun q : Nat => s.heap.size ≤ q) s.heap H locs → lv_has ls 17 [(0, .ref b), (1, .ref (ad 0)), (2, .int (nI ee))] → W p l e room_1 s m #[Value.ref b] below meth c H locs (cells) (slots) (lw_Z below #[Value.ref b] s) (F0 m 196 ls []) := by
  intro h r dy kp H locs ls I hdy hPC hS hl
  refine lv_iload_n C.1 C.2.1 dL_law_196 rfl (lv_at hl 2 rfl) ?_
  refine lv_bipush (v := (6 : Int32)) C.1 C.2.1 dL_law_197 (by decide) ?_
  refine lv_irem C.1 C.2.1 dL_law_199 (by decide) ?_
  rw [show ((nI ee) - (nI ee) / (6 : Int32) * (6 : Int32)) = nI (ee % 6) from pk_rem (d := 6) (by omega) (by decide) (by decide)]
  refine lv_iconst (v := (5 : Int32)) C.1 C.2.1 dL_law_200 (by decide) ?_
  refine lv_icmp_ne (tgt := 397) C.1 C.2.1 dL_law_201 (by decide) (fun hc => ?_) (fun hc => ?_)
  · exact hn h r dy kp H locs ls I (by omega) hPC hS hl
  · skip
    refine lv_aload_n C.1 C.2.1 dL_law_204 rfl (lv_at hl 1 rfl) ?_
    refine lv_iconst (v := (0 : Int32)) C.1 C.2.1 dL_law_205 (by decide) ?_
    have K0 := I.1
    obtain ⟨g0, e0, d0⟩ := (X_ifSailed I.1).1
    have I := INV_rd I d0
    refine u_callVF (As := [.int (0 : Int32)]) (rv := some (.int (MD r))) C (exC_ok G.1) (c_X7_ifSailed l D ids ad tt G.1 e0) lq_473 lq_474 lq_475 lq_8 lq_476 ⟨rfl, rfl⟩ (by refine ⟨by decide +kernel, by decide +kernel, ?_⟩; show _ = some 1; decide +kernel) ⟨Nat.le_of_ble_eq_true rfl, Nat.le_of_ble_eq_true rfl⟩ (cs_k hcs) (by decide) (cE_X7 _) rfl hPC hS G.2.1 (lawEx G hS) hl.1 (Nat.le_of_ble_eq_true rfl) rfl dL_law_206 (fun H locs hPC hk hS => ?_)
    refine lv_istore (lv' := [(9, .int (MD r)), (0, .ref b), (1, .ref (ad 0)), (2, .int (nI ee))]) C.1 C.2.1 dL_law_209 hl (by decide) rfl (fun ls hl => ?_)
    refine lv_aload_n C.1 C.2.1 dL_law_211 rfl (lv_at hl 2 rfl) ?_
    refine lv_iconst (v := (1 : Int32)) C.1 C.2.1 dL_law_212 (by decide) ?_
    obtain ⟨g1, e1, d1⟩ := (X_ifSailed I.1).2.1
    have I := INV_rd I d1
    refine u_callVF (As := [.int (1 : Int32)]) (rv := some (.int (CD r))) C (exC_ok G.1) (c_X7_ifSailed l D ids ad tt G.1 e1) lq_473 lq_474 lq_475 lq_8 lq_476 ⟨rfl, rfl⟩ (by refine ⟨by decide +kernel, by decide +kernel, ?_⟩; show _ = some 1; decide +kernel) ⟨Nat.le_of_ble_eq_true rfl, Nat.le_of_ble_eq_true rfl⟩ (cs_k hcs) (by decide) (cE_X7 _) rfl hPC hS G.2.1 (lawEx G hS) hl.1 (Nat.le_of_ble_eq_true rfl) rfl dL_law_213 (fun H locs hPC hk hS => ?_)
    refine lv_istore (lv' := [(10, .int (CD r)), (9, .int (MD r)), (0, .ref b), (1, .ref (ad 0)), (2, .int (nI ee))]) C.1 C.2.1 dL_law_216 hl (by decide) rfl (fun ls hl => ?_)
    refine lv_aload_n C.1 C.2.1 dL_law_218 rfl (lv_at hl 3 rfl) ?_
    refine lv_iconst (v := (5 : Int32)) C.1 C.2.1 dL_law_219 (by decide) ?_
    obtain ⟨g5, e5, d5⟩ := (X_ifSailed I.1).2.2
    have I := INV_rd I d5
    refine u_callVF (As := [.int (5 : Int32)]) (rv := some (.int (LSd r))) C (exC_ok G.1) (c_X7_ifSailed l D ids ad tt G.1 e5) lq_473 lq_474 lq_475 lq_8 lq_476 ⟨rfl, rfl⟩ (by refine ⟨by decide +kernel, by decide +kernel, ?_⟩; show _ = some 1; decide +kernel) ⟨Nat.le_of_ble_eq_true rfl, Nat.le_of_ble_eq_true rfl⟩ (cs_k hcs) (by decide) (cE_X7 _) rfl hPC hS G.2.1 (lawEx G hS) hl.1 (Nat.le_of_ble_eq_true rfl) rfl dL_law_220 (fun H locs hPC hk hS => ?_)
    refine lv_istore (lv' := [(11, .int (LSd r)), (10, .int (CD r)), (9, .int (MD r)), (0, .ref b), (1, .ref (ad 0)), (2, .int (nI ee))]) C.1 C.2.1 dL_law_223 hl (by decide) rfl (fun ls hl => ?_)
    refine lv_aload_n C.1 C.2.1 dL_law_225 rfl (lv_at hl 4 rfl) ?_
    refine lv_iconst (v := (4 : Int32)) C.1 C.2.1 dL_law_226 (by decide) ?_
    obtain ⟨ga, ea, da⟩ := X_count I.1 (k := 4) (by decide)
    have I := INV_rd I da
    refine u_callVF (As := [.int (4 : Int32)]) (rv := some (.int (cN r 4))) C (exC_ok G.1) (c_X7_count l D ids ad tt G.1 ea) lq_441 lq_442 lq_443 lq_8 lq_444 ⟨rfl, rfl⟩ (by refine ⟨by decide +kernel, by decide +kernel, ?_⟩; show _ = some 1; decide +kernel) ⟨Nat.le_of_ble_eq_true rfl, Nat.le_of_ble_eq_true rfl⟩ (cs_k hcs) (by decide) (cE_X7 _) rfl hPC hS G.2.1 (lawEx G hS) hl.1 (Nat.le_of_ble_eq_true rfl) rfl dL_law_227 (fun H locs hPC hk hS => ?_)
    refine lv_istore (lv' := [(12, .int (cN r 4)), (11, .int (LSd r)), (10, .int (CD r)), (9, .int (MD r)), (0, .ref b), (1, .ref (ad 0)), (2, .int (nI ee))]) C.1 C.2.1 dL_law_230 hl (by decide) rfl (fun ls hl => ?_)
    refine lv_aload_n C.1 C.2.1 dL_law_232 rfl (lv_at hl 5 rfl) ?_
    refine lv_bipush (v := (6 : Int32)) C.1 C.2.1 dL_law_233 (by decide) ?_
    obtain ⟨gb, eb, db⟩ := X_count I.1 (k := 6) (by decide)
    have I := INV_rd I db
    refine u_callVF (As := [.int (6 : Int32)]) (rv := some (.int (cN r 6))) C (exC_ok G.1) (c_X7_count l D ids ad tt G.1 eb) lq_441 lq_442 lq_443 lq_8 lq_444 ⟨rfl, rfl⟩ (by refine ⟨by decide +kernel, by decide +kernel, ?_⟩; show _ = some 1; decide +kernel) ⟨Nat.le_of_ble_eq_true rfl, Nat.le_of_ble_eq_true rfl⟩ (cs_k hcs) (by decide) (cE_X7 _) rfl hPC hS G.2.1 (lawEx G hS) hl.1 (Nat.le_of_ble_eq_true rfl) rfl dL_law_235 (fun H locs hPC hk hS => ?_)
    refine lv_istore (lv' := [(13, .int (cN r 6)), (12, .int (cN r 4)), (11, .int (LSd r)), (10, .int (CD r)), (9, .int (MD r)), (0, .ref b), (1, .ref (ad 0)), (2, .int (nI ee))]) C.1 C.2.1 dL_law_238 hl (by decide) rfl (fun ls hl => ?_)
    refine lv_aload_n C.1 C.2.1 dL_law_240 rfl (lv_at hl 6 rfl) ?_
    refine lv_iconst (v := (1 : Int32)) C.1 C.2.1 dL_law_241 (by decide) ?_
    obtain ⟨gs, kps, es, I⟩ := X_sail1 I (by omega)
    refine u_callVF (As := [.int (1 : Int32)]) (rv := some (.int (MD r))) C (exC_ok G.1) (c_X7_sail l D ids ad tt G.1 es) lq_309 lq_310 lq_311 lq_8 lq_312 ⟨rfl, rfl⟩ (by refine ⟨by decide +kernel, by decide +kernel, ?_⟩; show _ = some 1; decide +kernel) ⟨Nat.le_of_ble_eq_true rfl, Nat.le_of_ble_eq_true rfl⟩ (cs_k hcs) (by decide) (cE_X7 _) rfl hPC hS G.2.1 (lawEx G hS) hl.1 (Nat.le_of_ble_eq_true rfl) rfl dL_law_242 (fun H locs hPC hk hS => ?_)
    refine lv_iload C.1 C.2.1 dL_law_245 (lv_at hl 4 rfl) ?_
    refine lv_icmp_ne (tgt := 274) C.1 C.2.1 dL_law_247 (by decide) (fun hc => absurd (rfl) hc) (fun _ => ?_)
    refine lv_aload_n C.1 C.2.1 dL_law_250 rfl (lv_at hl 6 rfl) ?_
    refine lv_bipush (v := (6 : Int32)) C.1 C.2.1 dL_law_251 (by decide) ?_
    obtain ⟨gt, et, dt⟩ := X_count I.1 (k := 6) (by decide)
    have I := INV_rd I dt
    refine u_callVF (As := [.int (6 : Int32)]) (rv := some (.int (cN (DAY r) 6))) C (exC_ok G.1) (c_X7_count l D ids ad tt G.1 et) lq_441 lq_442 lq_443 lq_8 lq_444 ⟨rfl, rfl⟩ (by refine ⟨by decide +kernel, by decide +kernel, ?_⟩; show _ = some 1; decide +kernel) ⟨Nat.le_of_ble_eq_true rfl, Nat.le_of_ble_eq_true rfl⟩ (cs_k hcs) (by decide) (cE_X7 _) rfl hPC hS G.2.1 (lawEx G hS) hl.1 (Nat.le_of_ble_eq_true rfl) rfl dL_law_253 (fun H locs hPC hk hS => ?_)
    refine lv_iload C.1 C.2.1 dL_law_256 (lv_at hl 0 rfl) ?_
    refine lv_isub C.1 C.2.1 dL_law_258 ?_
    refine lv_iload C.1 C.2.1 dL_law_259 (lv_at hl 3 rfl) ?_
    refine lv_icmp_ne (tgt := 274) C.1 C.2.1 dL_law_261 (by decide) (fun hc => absurd (rfl) hc) (fun _ => ?_)
    refine lv_iload C.1 C.2.1 dL_law_264 (lv_at hl 4 rfl) ?_
    refine lv_iload C.1 C.2.1 dL_law_266 (lv_at hl 3 rfl) ?_
    refine lv_iadd C.1 C.2.1 dL_law_268 ?_
    refine lv_iload C.1 C.2.1 dL_law_269 (lv_at hl 1 rfl) ?_
    refine lv_icmp_eq (tgt := 276) C.1 C.2.1 dL_law_271 (by decide) (fun _ => ?_) (fun hc => absurd (show MD r + CD r = cN r 4 from MD_CD K0) hc)
    refine lv_iconst (v := (0 : Int32)) C.1 C.2.1 dL_law_276 (by decide) ?_
    refine lv_istore (lv' := [(14, .int (0 : Int32)), (13, .int (cN r 6)), (12, .int (cN r 4)), (11, .int (LSd r)), (10, .int (CD r)), (9, .int (MD r)), (0, .ref b), (1, .ref (ad 0)), (2, .int (nI ee))]) C.1 C.2.1 dL_law_277 hl (by decide) rfl (fun ls hl => ?_)
    exact law_learn C G hcs (r := DAY r) (dy := dy + 1) (ls11 := LSd r) (fun c hc hb => LSd_bit K0 hc hb) (fun h kp H locs ls I hPC hS hl => law_best C G he hcs hn h (DAY r) (dy + 1) kp H locs ls I (by omega) hPC hS hl) 3 0 (by decide) _ _ _ _ _ I hPC hS (lv_sub hl [6, 7, 8, 3, 0] rfl)
set_option maxRecDepth 100000 in
set_option maxHeartbeats 4000000 in
theorem law_checks {p : Program} {l : Launch} {e : Env} {s : State} {m : MethodId} {below : List Frame} {meth : Method} {c : Code} {D : va_G} {ids : Nat → ClassId} {ad tt : Nat → Nat} {b L : Nat} {xs : Nat → Int32} (C : CX p s m #[Value.ref b] meth c code 17 ret RL D ids) (G : lawG ad tt b L xs s) {ee cells slots dyB : Nat} (he : ee < 24) (hB : dyB < 9000) (hcs : cells + 4 ≤ 600000 ∧ slots + 192 ≤ 7302250) (hn : ∀ (h : Hp) (r : Nat → Int32) (dy kp : Nat) (H : Heap) (locs : List Loc) (ls : Array Slot), INV h r dy kp → dy ≤ dyB + 1 → wp D (cEC ids ad) ad 59 h H → va_S (fun q : Nat => s.heap.size ≤ q) s.heap H locs → lv_has ls 17 [(0, .ref b), (1, .ref (ad 0)), (2, .int (nI ee))] → W p l e room_1 s m #[Value.ref b] below meth c H locs (cells) (slots) (lw_Z below #[Value.ref b] s) (F0 m 397 ls [])) : ∀ (h : Hp) (r : Nat → Int32) (dy kp : Nat) (H : Heap) (locs : List Loc) (ls : Array Slot), INV h r dy kp → dy ≤ dyB → wp D (cEC ids ad) ad 59 h H → va_S (fun q : Nat => s.heap.size ≤ q) s.heap H locs → lv_has ls 17 [(0, .ref b), (1, .ref (ad 0)), (2, .int (nI ee))] → W p l e room_1 s m #[Value.ref b] below meth c H locs (cells) (slots) (lw_Z below #[Value.ref b] s) (F0 m 166 ls []) := by
  intro h r dy kp H locs ls I hdy hPC hS hl
  refine lv_aload_n C.1 C.2.1 dL_law_166 rfl (lv_at hl 1 rfl) ?_
  obtain ⟨h1, e1, d1⟩ := L_printed I.1
  have I := INV_rd I d1
  refine u_callSF (As := [.ref (ad 0)]) (rv := some (.int (1 : Int32))) C (exC_ok G.1) (c_L_printed l D ids ad tt G.1 e1) lq_511 lq_512 lq_7 lq_513 ⟨rfl, rfl⟩ (by refine ⟨by decide +kernel, by decide +kernel, ?_⟩; show _ = some 1; decide +kernel) ⟨Nat.le_of_ble_eq_true rfl, Nat.le_of_ble_eq_true rfl⟩ (cs_k hcs) hPC hS G.2.1 (lawEx G hS) hl.1 (Nat.le_of_ble_eq_true rfl) rfl dL_law_167 (fun H locs hPC hk hS => ?_)
  refine lv_if_eq (tgt := 194) C.1 C.2.1 dL_law_170 (by decide) (fun hc => absurd hc (show ¬ (1 : Int32) = 0 by decide)) (fun _ => ?_)
  refine lv_aload_n C.1 C.2.1 dL_law_173 rfl (lv_at hl 1 rfl) ?_
  obtain ⟨h2, e2, d2⟩ := L_accounts I.1 I.2.1
  have I := INV_rd I d2
  refine u_callSF (As := [.ref (ad 0)]) (rv := some (.int (1 : Int32))) C (exC_ok G.1) (c_L_accounts l D ids ad tt G.1 e2) lq_528 lq_529 lq_7 lq_530 ⟨rfl, rfl⟩ (by refine ⟨by decide +kernel, by decide +kernel, ?_⟩; show _ = some 1; decide +kernel) ⟨Nat.le_of_ble_eq_true rfl, Nat.le_of_ble_eq_true rfl⟩ (cs_k hcs) hPC hS G.2.1 (lawEx G hS) hl.1 (Nat.le_of_ble_eq_true rfl) rfl dL_law_174 (fun H locs hPC hk hS => ?_)
  refine lv_if_eq (tgt := 194) C.1 C.2.1 dL_law_177 (by decide) (fun hc => absurd hc (show ¬ (1 : Int32) = 0 by decide)) (fun _ => ?_)
  refine lv_iload_n C.1 C.2.1 dL_law_180 rfl (lv_at hl 2 rfl) ?_
  refine lv_bipush (v := (8 : Int32)) C.1 C.2.1 dL_law_181 (by decide) ?_
  refine lv_irem C.1 C.2.1 dL_law_183 (by decide) ?_
  refine lv_if_ne (tgt := 196) C.1 C.2.1 dL_law_184 (by decide) (fun hc => ?_) (fun hc => ?_)
  · exact law_day C G he hB hcs hn _ r dy kp _ _ ls I hdy hPC hS hl
  · skip
    refine lv_aload_n C.1 C.2.1 dL_law_187 rfl (lv_at hl 1 rfl) ?_
    have e3 := L_tides I.1
    refine u_callSF (As := [.ref (ad 0)]) (rv := some (.int (1 : Int32))) C (exC_ok G.1) (c_L_tides l D ids ad tt G.1 e3) lq_500 lq_501 lq_7 lq_502 ⟨rfl, rfl⟩ (by refine ⟨by decide +kernel, by decide +kernel, ?_⟩; show _ = some 1; decide +kernel) ⟨Nat.le_of_ble_eq_true rfl, Nat.le_of_ble_eq_true rfl⟩ (cs_k hcs) hPC hS G.2.1 (lawEx G hS) hl.1 (Nat.le_of_ble_eq_true rfl) rfl dL_law_188 (fun H locs hPC hk hS => ?_)
    refine lv_if_ne (tgt := 196) C.1 C.2.1 dL_law_191 (by decide) (fun _ => ?_) (fun hc => absurd hc (show ¬ (1 : Int32) = 0 by decide))
    exact law_day C G he hB hcs hn _ r dy kp _ _ ls I hdy hPC hS hl
set_option maxRecDepth 100000 in
set_option maxHeartbeats 4000000 in
theorem law_no {p : Program} {l : Launch} {e : Env} {s : State} {m : MethodId} {below : List Frame} {meth : Method} {c : Code} {D : va_G} {ids : Nat → ClassId} {ad tt : Nat → Nat} {b L : Nat} {xs : Nat → Int32} (C : CX p s m #[Value.ref b] meth c code 17 ret RL D ids) (G : lawG ad tt b L xs s) {ee cells slots dyB kp dy wa th : Nat} {r fw ft : Nat → Int32} {gg xx told : Int32} (hcs : cells + 4 ≤ 600000 ∧ slots + 192 ≤ 7302250) (ht : told < 0) (hdy : dy ≤ dyB) (hwa : s.heap.size ≤ wa) (hn_wa : ¬ inW ad 59 wa) (hf_wa : ∀ k, k < 45 → fw k = TL r k) (hth : s.heap.size ≤ th) (hn_th : ¬ inW ad 59 th) (hne_wa_th : wa ≠ th) (hf_th : ∀ k, k < 45 → ft k = TL r k) (hn : ∀ (h : Hp) (r : Nat → Int32) (dy kp : Nat) (H : Heap) (locs : List Loc) (ls : Array Slot), INV h r dy kp → dy ≤ dyB → wp D (cEC ids ad) ad 59 h H → va_S (fun q : Nat => s.heap.size ≤ q) s.heap H locs → lv_has ls 17 [(0, .ref b), (1, .ref (ad 0)), (2, .int (nI ee))] → W p l e room_1 s m #[Value.ref b] below meth c H locs (cells) (slots) (lw_Z below #[Value.ref b] s) (F0 m 166 ls [])) : ∀ (h : Hp) (H : Heap) (locs : List Loc) (ls : Array Slot), INV h r dy kp → wp D (cEC ids ad) ad 59 h H → AW D ids wa fw H → AW D ids th ft H → va_S (fun q : Nat => s.heap.size ≤ q) s.heap H locs → lv_has ls 17 [(0, .ref b), (1, .ref (ad 0)), (2, .int (nI ee)), (3, .int gg), (4, .int xx), (5, .ref wa), (6, .int (nI kp)), (7, .int told), (8, .ref th)] → W p l e room_1 s m #[Value.ref b] below meth c H locs (cells) (slots) (lw_Z below #[Value.ref b] s) (F0 m 64 ls []) := by
  intro h H locs ls I hPC hW_wa hW_th hS hl
  refine lv_iload C.1 C.2.1 dL_law_64 (lv_at hl 7 rfl) ?_
  refine lv_if_ge (tgt := 92) C.1 C.2.1 dL_law_66 (by decide) (fun hc => absurd hc (fun (z : (0 : Int32) ≤ told) => Int32.lt_irrefl (Int32.lt_of_lt_of_le ht z))) (fun _ => ?_)
  refine lv_aload C.1 C.2.1 dL_law_69 (lv_at hl 5 rfl) ?_
  refine lv_aload C.1 C.2.1 dL_law_71 (lv_at hl 8 rfl) ?_
  refine s_call C hne_wa_th (fun k hk => (hf_wa k hk).trans (hf_th k hk).symm) lq_497 lq_498 lq_7 lq_499 ⟨Nat.le_of_ble_eq_true rfl, Nat.le_of_ble_eq_true rfl⟩ (cs_k hcs) hW_wa hW_th hS hwa hth hl.1 (Nat.le_of_ble_eq_true rfl) dL_law_73 (fun H locs hW_wa hW_th hk hS => ?_)
  have hPC := wp_keep hPC (fun q h1 h2 => h2.elim (fun z => hn_wa (z ▸ h1)) (fun z => hn_th (z ▸ h1))) hk
  refine lv_if_eq (tgt := 90) C.1 C.2.1 dL_law_76 (by decide) (fun hc => absurd hc (show ¬ (1 : Int32) = 0 by decide)) (fun _ => ?_)
  refine lv_aload_n C.1 C.2.1 dL_law_79 rfl (lv_at hl 1 rfl) ?_
  refine lv_bipush (v := (10 : Int32)) C.1 C.2.1 dL_law_80 (by decide) ?_
  have e1 : f_X7_count h (10 : Int32) = some (nI kp, h) := by rw [X_count10, I.2.2.1]
  refine u_callVF (As := [.int (10 : Int32)]) (rv := some (.int (nI kp))) C (exC_ok G.1) (c_X7_count l D ids ad tt G.1 e1) lq_441 lq_442 lq_443 lq_8 lq_444 ⟨rfl, rfl⟩ (by refine ⟨by decide +kernel, by decide +kernel, ?_⟩; show _ = some 1; decide +kernel) ⟨Nat.le_of_ble_eq_true rfl, Nat.le_of_ble_eq_true rfl⟩ (cs_k hcs) (by decide) (cE_X7 _) rfl hPC hS G.2.1 (lawEx G hS) hl.1 (Nat.le_of_ble_eq_true rfl) rfl dL_law_82 (fun H locs hPC hk hS => ?_)
  refine lv_iload C.1 C.2.1 dL_law_85 (lv_at hl 6 rfl) ?_
  refine lv_icmp_eq (tgt := 92) C.1 C.2.1 dL_law_87 (by decide) (fun _ => ?_) (fun hc => absurd (show nI kp = nI kp from rfl) hc)
  refine lv_iload C.1 C.2.1 dL_law_92 (lv_at hl 7 rfl) ?_
  refine lv_if_lt (tgt := 166) C.1 C.2.1 dL_law_94 (by decide) (fun _ => ?_) (fun hc => absurd (ht) hc)
  exact hn h r dy kp _ _ ls I hdy hPC hS (lv_sub hl [0, 1, 2] rfl)
set_option maxRecDepth 100000 in
set_option maxHeartbeats 4000000 in
theorem law_yes {p : Program} {l : Launch} {e : Env} {s : State} {m : MethodId} {below : List Frame} {meth : Method} {c : Code} {D : va_G} {ids : Nat → ClassId} {ad tt : Nat → Nat} {b L : Nat} {xs : Nat → Int32} (C : CX p s m #[Value.ref b] meth c code 17 ret RL D ids) (G : lawG ad tt b L xs s) {ee cells slots dyB kp dy dy2 wa th : Nat} {r r2 fw ft : Nat → Int32} {gg xx told : Int32} (hcs : cells + 6 ≤ 600000 ∧ slots + 288 ≤ 7302250) (ht : ¬ told < 0) (hk : kp ≤ 4) (V : VR r) (A : AC r dy) (hdy2 : dy2 ≤ dyB) (HA : ∀ (h : Hp) (kp : Nat), INV h r dy kp → ∃ h', f_L_act h gg xx = some (told, h') ∧ ((told < 0 ∧ INV h' r dy kp) ∨ (¬ told < 0 ∧ INV h' r2 dy2 (kp1 kp) ∧ TOP h' (kp1 kp) r))) (hwa : s.heap.size ≤ wa) (hn_wa : ¬ inW ad 59 wa) (hf_wa : ∀ k, k < 45 → fw k = TL r k) (hth : s.heap.size ≤ th) (hn_th : ¬ inW ad 59 th) (hne_wa_th : wa ≠ th) (hf_th : ∀ k, k < 45 → ft k = TL r2 k) (hn : ∀ (h : Hp) (r : Nat → Int32) (dy kp : Nat) (H : Heap) (locs : List Loc) (ls : Array Slot), INV h r dy kp → dy ≤ dyB → wp D (cEC ids ad) ad 59 h H → va_S (fun q : Nat => s.heap.size ≤ q) s.heap H locs → lv_has ls 17 [(0, .ref b), (1, .ref (ad 0)), (2, .int (nI ee))] → W p l e room_1 s m #[Value.ref b] below meth c H locs (cells + 1 + 1) (slots + 48 + 48) (lw_Z below #[Value.ref b] s) (F0 m 166 ls [])) : ∀ (h : Hp) (H : Heap) (locs : List Loc) (ls : Array Slot), INV h r2 dy2 (kp1 kp) → TOP h (kp1 kp) r → wp D (cEC ids ad) ad 59 h H → AW D ids wa fw H → AW D ids th ft H → va_S (fun q : Nat => s.heap.size ≤ q) s.heap H locs → lv_has ls 17 [(0, .ref b), (1, .ref (ad 0)), (2, .int (nI ee)), (3, .int gg), (4, .int xx), (5, .ref wa), (6, .int (nI kp)), (7, .int told), (8, .ref th)] → W p l e room_1 s m #[Value.ref b] below meth c H locs (cells) (slots) (lw_Z below #[Value.ref b] s) (F0 m 64 ls []) := by
  intro h H locs ls I T hPC hW_wa hW_th hS hl
  have ht0 : (0 : Int32) ≤ told := Int32.not_lt.mp ht
  refine lv_iload C.1 C.2.1 dL_law_64 (lv_at hl 7 rfl) ?_
  refine lv_if_ge (tgt := 92) C.1 C.2.1 dL_law_66 (by decide) (fun _ => ?_) (fun hc => absurd (ht0) hc)
  refine lv_iload C.1 C.2.1 dL_law_92 (lv_at hl 7 rfl) ?_
  refine lv_if_lt (tgt := 166) C.1 C.2.1 dL_law_94 (by decide) (fun hc => absurd hc (ht)) (fun _ => ?_)
  refine lv_iload_n C.1 C.2.1 dL_law_97 rfl (lv_at hl 3 rfl) ?_
  refine lv_iconst (v := (4 : Int32)) C.1 C.2.1 dL_law_98 (by decide) ?_
  have e0 : f_L_low h gg (4 : Int32) = some (nI (lowN gg 4), h) := low_f h gg (n := 4) (by decide) (by decide)
  refine u_callSF (As := [.int gg, .int (4 : Int32)]) (rv := some (.int (nI (lowN gg 4)))) C (exC_ok G.1) (c_L_low l D ids ad tt G.1 e0) lq_490 lq_491 lq_7 lq_492 ⟨rfl, rfl⟩ (by refine ⟨by decide +kernel, by decide +kernel, ?_⟩; show _ = some 2; decide +kernel) ⟨Nat.le_of_ble_eq_true rfl, Nat.le_of_ble_eq_true rfl⟩ (cs_1 ⟨by omega, by omega⟩) hPC hS G.2.1 (lawEx G hS) hl.1 (Nat.le_of_ble_eq_true rfl) rfl dL_law_99 (fun H locs hPC hk hS => ?_)
  have hW_wa := AW_keep hW_wa hn_wa hk
  have hW_th := AW_keep hW_th hn_th hk
  refine lv_if_ne (tgt := 166) C.1 C.2.1 dL_law_102 (by decide) (fun hc => ?_) (fun hc => ?_)
  · refine W.widen (k := cells + 1 + 1) (n := slots + 48 + 48) (by omega) (by omega) ?_
    exact hn _ r2 dy2 _ _ _ ls I hdy2 hPC hS (lv_sub hl [0, 1, 2] rfl)
  · skip
    refine lv_aload_n C.1 C.2.1 dL_law_105 rfl (lv_at hl 1 rfl) ?_
    obtain ⟨h1, e1, I1⟩ := X_undo I T V A
    refine u_callVF (As := []) (rv := some (.int (nI (kp1 kp - 1)))) C (exC_ok G.1) (c_X7_undo l D ids ad tt G.1 e1) lq_399 lq_400 lq_401 lq_8 lq_402 ⟨rfl, rfl⟩ (by refine ⟨by decide +kernel, by decide +kernel, ?_⟩; show _ = some 0; decide +kernel) ⟨Nat.le_of_ble_eq_true rfl, Nat.le_of_ble_eq_true rfl⟩ (cs_1 ⟨by omega, by omega⟩) (by decide) (cE_X7 _) rfl hPC hS G.2.1 (lawEx G hS) hl.1 (Nat.le_of_ble_eq_true rfl) rfl dL_law_106 (fun H locs hPC hk hS => ?_)
    have hW_wa := AW_keep hW_wa hn_wa hk
    have hW_th := AW_keep hW_th hn_th hk
    refine lv_istore (lv' := [(9, .int (nI (kp1 kp - 1))), (0, .ref b), (1, .ref (ad 0)), (2, .int (nI ee)), (3, .int gg), (4, .int xx), (5, .ref wa), (6, .int (nI kp)), (7, .int told), (8, .ref th)]) C.1 C.2.1 dL_law_109 hl (by decide) rfl (fun ls hl => ?_)
    refine lv_aload_n C.1 C.2.1 dL_law_111 rfl (lv_at hl 2 rfl) ?_
    have hwl := AW_lt hW_wa
    refine t_call C (exC_ok G.1) (c_L_tell l D ids ad tt G.1 I1.1 H.size) lq_494 lq_495 lq_7 lq_496 ⟨rfl, rfl⟩ (by refine ⟨by decide +kernel, by decide +kernel, ?_⟩; show _ = some 1; decide +kernel) ⟨Nat.le_of_ble_eq_true rfl, Nat.le_of_ble_eq_true rfl⟩ (cs_1 ⟨by omega, by omega⟩) hPC hS G.2.1 (fun _ z => z) (lawEx G hS) hl.1 (Nat.le_of_ble_eq_true rfl) dL_law_112 (fun ta h2 fa H locs ha_ta hn_ta hd_ta hf_ta hPC hW_ta hk hS => ?_)
    have hne_wa_ta : wa ≠ ta := Nat.ne_of_lt (Nat.lt_of_lt_of_le (AW_lt hW_wa) ha_ta)
    have hW_wa := AW_keep hW_wa hn_wa hk
    have hne_th_ta : th ≠ ta := Nat.ne_of_lt (Nat.lt_of_lt_of_le (AW_lt hW_th) ha_ta)
    have hW_th := AW_keep hW_th hn_th hk
    have I2 := INV_rd I1 hd_ta
    have hta : s.heap.size ≤ ta := Nat.le_trans hwa (Nat.le_of_lt (Nat.lt_of_le_of_ne (Nat.le_of_lt (Nat.lt_of_lt_of_le hwl ha_ta)) hne_wa_ta))
    refine lv_aload C.1 C.2.1 dL_law_115 (lv_at hl 6 rfl) ?_
    refine s_call C hne_wa_ta.symm (fun k hk => (hf_ta k hk).trans (hf_wa k hk).symm) lq_497 lq_498 lq_7 lq_499 ⟨Nat.le_of_ble_eq_true rfl, Nat.le_of_ble_eq_true rfl⟩ (cs_1 ⟨by omega, by omega⟩) hW_ta hW_wa hS hta hwa hl.1 (Nat.le_of_ble_eq_true rfl) dL_law_117 (fun H locs hW_ta hW_wa hk hS => ?_)
    have hPC := wp_keep hPC (fun q h1 h2 => h2.elim (fun z => hn_ta (z ▸ h1)) (fun z => hn_wa (z ▸ h1))) hk
    have hW_th := AW_keep hW_th (fun z => z.elim hne_th_ta hne_wa_th.symm) hk
    refine lv_if_eq (tgt := 164) C.1 C.2.1 dL_law_120 (by decide) (fun hc => absurd hc (show ¬ (1 : Int32) = 0 by decide)) (fun _ => ?_)
    refine lv_iload C.1 C.2.1 dL_law_123 (lv_at hl 0 rfl) ?_
    refine lv_iload C.1 C.2.1 dL_law_125 (lv_at hl 7 rfl) ?_
    refine lv_iconst (v := (4 : Int32)) C.1 C.2.1 dL_law_127 (by decide) ?_
    have go : ∀ (ls : Array Slot), lv_has ls 17 [(9, .int (nI (kp1 kp - 1))), (0, .ref b), (1, .ref (ad 0)), (2, .int (nI ee)), (3, .int gg), (4, .int xx), (5, .ref wa), (6, .int (nI kp)), (7, .int told), (8, .ref th)] → W p l e room_1 s m #[Value.ref b] below meth c H locs (cells + 1) (slots + 48) (lw_Z below #[Value.ref b] s) (F0 m 140 ls []) := by
      intro ls hl
      refine lv_aload_n C.1 C.2.1 dL_law_140 rfl (lv_at hl 2 rfl) ?_
      refine lv_iload_n C.1 C.2.1 dL_law_141 rfl (lv_at hl 4 rfl) ?_
      refine lv_iload C.1 C.2.1 dL_law_142 (lv_at hl 5 rfl) ?_
      obtain ⟨h3, e3, hor⟩ := HA _ _ I2
      obtain ⟨-, I3, -⟩ := hor.resolve_left (fun z => ht z.1)
      refine u_callSF (As := [.ref (ad 0), .int gg, .int xx]) (rv := some (.int told)) C (exC_ok G.1) (c_L_act l D ids ad tt G.1 e3) lq_531 lq_532 lq_7 lq_533 ⟨rfl, rfl⟩ (by refine ⟨by decide +kernel, by decide +kernel, ?_⟩; show _ = some 3; decide +kernel) ⟨Nat.le_of_ble_eq_true rfl, Nat.le_of_ble_eq_true rfl⟩ (cs_1 ⟨by omega, by omega⟩) hPC hS G.2.1 (lawEx G hS) hl.1 (Nat.le_of_ble_eq_true rfl) rfl dL_law_144 (fun H locs hPC hk hS => ?_)
      have hW_th := AW_keep hW_th hn_th hk
      refine lv_iload C.1 C.2.1 dL_law_147 (lv_at hl 8 rfl) ?_
      refine lv_icmp_ne (tgt := 164) C.1 C.2.1 dL_law_149 (by decide) (fun hc => absurd (rfl) hc) (fun _ => ?_)
      refine lv_aload_n C.1 C.2.1 dL_law_152 rfl (lv_at hl 2 rfl) ?_
      have hW_th0 := hW_th
      refine t_call C (exC_ok G.1) (c_L_tell l D ids ad tt G.1 I3.1 H.size) lq_494 lq_495 lq_7 lq_496 ⟨rfl, rfl⟩ (by refine ⟨by decide +kernel, by decide +kernel, ?_⟩; show _ = some 1; decide +kernel) ⟨Nat.le_of_ble_eq_true rfl, Nat.le_of_ble_eq_true rfl⟩ (cs_1 ⟨by omega, by omega⟩) hPC hS G.2.1 (fun _ z => z) (lawEx G hS) hl.1 (Nat.le_of_ble_eq_true rfl) dL_law_153 (fun tb h4 fb H locs ha_tb hn_tb hd_tb hf_tb hPC hW_tb hk hS => ?_)
      have hne_th_tb : th ≠ tb := Nat.ne_of_lt (Nat.lt_of_lt_of_le (AW_lt hW_th) ha_tb)
      have hW_th := AW_keep hW_th hn_th hk
      have I4 := INV_rd I3 hd_tb
      have htb : s.heap.size ≤ tb := Nat.le_trans hth (Nat.le_of_lt (Nat.lt_of_lt_of_le (AW_lt hW_th0) ha_tb))
      refine lv_aload C.1 C.2.1 dL_law_156 (lv_at hl 9 rfl) ?_
      refine s_call C hne_th_tb.symm (fun k hk => (hf_tb k hk).trans (hf_th k hk).symm) lq_497 lq_498 lq_7 lq_499 ⟨Nat.le_of_ble_eq_true rfl, Nat.le_of_ble_eq_true rfl⟩ (cs_1 ⟨by omega, by omega⟩) hW_tb hW_th hS htb hth hl.1 (Nat.le_of_ble_eq_true rfl) dL_law_158 (fun H locs hW_tb hW_th hk hS => ?_)
      have hPC := wp_keep hPC (fun q h1 h2 => h2.elim (fun z => hn_tb (z ▸ h1)) (fun z => hn_th (z ▸ h1))) hk
      refine lv_if_ne (tgt := 166) C.1 C.2.1 dL_law_161 (by decide) (fun _ => ?_) (fun hc => absurd hc (show ¬ (1 : Int32) = 0 by decide))
      exact hn _ r2 dy2 _ _ _ ls I4 hdy2 hPC hS (lv_sub hl [1, 2, 3] rfl)
    by_cases hk4 : kp = 4
    · skip
      refine lv_icmp_ne (tgt := 135) C.1 C.2.1 dL_law_128 (by decide) (fun hc => absurd (show nI kp = (4 : Int32) by rw [hk4]; rfl) hc) (fun _ => ?_)
      refine lv_iconst (v := (3 : Int32)) C.1 C.2.1 dL_law_131 (by decide) ?_
      refine lv_goto (tgt := 137) C.1 C.2.1 dL_law_132 (by decide) ?_
      refine lv_icmp_ne (tgt := 164) C.1 C.2.1 dL_law_137 (by decide) (fun hc => absurd (show nI (kp1 kp - 1) = (3 : Int32) by rw [hk4]; rfl) hc) (fun _ => ?_)
      exact go ls hl
    · skip
      refine lv_icmp_ne (tgt := 135) C.1 C.2.1 dL_law_128 (by decide) (fun _ => ?_) (fun hc => absurd hc (fun z => hk4 ((eq_iff (b := 4) (by omega) (by decide)).mp z)))
      refine lv_iload C.1 C.2.1 dL_law_135 (lv_at hl 7 rfl) ?_
      refine lv_icmp_ne (tgt := 164) C.1 C.2.1 dL_law_137 (by decide) (fun hc => absurd (show nI (kp1 kp - 1) = nI kp by unfold kp1; rw [if_neg hk4]; rfl) hc) (fun _ => ?_)
      exact go ls hl
set_option maxRecDepth 100000 in
set_option maxHeartbeats 4000000 in
theorem law_act {p : Program} {l : Launch} {e : Env} {s : State} {m : MethodId} {below : List Frame} {meth : Method} {c : Code} {D : va_G} {ids : Nat → ClassId} {ad tt : Nat → Nat} {b L : Nat} {xs : Nat → Int32} (hL : L ≤ 260) (C : CX p s m #[Value.ref b] meth c code 17 ret RL D ids) (G : lawG ad tt b L xs s) {ee cells slots dyB : Nat} (he : ee < 24) (hcs : cells + 20 ≤ 600000 ∧ slots + 1000 ≤ 7302250) (hn : ∀ (h : Hp) (r : Nat → Int32) (dy kp : Nat) (H : Heap) (locs : List Loc) (ls : Array Slot), INV h r dy kp → dy ≤ dyB + 30 → wp D (cEC ids ad) ad 59 h H → va_S (fun q : Nat => s.heap.size ≤ q) s.heap H locs → lv_has ls 17 [(0, .ref b), (1, .ref (ad 0)), (2, .int (nI ee))] → W p l e room_1 s m #[Value.ref b] below meth c H locs (cells + 1 + 1 + 1 + 1) (slots + 48 + 48 + 48 + 48) (lw_Z below #[Value.ref b] s) (F0 m 166 ls [])) : ∀ (h : Hp) (r : Nat → Int32) (dy kp : Nat) (H : Heap) (locs : List Loc) (ls : Array Slot), INV h r dy kp → dy ≤ dyB → wp D (cEC ids ad) ad 59 h H → va_S (fun q : Nat => s.heap.size ≤ q) s.heap H locs → lv_has ls 17 [(0, .ref b), (1, .ref (ad 0)), (2, .int (nI ee))] → W p l e room_1 s m #[Value.ref b] below meth c H locs (cells) (slots) (lw_Z below #[Value.ref b] s) (F0 m 16 ls []) := by
  intro h r dy kp H locs ls I hdy hPC hS hl
  refine lv_aload_n C.1 C.2.1 dL_law_16 rfl (lv_at hl 0 rfl) ?_
  refine lv_iconst (v := (2 : Int32)) C.1 C.2.1 dL_law_17 (by decide) ?_
  refine lv_iload_n C.1 C.2.1 dL_law_18 rfl (lv_at hl 2 rfl) ?_
  refine lv_imul C.1 C.2.1 dL_law_19 ?_
  rw [show ((2 : Int32) * (nI ee)) = nI (2 * ee) from pk_mul 2 ee]
  refine u_callSF (As := [.ref b, .int (nI (2 * ee))]) (rv := some (.int (cellv L xs (2 * ee)))) (cE := cEA ids) (ad := ad) (n := 0) (h := h) (h1 := h) C exX_ok (c_L_cell l D ids ad hL (by omega)) lq_486 lq_487 lq_7 lq_488 ⟨rfl, rfl⟩ (by refine ⟨by decide +kernel, by decide +kernel, ?_⟩; show _ = some 2; decide +kernel) ⟨Nat.le_of_ble_eq_true rfl, Nat.le_of_ble_eq_true rfl⟩ (cs_1 ⟨by omega, by omega⟩) wp_0 hS (fun q z => absurd z inW_0) (fun U hU hW => (va_X.kept G.2.2.1 (by rw [hU]; exact hS.2.1 b G.2.2.2.1 (Nat.not_le.mpr G.2.2.2.1))).moved hW.alike) hl.1 (Nat.le_of_ble_eq_true rfl) rfl dL_law_20 (fun H locs _ hk hS => ?_)
  have hPC := wp_keep hPC (fun _ _ => inW_0) hk
  generalize cellv L xs (2 * ee) = gg
  refine lv_istore_n (lv' := [(3, .int gg), (0, .ref b), (1, .ref (ad 0)), (2, .int (nI ee))]) C.1 C.2.1 dL_law_23 rfl hl (by decide) rfl (fun ls hl => ?_)
  refine lv_aload_n C.1 C.2.1 dL_law_24 rfl (lv_at hl 1 rfl) ?_
  refine lv_iconst (v := (2 : Int32)) C.1 C.2.1 dL_law_25 (by decide) ?_
  refine lv_iload_n C.1 C.2.1 dL_law_26 rfl (lv_at hl 3 rfl) ?_
  refine lv_imul C.1 C.2.1 dL_law_27 ?_
  rw [show ((2 : Int32) * (nI ee)) = nI (2 * ee) from pk_mul 2 ee]
  refine lv_iconst (v := (1 : Int32)) C.1 C.2.1 dL_law_28 (by decide) ?_
  refine lv_iadd C.1 C.2.1 dL_law_29 ?_
  rw [show ((nI (2 * ee)) + (1 : Int32)) = nI (2 * ee + 1) from nI_1 (2 * ee)]
  refine u_callSF (As := [.ref b, .int (nI (2 * ee + 1))]) (rv := some (.int (cellv L xs (2 * ee + 1)))) (cE := cEA ids) (ad := ad) (n := 0) (h := h) (h1 := h) C exX_ok (c_L_cell l D ids ad hL (by omega)) lq_486 lq_487 lq_7 lq_488 ⟨rfl, rfl⟩ (by refine ⟨by decide +kernel, by decide +kernel, ?_⟩; show _ = some 2; decide +kernel) ⟨Nat.le_of_ble_eq_true rfl, Nat.le_of_ble_eq_true rfl⟩ (cs_1 ⟨by omega, by omega⟩) wp_0 hS (fun q z => absurd z inW_0) (fun U hU hW => (va_X.kept G.2.2.1 (by rw [hU]; exact hS.2.1 b G.2.2.2.1 (Nat.not_le.mpr G.2.2.2.1))).moved hW.alike) hl.1 (Nat.le_of_ble_eq_true rfl) rfl dL_law_30 (fun H locs _ hk hS => ?_)
  have hPC := wp_keep hPC (fun _ _ => inW_0) hk
  generalize cellv L xs (2 * ee + 1) = xx
  refine lv_istore (lv' := [(4, .int xx), (3, .int gg), (0, .ref b), (1, .ref (ad 0)), (2, .int (nI ee))]) C.1 C.2.1 dL_law_33 hl (by decide) rfl (fun ls hl => ?_)
  refine lv_aload_n C.1 C.2.1 dL_law_35 rfl (lv_at hl 3 rfl) ?_
  have hS0 := hS
  refine t_call C (exC_ok G.1) (c_L_tell l D ids ad tt G.1 I.1 H.size) lq_494 lq_495 lq_7 lq_496 ⟨rfl, rfl⟩ (by refine ⟨by decide +kernel, by decide +kernel, ?_⟩; show _ = some 1; decide +kernel) ⟨Nat.le_of_ble_eq_true rfl, Nat.le_of_ble_eq_true rfl⟩ (cs_1 ⟨by omega, by omega⟩) hPC hS G.2.1 (fun _ z => z) (lawEx G hS) hl.1 (Nat.le_of_ble_eq_true rfl) dL_law_36 (fun wa h1 fw H locs ha_wa hn_wa hd_wa hf_wa hPC hW_wa hk hS => ?_)
  have I := INV_rd I hd_wa
  have hwa : s.heap.size ≤ wa := Nat.le_trans hS0.1 ha_wa
  refine lv_astore (lv' := [(5, .ref wa), (4, .int xx), (3, .int gg), (0, .ref b), (1, .ref (ad 0)), (2, .int (nI ee))]) C.1 C.2.1 dL_law_39 hl (by decide) rfl (fun ls hl => ?_)
  refine lv_aload_n C.1 C.2.1 dL_law_41 rfl (lv_at hl 4 rfl) ?_
  refine lv_bipush (v := (10 : Int32)) C.1 C.2.1 dL_law_42 (by decide) ?_
  have e1 : f_X7_count h1 (10 : Int32) = some (nI kp, h1) := by rw [X_count10, I.2.2.1]
  refine u_callVF (As := [.int (10 : Int32)]) (rv := some (.int (nI kp))) C (exC_ok G.1) (c_X7_count l D ids ad tt G.1 e1) lq_441 lq_442 lq_443 lq_8 lq_444 ⟨rfl, rfl⟩ (by refine ⟨by decide +kernel, by decide +kernel, ?_⟩; show _ = some 1; decide +kernel) ⟨Nat.le_of_ble_eq_true rfl, Nat.le_of_ble_eq_true rfl⟩ (cs_1 ⟨by omega, by omega⟩) (by decide) (cE_X7 _) rfl hPC hS G.2.1 (lawEx G hS) hl.1 (Nat.le_of_ble_eq_true rfl) rfl dL_law_44 (fun H locs hPC hk hS => ?_)
  have hW_wa := AW_keep hW_wa hn_wa hk
  refine lv_istore (lv' := [(6, .int (nI kp)), (5, .ref wa), (4, .int xx), (3, .int gg), (0, .ref b), (1, .ref (ad 0)), (2, .int (nI ee))]) C.1 C.2.1 dL_law_47 hl (by decide) rfl (fun ls hl => ?_)
  refine lv_aload_n C.1 C.2.1 dL_law_49 rfl (lv_at hl 5 rfl) ?_
  refine lv_iload_n C.1 C.2.1 dL_law_50 rfl (lv_at hl 3 rfl) ?_
  refine lv_iload C.1 C.2.1 dL_law_51 (lv_at hl 2 rfl) ?_
  obtain ⟨told, r2, dy2, hd2, HA⟩ := A_act r dy gg xx
  obtain ⟨h2, e2, hor⟩ := HA h1 kp I
  refine u_callSF (As := [.ref (ad 0), .int gg, .int xx]) (rv := some (.int told)) C (exC_ok G.1) (c_L_act l D ids ad tt G.1 e2) lq_531 lq_532 lq_7 lq_533 ⟨rfl, rfl⟩ (by refine ⟨by decide +kernel, by decide +kernel, ?_⟩; show _ = some 3; decide +kernel) ⟨Nat.le_of_ble_eq_true rfl, Nat.le_of_ble_eq_true rfl⟩ (cs_1 ⟨by omega, by omega⟩) hPC hS G.2.1 (lawEx G hS) hl.1 (Nat.le_of_ble_eq_true rfl) rfl dL_law_53 (fun H locs hPC hk hS => ?_)
  have hW_wa := AW_keep hW_wa hn_wa hk
  refine lv_istore (lv' := [(7, .int told), (6, .int (nI kp)), (5, .ref wa), (4, .int xx), (3, .int gg), (0, .ref b), (1, .ref (ad 0)), (2, .int (nI ee))]) C.1 C.2.1 dL_law_56 hl (by decide) rfl (fun ls hl => ?_)
  refine lv_aload_n C.1 C.2.1 dL_law_58 rfl (lv_at hl 6 rfl) ?_
  rcases hor with ⟨ht, I2⟩ | ⟨ht, I2, T2⟩
  · skip
    have hwl := AW_lt hW_wa
    refine t_call C (exC_ok G.1) (c_L_tell l D ids ad tt G.1 I2.1 H.size) lq_494 lq_495 lq_7 lq_496 ⟨rfl, rfl⟩ (by refine ⟨by decide +kernel, by decide +kernel, ?_⟩; show _ = some 1; decide +kernel) ⟨Nat.le_of_ble_eq_true rfl, Nat.le_of_ble_eq_true rfl⟩ (cs_1 ⟨by omega, by omega⟩) hPC hS G.2.1 (fun _ z => z) (lawEx G hS) hl.1 (Nat.le_of_ble_eq_true rfl) dL_law_59 (fun th h3 ft H locs ha_th hn_th hd_th hf_th hPC hW_th hk hS => ?_)
    have hne_wa_th : wa ≠ th := Nat.ne_of_lt (Nat.lt_of_lt_of_le (AW_lt hW_wa) ha_th)
    have hW_wa := AW_keep hW_wa hn_wa hk
    have I3 := INV_rd I2 hd_th
    have hth : s.heap.size ≤ th := Nat.le_trans hwa (Nat.le_of_lt (Nat.lt_of_lt_of_le hwl ha_th))
    refine lv_astore (lv' := [(8, .ref th), (7, .int told), (6, .int (nI kp)), (5, .ref wa), (4, .int xx), (3, .int gg), (0, .ref b), (1, .ref (ad 0)), (2, .int (nI ee))]) C.1 C.2.1 dL_law_62 hl (by decide) rfl (fun ls hl => ?_)
    refine law_no C G (dyB := dyB + 30) ⟨by omega, by omega⟩ ht (by omega) hwa hn_wa hf_wa hth hn_th hne_wa_th hf_th ?_ h3 _ _ _ I3 hPC hW_wa hW_th hS (lv_sub hl [6, 7, 8, 5, 4, 3, 2, 1, 0] rfl)
    intro h r dy kp H locs ls I hdy hPC hS hl
    refine W.widen (k := cells + 1 + 1 + 1 + 1) (n := slots + 48 + 48 + 48 + 48) (by omega) (by omega) ?_
    exact hn h r dy kp H locs ls I hdy hPC hS hl
  · skip
    have hwl := AW_lt hW_wa
    refine t_call C (exC_ok G.1) (c_L_tell l D ids ad tt G.1 I2.1 H.size) lq_494 lq_495 lq_7 lq_496 ⟨rfl, rfl⟩ (by refine ⟨by decide +kernel, by decide +kernel, ?_⟩; show _ = some 1; decide +kernel) ⟨Nat.le_of_ble_eq_true rfl, Nat.le_of_ble_eq_true rfl⟩ (cs_1 ⟨by omega, by omega⟩) hPC hS G.2.1 (fun _ z => z) (lawEx G hS) hl.1 (Nat.le_of_ble_eq_true rfl) dL_law_59 (fun th h3 ft H locs ha_th hn_th hd_th hf_th hPC hW_th hk hS => ?_)
    have hne_wa_th : wa ≠ th := Nat.ne_of_lt (Nat.lt_of_lt_of_le (AW_lt hW_wa) ha_th)
    have hW_wa := AW_keep hW_wa hn_wa hk
    have I3 := INV_rd I2 hd_th
    have hth : s.heap.size ≤ th := Nat.le_trans hwa (Nat.le_of_lt (Nat.lt_of_lt_of_le hwl ha_th))
    refine lv_astore (lv' := [(8, .ref th), (7, .int told), (6, .int (nI kp)), (5, .ref wa), (4, .int xx), (3, .int gg), (0, .ref b), (1, .ref (ad 0)), (2, .int (nI ee))]) C.1 C.2.1 dL_law_62 hl (by decide) rfl (fun ls hl => ?_)
    exact law_yes C G (dyB := dyB + 30) ⟨by omega, by omega⟩ ht I.2.2.2.1 I.1.2 I.2.1 (by omega) HA hwa hn_wa hf_wa hth hn_th hne_wa_th hf_th hn h3 _ _ _ I3 (TOP_rd T2 hd_th) hPC hW_wa hW_th hS (lv_sub hl [6, 7, 8, 5, 4, 3, 2, 1, 0] rfl)
set_option maxRecDepth 100000 in
set_option maxHeartbeats 4000000 in
theorem law_loop {p : Program} {l : Launch} {e : Env} {s : State} {m : MethodId} {below : List Frame} {meth : Method} {c : Code} {D : va_G} {ids : Nat → ClassId} {ad tt : Nat → Nat} {b L : Nat} {xs : Nat → Int32} (hL : L ≤ 260) (C : CX p s m #[Value.ref b] meth c code 17 ret RL D ids) (G : lawG ad tt b L xs s) (hlk : meth.locks = false) : ∀ (n ee : Nat), ee + n = 24 → ∀ (h : Hp) (r : Nat → Int32) (dy kp cells slots : Nat) (H : Heap) (locs : List Loc) (ls : Array Slot), INV h r dy kp → dy ≤ 31 * ee → cells ≤ 59 + 4 * ee → slots ≤ 518 + 192 * ee → wp D (cEC ids ad) ad 59 h H → va_S (fun q : Nat => s.heap.size ≤ q) s.heap H locs → lv_has ls 17 [(0, .ref b), (1, .ref (ad 0)), (2, .int (nI ee))] → W p l e room_1 s m #[Value.ref b] below meth c H locs (cells) (slots) (lw_Z below #[Value.ref b] s) (F0 m 10 ls []) := by
  intro n
  induction n with
  | zero =>
    intro ee hen
    intro h r dy kp cells slots H locs ls I hdy hce hsl hPC hS hl
    have hcs : cells + 4 ≤ 600000 ∧ slots + 192 ≤ 7302250 := ⟨by omega, by omega⟩
    refine lv_iload_n C.1 C.2.1 dL_law_10 rfl (lv_at hl 2 rfl) ?_
    refine lv_bipush (v := (24 : Int32)) C.1 C.2.1 dL_law_11 (by decide) ?_
    refine lv_icmp_ge (tgt := 403) C.1 C.2.1 dL_law_13 (by decide) (fun _ => ?_) (fun hc => absurd (show (24 : Int32) ≤ nI ee from (le_iff (a := 24) (by decide) (by omega)).mpr (by omega)) hc)
    refine lv_aload_n C.1 C.2.1 dL_law_403 rfl (lv_at hl 1 rfl) ?_
    refine lv_iconst (v := (3 : Int32)) C.1 C.2.1 dL_law_404 (by decide) ?_
    refine lv_iconst (v := (0 : Int32)) C.1 C.2.1 dL_law_405 (by decide) ?_
    have e1 := X_captainOf_no h
    refine u_callVF (As := [.int (3 : Int32), .int (0 : Int32)]) (rv := some (.int (-1 : Int32))) C (exC_ok G.1) (c_X7_captainOf l D ids ad tt G.1 e1) lq_403 lq_404 lq_405 lq_8 lq_406 ⟨rfl, rfl⟩ (by refine ⟨by decide +kernel, by decide +kernel, ?_⟩; show _ = some 2; decide +kernel) ⟨Nat.le_of_ble_eq_true rfl, Nat.le_of_ble_eq_true rfl⟩ (cs_k hcs) (by decide) (cE_X7 _) rfl hPC hS G.2.1 (lawEx G hS) hl.1 (Nat.le_of_ble_eq_true rfl) rfl dL_law_406 (fun H locs hPC hk hS => ?_)
    refine lv_iconst (v := (-1 : Int32)) C.1 C.2.1 dL_law_409 (by decide) ?_
    refine lv_icmp_ne (tgt := 438) C.1 C.2.1 dL_law_410 (by decide) (fun hc => absurd (rfl) hc) (fun _ => ?_)
    refine lv_aload_n C.1 C.2.1 dL_law_413 rfl (lv_at hl 1 rfl) ?_
    refine lv_iconst (v := (2 : Int32)) C.1 C.2.1 dL_law_414 (by decide) ?_
    refine lv_iconst (v := (0 : Int32)) C.1 C.2.1 dL_law_415 (by decide) ?_
    have e2 := (X_uses_no h).1
    refine u_callVF (As := [.int (2 : Int32), .int (0 : Int32)]) (rv := some (.int (-1 : Int32))) C (exC_ok G.1) (c_X7_uses l D ids ad tt G.1 e2) lq_432 lq_433 lq_434 lq_8 lq_435 ⟨rfl, rfl⟩ (by refine ⟨by decide +kernel, by decide +kernel, ?_⟩; show _ = some 2; decide +kernel) ⟨Nat.le_of_ble_eq_true rfl, Nat.le_of_ble_eq_true rfl⟩ (cs_k hcs) (by decide) (cE_X7 _) rfl hPC hS G.2.1 (lawEx G hS) hl.1 (Nat.le_of_ble_eq_true rfl) rfl dL_law_416 (fun H locs hPC hk hS => ?_)
    refine lv_iconst (v := (-1 : Int32)) C.1 C.2.1 dL_law_419 (by decide) ?_
    refine lv_icmp_ne (tgt := 438) C.1 C.2.1 dL_law_420 (by decide) (fun hc => absurd (rfl) hc) (fun _ => ?_)
    refine lv_aload_n C.1 C.2.1 dL_law_423 rfl (lv_at hl 1 rfl) ?_
    refine lv_iconst (v := (0 : Int32)) C.1 C.2.1 dL_law_424 (by decide) ?_
    refine lv_bipush (v := (24 : Int32)) C.1 C.2.1 dL_law_425 (by decide) ?_
    have e3 := (X_uses_no h).2
    refine u_callVF (As := [.int (0 : Int32), .int (24 : Int32)]) (rv := some (.int (-1 : Int32))) C (exC_ok G.1) (c_X7_uses l D ids ad tt G.1 e3) lq_432 lq_433 lq_434 lq_8 lq_435 ⟨rfl, rfl⟩ (by refine ⟨by decide +kernel, by decide +kernel, ?_⟩; show _ = some 2; decide +kernel) ⟨Nat.le_of_ble_eq_true rfl, Nat.le_of_ble_eq_true rfl⟩ (cs_k hcs) (by decide) (cE_X7 _) rfl hPC hS G.2.1 (lawEx G hS) hl.1 (Nat.le_of_ble_eq_true rfl) rfl dL_law_427 (fun H locs hPC hk hS => ?_)
    refine lv_iconst (v := (-1 : Int32)) C.1 C.2.1 dL_law_430 (by decide) ?_
    refine lv_icmp_ne (tgt := 438) C.1 C.2.1 dL_law_431 (by decide) (fun hc => absurd (rfl) hc) (fun _ => ?_)
    refine lv_iconst (v := (1 : Int32)) C.1 C.2.1 dL_law_434 (by decide) ?_
    refine lv_goto (tgt := 439) C.1 C.2.1 dL_law_435 (by decide) ?_
    refine va_forget (fun q hq => hS.2.2 q hq) ?_
    refine W.widen (k := 600000) (n := 7302250) (by omega) (by omega) ?_
    exact lw_ret C.1 C.2.1 C.2.2.2.1 hlk dL_law_439
  | succ n ih =>
    intro ee hen
    intro h r dy kp cells slots H locs ls I hdy hce hsl hPC hS hl
    refine lv_iload_n C.1 C.2.1 dL_law_10 rfl (lv_at hl 2 rfl) ?_
    refine lv_bipush (v := (24 : Int32)) C.1 C.2.1 dL_law_11 (by decide) ?_
    refine lv_icmp_ge (tgt := 403) C.1 C.2.1 dL_law_13 (by decide) (fun hc => absurd hc (fun (z : (24 : Int32) ≤ nI ee) => by have := (le_iff (a := 24) (by decide) (by omega)).mp z; omega)) (fun _ => ?_)
    refine law_act hL C G (ee := ee) (dyB := 31 * ee) (by omega) ⟨by omega, by omega⟩ (law_checks C G (by omega) (by omega) ⟨by omega, by omega⟩ ?_) h r dy kp H locs ls I hdy hPC hS hl
    intro h r dy kp H locs ls I hdy hPC hS hl
    refine lv_iinc (v := nI (ee + 1)) (lv' := [(2, .int (nI (ee + 1))), (0, .ref b), (1, .ref (ad 0))]) C.1 C.2.1 dL_law_397 hl (k := 2) rfl (nI_1 ee) (by decide) rfl (fun ls hl => ?_)
    refine lv_goto (tgt := 10) C.1 C.2.1 dL_law_400 (by decide) ?_
    exact ih (ee + 1) (by omega) h r dy kp _ _ H locs ls I (by omega) (by omega) (by omega) hPC hS (lv_sub hl [1, 2, 0] rfl)
