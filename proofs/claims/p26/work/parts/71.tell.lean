abbrev rm_L_cell : Room := { frames := 0, cells := 0, slots := 0, locals := 0 }
/-- the script's int at the place j, or what stands for it behind its end -/
def cellv (L : Nat) (xs : Nat → Int32) (j : Nat) : Int32 := if j < L then xs j else (2751653 : Int32) * nI j + (2083 : Int32)
set_option maxRecDepth 100000 in
set_option maxHeartbeats 4000000 in
theorem c_L_cell (l : Launch) (D : va_G) (ids : Nat → ClassId) (ad : Nat → Nat) {b L j : Nat} {xs : Nat → Int32} (hL : L ≤ 260) (hj : j < 1000) {h : Hp} : Met l yL_cell (ws_ yL_cell cL_cell 2 (some .int)) rm_L_cell (va_Pc [.ref b, .int (nI j)] (WB D ids (cEA ids) ad 0 (ExX b L xs) h)) (QW D (cEA ids) ad 0 (some (.int (cellv L xs j))) h) 0 0 (inW ad 0) := by
  refine u_met (own := RL) (by decide) rfl (Nat.le_of_ble_eq_true rfl) rfl (fun p e s m args below meth c H ls C hX hP hS hl => ?_)
  refine lv_iload_n C.1 C.2.1 dL_cell_0 rfl (lv_at hl 1 rfl) ?_
  refine lv_aload_n C.1 C.2.1 dL_cell_1 rfl (lv_at hl 0 rfl) ?_
  refine va_slen C.1 C.2.1 hX (va_X_lt hX) inW_0 hS dL_cell_2 ?_
  refine lv_icmp_ge (tgt := 12) C.1 C.2.1 dL_cell_3 (by decide) (fun hc => ?_) (fun hc => ?_)
  · have hLj : ¬ j < L := fun z => by
      have := (le_iff (a := L) (by omega) (by omega)).mp (show nI L ≤ nI j from hc)
      omega
    refine lv_ldc (v := (2751653 : Int32)) C.1 C.2.1 C.2.2.2.2.2.1 (C.2.2.2.2.2.2.1 _ lq_489) dL_cell_12 ?_
    refine lv_iload_n C.1 C.2.1 dL_cell_14 rfl (lv_at hl 1 rfl) ?_
    refine lv_imul C.1 C.2.1 dL_cell_15 ?_
    refine lv_sipush (v := (2083 : Int32)) C.1 C.2.1 dL_cell_16 (by decide) ?_
    refine lv_iadd C.1 C.2.1 dL_cell_19 ?_
    rw [show (2751653 : Int32) * nI j + (2083 : Int32) = cellv L xs j from (by unfold cellv; rw [if_neg hLj])]
    exact u_iret C hP hS dL_cell_20
  · have hLj : j < L := by
      rcases Nat.lt_or_ge j L with z | z
      · exact z
      · exact absurd (show Int32.ofNat L ≤ nI j from (le_iff (a := L) (by omega) (by omega)).mpr z) hc
    refine lv_aload_n C.1 C.2.1 dL_cell_6 rfl (lv_at hl 0 rfl) ?_
    refine lv_iload_n C.1 C.2.1 dL_cell_7 rfl (lv_at hl 1 rfl) ?_
    refine va_sld C.1 C.2.1 hX (va_X_lt hX) inW_0 hS (vp_in_nI hLj (by omega)) dL_cell_8 ?_
    refine lv_goto (tgt := 20) C.1 C.2.1 dL_cell_9 (by decide) ?_
    rw [show xs (nI j).toNatClampNeg = cellv L xs j from (by unfold cellv; rw [if_pos hLj, nc (by omega)])]
    exact u_iret C hP hS dL_cell_20
abbrev rm_L_tell : Room := { frames := 6, cells := 1, slots := 48, locals := 131 }
theorem exC_w {tt ad : Nat → Nat} {s U : State} {H : Heap} (hW : s.WarmedH U.vm) (h : ExC tt ad s H) : ExC tt ad U H := by
  obtain ⟨hn, h1, h2, h3, h4⟩ := h
  exact ⟨nest_w hW hn, tab_w hW h1, tab_w hW h2, tab_w hW h3, tab_w hW h4⟩
theorem tlEx {tt ad : Nat → Nat} {s : State} {H : Heap} {locs : List Loc} (hX0 : ExC tt ad s s.heap) (hS : va_S (TA ad s.heap.size) s.heap H locs) : ∀ U : State, U.heap = H → s.WarmedH U.vm → ExC tt ad U U.heap := fun U hU hW => by
  rw [hU]
  exact exC_w hW (exC_k (fun q h1 h2 => hS.2.1 q h1 (fun z => z.elim h2 (fun y => absurd h1 (Nat.not_lt.mpr y)))) hX0)
set_option maxRecDepth 100000 in
set_option maxHeartbeats 4000000 in
theorem tl_1 {p : Program} {l : Launch} {e : Env} {s : State} {m : MethodId} {args : Array Value} {below : List Frame} {meth : Method} {c : Code} {D : va_G} {ids : Nat → ClassId} {ad tt : Nat → Nat} {r : Nat → Int32} {h0 : Hp} {a : Nat} (hA : adOk ad 59) (C : CX p s m args meth c cL_tell 4 (some (.array .int)) RL D ids) (hX0 : ExC tt ad s s.heap) (ha : s.heap.size ≤ a) (hna : ¬ inW ad 59 a) (hn : ∀ (h : Hp) (f : Nat → Int32) (H : Heap) (locs : List Loc) (ls : Array Slot), KX h r → RD h0 h → (∀ j, j < 10 → f j = TL r j) → wp D (cEC ids ad) ad 59 h H → AW D ids a f H → va_S (TA ad s.heap.size) s.heap H locs → lv_has ls 4 [(0, .ref (ad 0)), (1, .ref a)] → W p l e rm_L_tell s m args below meth c H locs 1 48 (MQ below (TQ D ids ad r h0 s.heap.size) args s 1 48 (TA ad s.heap.size)) (F0 m 27 ls [])) : ∀ (n k : Nat), k + n = 10 → ∀ (h : Hp) (f : Nat → Int32) (H : Heap) (locs : List Loc) (ls : Array Slot), KX h r → RD h0 h → (∀ j, j < k → f j = TL r j) → wp D (cEC ids ad) ad 59 h H → AW D ids a f H → va_S (TA ad s.heap.size) s.heap H locs → lv_has ls 4 [(0, .ref (ad 0)), (1, .ref a), (2, .int (nI k))] → W p l e rm_L_tell s m args below meth c H locs 1 48 (MQ below (TQ D ids ad r h0 s.heap.size) args s 1 48 (TA ad s.heap.size)) (F0 m 7 ls []) := by
  intro n
  induction n with
  | zero =>
    intro k hkn
    intro h f H locs ls K hd hf hPC hW hS hl
    refine lv_iload_n C.1 C.2.1 dL_tell_7 rfl (lv_at hl 2 rfl) ?_
    refine lv_bipush (v := (10 : Int32)) C.1 C.2.1 dL_tell_8 (by decide) ?_
    refine lv_icmp_ge (tgt := 27) C.1 C.2.1 dL_tell_10 (by decide) (fun _ => ?_) (fun hc => absurd (show (10 : Int32) ≤ nI k from (le_iff (a := 10) (by decide) (by omega)).mpr (by omega)) hc)
    exact hn h f H locs ls K hd (fun j hj => hf j (by omega)) hPC hW hS (lv_sub hl [0, 1] rfl)
  | succ n ih =>
    intro k hkn
    intro h f H locs ls K hd hf hPC hW hS hl
    have hAw : ∀ q, inW ad 59 q → TA ad s.heap.size q := fun q z => Or.inl z
    have haA : TA ad s.heap.size a := Or.inr ha
    refine lv_iload_n C.1 C.2.1 dL_tell_7 rfl (lv_at hl 2 rfl) ?_
    refine lv_bipush (v := (10 : Int32)) C.1 C.2.1 dL_tell_8 (by decide) ?_
    refine lv_icmp_ge (tgt := 27) C.1 C.2.1 dL_tell_10 (by decide) (fun hc => absurd hc (fun (z : (10 : Int32) ≤ nI k) => by have := (le_iff (a := 10) (by decide) (by omega)).mp z; omega)) (fun _ => ?_)
    refine lv_aload_n C.1 C.2.1 dL_tell_13 rfl (lv_at hl 1 rfl) ?_
    refine lv_iload_n C.1 C.2.1 dL_tell_14 rfl (lv_at hl 2 rfl) ?_
    refine lv_aload_n C.1 C.2.1 dL_tell_15 rfl (lv_at hl 0 rfl) ?_
    refine lv_iload_n C.1 C.2.1 dL_tell_16 rfl (lv_at hl 2 rfl) ?_
    obtain ⟨h1, e1, d1⟩ := X_count K (k := k) (by omega)
    have K := KX_rd K d1
    have hd := RD_tr hd d1
    refine u_callVF (As := [.int (nI k)]) (rv := some (.int (cN r k))) C (exC_ok hA) (c_X7_count l D ids ad tt hA e1) lq_441 lq_442 lq_443 lq_8 lq_444 ⟨rfl, rfl⟩ (by refine ⟨by decide +kernel, by decide +kernel, ?_⟩; show _ = some 1; decide +kernel) ⟨Nat.le_of_ble_eq_true rfl, Nat.le_of_ble_eq_true rfl⟩ ⟨Nat.le_of_ble_eq_true rfl, Nat.le_of_ble_eq_true rfl⟩ (by decide) (cE_X7 _) rfl hPC hS hAw (tlEx hX0 hS) hl.1 (Nat.le_of_ble_eq_true rfl) rfl dL_tell_17 (fun H locs hPC hk hS => ?_)
    have hW := AW_keep hW hna hk
    refine tl_iast hA C hna haA hAw hPC hW hS (vp_in_nI (by omega) (by decide)) dL_tell_20 (fun H locs hPC hW hS => ?_)
    rw [nc (show k < 2 ^ 31 by omega)] at hW
    have hf : ∀ j, j < k + 1 → upd f (k) (cN r k) j = TL r j := fun j hj => by
      by_cases z : j = k
      · rw [z, upd_same]
        exact (TL_lo (by omega)).symm
      · rw [upd_ne z]
        exact hf j (by omega)
    refine lv_iinc (v := nI (k + 1)) (lv' := [(2, .int (nI (k + 1))), (0, .ref (ad 0)), (1, .ref a)]) C.1 C.2.1 dL_tell_21 hl (k := 2) rfl (nI_1 k) (by decide) rfl (fun ls hl => ?_)
    refine lv_goto (tgt := 7) C.1 C.2.1 dL_tell_24 (by decide) ?_
    exact ih (k + 1) (by omega) _ _ _ _ _ K hd hf hPC hW hS (lv_sub hl [1, 2, 0] rfl)
set_option maxRecDepth 100000 in
set_option maxHeartbeats 4000000 in
theorem tl_3 {p : Program} {l : Launch} {e : Env} {s : State} {m : MethodId} {args : Array Value} {below : List Frame} {meth : Method} {c : Code} {D : va_G} {ids : Nat → ClassId} {ad tt : Nat → Nat} {r : Nat → Int32} {h0 : Hp} {a : Nat} (hA : adOk ad 59) (C : CX p s m args meth c cL_tell 4 (some (.array .int)) RL D ids) (hX0 : ExC tt ad s s.heap) (ha : s.heap.size ≤ a) (hna : ¬ inW ad 59 a) {cc : Nat} (hcc : cc < 3) (hn : ∀ (h : Hp) (f : Nat → Int32) (H : Heap) (locs : List Loc) (ls : Array Slot), KX h r → RD h0 h → (∀ j, j < 12 + 11 * cc + 11 → f j = TL r j) → wp D (cEC ids ad) ad 59 h H → AW D ids a f H → va_S (TA ad s.heap.size) s.heap H locs → lv_has ls 4 [(0, .ref (ad 0)), (1, .ref a), (2, .int (nI cc))] → W p l e rm_L_tell s m args below meth c H locs 1 48 (MQ below (TQ D ids ad r h0 s.heap.size) args s 1 48 (TA ad s.heap.size)) (F0 m 85 ls [])) : ∀ (n k : Nat), k + n = 11 → ∀ (h : Hp) (f : Nat → Int32) (H : Heap) (locs : List Loc) (ls : Array Slot), KX h r → RD h0 h → (∀ j, j < 12 + 11 * cc + k → f j = TL r j) → wp D (cEC ids ad) ad 59 h H → AW D ids a f H → va_S (TA ad s.heap.size) s.heap H locs → lv_has ls 4 [(0, .ref (ad 0)), (1, .ref a), (2, .int (nI cc)), (3, .int (nI k))] → W p l e rm_L_tell s m args below meth c H locs 1 48 (MQ below (TQ D ids ad r h0 s.heap.size) args s 1 48 (TA ad s.heap.size)) (F0 m 56 ls []) := by
  intro n
  induction n with
  | zero =>
    intro k hkn
    intro h f H locs ls K hd hf hPC hW hS hl
    refine lv_iload_n C.1 C.2.1 dL_tell_56 rfl (lv_at hl 3 rfl) ?_
    refine lv_bipush (v := (11 : Int32)) C.1 C.2.1 dL_tell_57 (by decide) ?_
    refine lv_icmp_ge (tgt := 85) C.1 C.2.1 dL_tell_59 (by decide) (fun _ => ?_) (fun hc => absurd (show (11 : Int32) ≤ nI k from (le_iff (a := 11) (by decide) (by omega)).mpr (by omega)) hc)
    exact hn h f H locs ls K hd (fun j hj => hf j (by omega)) hPC hW hS (lv_sub hl [0, 1, 2] rfl)
  | succ n ih =>
    intro k hkn
    intro h f H locs ls K hd hf hPC hW hS hl
    have hAw : ∀ q, inW ad 59 q → TA ad s.heap.size q := fun q z => Or.inl z
    have haA : TA ad s.heap.size a := Or.inr ha
    refine lv_iload_n C.1 C.2.1 dL_tell_56 rfl (lv_at hl 3 rfl) ?_
    refine lv_bipush (v := (11 : Int32)) C.1 C.2.1 dL_tell_57 (by decide) ?_
    refine lv_icmp_ge (tgt := 85) C.1 C.2.1 dL_tell_59 (by decide) (fun hc => absurd hc (fun (z : (11 : Int32) ≤ nI k) => by have := (le_iff (a := 11) (by decide) (by omega)).mp z; omega)) (fun _ => ?_)
    refine lv_aload_n C.1 C.2.1 dL_tell_62 rfl (lv_at hl 1 rfl) ?_
    refine lv_bipush (v := (12 : Int32)) C.1 C.2.1 dL_tell_63 (by decide) ?_
    refine lv_bipush (v := (11 : Int32)) C.1 C.2.1 dL_tell_65 (by decide) ?_
    refine lv_iload_n C.1 C.2.1 dL_tell_67 rfl (lv_at hl 2 rfl) ?_
    refine lv_imul C.1 C.2.1 dL_tell_68 ?_
    rw [show ((11 : Int32) * (nI cc)) = nI (11 * cc) from pk_mul 11 cc]
    refine lv_iadd C.1 C.2.1 dL_tell_69 ?_
    rw [show ((12 : Int32) + (nI (11 * cc))) = nI (12 + 11 * cc) from nI_add 12 (11 * cc)]
    refine lv_iload_n C.1 C.2.1 dL_tell_70 rfl (lv_at hl 3 rfl) ?_
    refine lv_iadd C.1 C.2.1 dL_tell_71 ?_
    rw [show ((nI (12 + 11 * cc)) + (nI k)) = nI (12 + 11 * cc + k) from nI_add (12 + 11 * cc) k]
    refine lv_aload_n C.1 C.2.1 dL_tell_72 rfl (lv_at hl 0 rfl) ?_
    refine lv_iload_n C.1 C.2.1 dL_tell_73 rfl (lv_at hl 2 rfl) ?_
    refine lv_iload_n C.1 C.2.1 dL_tell_74 rfl (lv_at hl 3 rfl) ?_
    obtain ⟨h1, e1, d1⟩ := X_captainOf K (c := cc) (by omega) (k := k) (by omega)
    have K := KX_rd K d1
    have hd := RD_tr hd d1
    refine u_callVF (As := [.int (nI cc), .int (nI k)]) (rv := some (.int (cO r cc k))) C (exC_ok hA) (c_X7_captainOf l D ids ad tt hA e1) lq_403 lq_404 lq_405 lq_8 lq_406 ⟨rfl, rfl⟩ (by refine ⟨by decide +kernel, by decide +kernel, ?_⟩; show _ = some 2; decide +kernel) ⟨Nat.le_of_ble_eq_true rfl, Nat.le_of_ble_eq_true rfl⟩ ⟨Nat.le_of_ble_eq_true rfl, Nat.le_of_ble_eq_true rfl⟩ (by decide) (cE_X7 _) rfl hPC hS hAw (tlEx hX0 hS) hl.1 (Nat.le_of_ble_eq_true rfl) rfl dL_tell_75 (fun H locs hPC hk hS => ?_)
    have hW := AW_keep hW hna hk
    refine tl_iast hA C hna haA hAw hPC hW hS (vp_in_nI (by omega) (by decide)) dL_tell_78 (fun H locs hPC hW hS => ?_)
    rw [nc (show 12 + 11 * cc + k < 2 ^ 31 by omega)] at hW
    have hf : ∀ j, j < 12 + 11 * cc + k + 1 → upd f (12 + 11 * cc + k) (cO r cc k) j = TL r j := fun j hj => by
      by_cases z : j = 12 + 11 * cc + k
      · rw [z, upd_same]
        exact (TL_c (by omega)).symm
      · rw [upd_ne z]
        exact hf j (by omega)
    refine lv_iinc (v := nI (k + 1)) (lv' := [(3, .int (nI (k + 1))), (0, .ref (ad 0)), (1, .ref a), (2, .int (nI cc))]) C.1 C.2.1 dL_tell_79 hl (k := 3) rfl (nI_1 k) (by decide) rfl (fun ls hl => ?_)
    refine lv_goto (tgt := 56) C.1 C.2.1 dL_tell_82 (by decide) ?_
    exact ih (k + 1) (by omega) _ _ _ _ _ K hd hf hPC hW hS (lv_sub hl [1, 2, 3, 0] rfl)
set_option maxRecDepth 100000 in
set_option maxHeartbeats 4000000 in
theorem tl_2 {p : Program} {l : Launch} {e : Env} {s : State} {m : MethodId} {args : Array Value} {below : List Frame} {meth : Method} {c : Code} {D : va_G} {ids : Nat → ClassId} {ad tt : Nat → Nat} {r : Nat → Int32} {h0 : Hp} {a : Nat} (hA : adOk ad 59) (C : CX p s m args meth c cL_tell 4 (some (.array .int)) RL D ids) (hX0 : ExC tt ad s s.heap) (ha : s.heap.size ≤ a) (hna : ¬ inW ad 59 a) : ∀ (n cc : Nat), cc + n = 3 → ∀ (h : Hp) (f : Nat → Int32) (H : Heap) (locs : List Loc) (ls : Array Slot), KX h r → RD h0 h → (∀ j, j < 12 + 11 * cc → f j = TL r j) → wp D (cEC ids ad) ad 59 h H → AW D ids a f H → va_S (TA ad s.heap.size) s.heap H locs → lv_has ls 4 [(0, .ref (ad 0)), (1, .ref a), (2, .int (nI cc))] → W p l e rm_L_tell s m args below meth c H locs 1 48 (MQ below (TQ D ids ad r h0 s.heap.size) args s 1 48 (TA ad s.heap.size)) (F0 m 49 ls []) := by
  intro n
  induction n with
  | zero =>
    intro cc hkn
    intro h f H locs ls K hd hf hPC hW hS hl
    refine lv_iload_n C.1 C.2.1 dL_tell_49 rfl (lv_at hl 2 rfl) ?_
    refine lv_iconst (v := (3 : Int32)) C.1 C.2.1 dL_tell_50 (by decide) ?_
    refine lv_icmp_ge (tgt := 91) C.1 C.2.1 dL_tell_51 (by decide) (fun _ => ?_) (fun hc => absurd (show (3 : Int32) ≤ nI cc from (le_iff (a := 3) (by decide) (by omega)).mpr (by omega)) hc)
    refine lv_aload_n C.1 C.2.1 dL_tell_91 rfl (lv_at hl 1 rfl) ?_
    obtain ⟨hx, hb, -, hr, hlocks, hown, hts, hK⟩ := C
    exact W.aret hx hb hr (Or.inr ⟨_, rfl⟩) (Or.inr ⟨_, rfl⟩) (fun t ht _ => ⟨a, h, f, rfl, ha, hd, fun k hk => hf k (by omega), by rw [ht]; exact hPC, by rw [ht]; exact hW, hS.F ht⟩) hS.2.2 dL_tell_92
  | succ n ih =>
    intro cc hkn
    intro h f H locs ls K hd hf hPC hW hS hl
    refine lv_iload_n C.1 C.2.1 dL_tell_49 rfl (lv_at hl 2 rfl) ?_
    refine lv_iconst (v := (3 : Int32)) C.1 C.2.1 dL_tell_50 (by decide) ?_
    refine lv_icmp_ge (tgt := 91) C.1 C.2.1 dL_tell_51 (by decide) (fun hc => absurd hc (fun (z : (3 : Int32) ≤ nI cc) => by have := (le_iff (a := 3) (by decide) (by omega)).mp z; omega)) (fun _ => ?_)
    refine lv_iconst (v := (0 : Int32)) C.1 C.2.1 dL_tell_54 (by decide) ?_
    refine lv_istore_n (lv' := [(3, .int (0 : Int32)), (0, .ref (ad 0)), (1, .ref a), (2, .int (nI cc))]) C.1 C.2.1 dL_tell_55 rfl hl (by decide) rfl (fun ls hl => ?_)
    refine tl_3 hA C hX0 ha hna (cc := cc) (by omega) ?_ 11 0 (by decide) h f H locs ls K hd (fun j hj => hf j (by omega)) hPC hW hS (lv_sub hl [1, 2, 3, 0] rfl)
    intro h f H locs ls K hd hf hPC hW hS hl
    refine lv_iinc (v := nI (cc + 1)) (lv' := [(2, .int (nI (cc + 1))), (0, .ref (ad 0)), (1, .ref a)]) C.1 C.2.1 dL_tell_85 hl (k := 2) rfl (nI_1 cc) (by decide) rfl (fun ls hl => ?_)
    refine lv_goto (tgt := 49) C.1 C.2.1 dL_tell_88 (by decide) ?_
    exact ih (cc + 1) (by omega) _ _ _ _ _ K hd (fun j hj => hf j (by omega)) hPC hW hS (lv_sub hl [1, 2, 0] rfl)
set_option maxRecDepth 100000 in
set_option maxHeartbeats 4000000 in
theorem tl_m {p : Program} {l : Launch} {e : Env} {s : State} {m : MethodId} {args : Array Value} {below : List Frame} {meth : Method} {c : Code} {D : va_G} {ids : Nat → ClassId} {ad tt : Nat → Nat} {r : Nat → Int32} {h0 : Hp} {a : Nat} (hA : adOk ad 59) (C : CX p s m args meth c cL_tell 4 (some (.array .int)) RL D ids) (hX0 : ExC tt ad s s.heap) (ha : s.heap.size ≤ a) (hna : ¬ inW ad 59 a) : ∀ (h : Hp) (f : Nat → Int32) (H : Heap) (locs : List Loc) (ls : Array Slot), KX h r → RD h0 h → (∀ j, j < 10 → f j = TL r j) → wp D (cEC ids ad) ad 59 h H → AW D ids a f H → va_S (TA ad s.heap.size) s.heap H locs → lv_has ls 4 [(0, .ref (ad 0)), (1, .ref a)] → W p l e rm_L_tell s m args below meth c H locs 1 48 (MQ below (TQ D ids ad r h0 s.heap.size) args s 1 48 (TA ad s.heap.size)) (F0 m 27 ls []) := by
  intro h f H locs ls K hd hf hPC hW hS hl
  have hAw : ∀ q, inW ad 59 q → TA ad s.heap.size q := fun q z => Or.inl z
  have haA : TA ad s.heap.size a := Or.inr ha
  refine lv_aload_n C.1 C.2.1 dL_tell_27 rfl (lv_at hl 1 rfl) ?_
  refine lv_bipush (v := (10 : Int32)) C.1 C.2.1 dL_tell_28 (by decide) ?_
  refine lv_aload_n C.1 C.2.1 dL_tell_30 rfl (lv_at hl 0 rfl) ?_
  refine lv_bipush (v := (12 : Int32)) C.1 C.2.1 dL_tell_31 (by decide) ?_
  obtain ⟨g10, e10, d10⟩ := X_count K (k := 12) (by decide)
  have K := KX_rd K d10
  have hd := RD_tr hd d10
  refine u_callVF (As := [.int (12 : Int32)]) (rv := some (.int (cN r 12))) C (exC_ok hA) (c_X7_count l D ids ad tt hA e10) lq_441 lq_442 lq_443 lq_8 lq_444 ⟨rfl, rfl⟩ (by refine ⟨by decide +kernel, by decide +kernel, ?_⟩; show _ = some 1; decide +kernel) ⟨Nat.le_of_ble_eq_true rfl, Nat.le_of_ble_eq_true rfl⟩ ⟨Nat.le_of_ble_eq_true rfl, Nat.le_of_ble_eq_true rfl⟩ (by decide) (cE_X7 _) rfl hPC hS hAw (tlEx hX0 hS) hl.1 (Nat.le_of_ble_eq_true rfl) rfl dL_tell_33 (fun H locs hPC hk hS => ?_)
  have hW := AW_keep hW hna hk
  refine tl_iast hA C hna haA hAw hPC hW hS (vp_in_nI (n := 10) (by decide) (by decide)) dL_tell_36 (fun H locs hPC hW hS => ?_)
  have hf : ∀ j, j < 11 → upd f (10 : Int32).toNatClampNeg (cN r 12) j = TL r j := fun j hj => by
    by_cases z : j = 10
    · rw [z]
      exact (upd_same _ 10 _).trans (TL_10 r).symm
    · exact (upd_ne z).trans (hf j (by omega))
  refine lv_aload_n C.1 C.2.1 dL_tell_37 rfl (lv_at hl 1 rfl) ?_
  refine lv_bipush (v := (11 : Int32)) C.1 C.2.1 dL_tell_38 (by decide) ?_
  refine lv_aload_n C.1 C.2.1 dL_tell_40 rfl (lv_at hl 0 rfl) ?_
  refine lv_bipush (v := (13 : Int32)) C.1 C.2.1 dL_tell_41 (by decide) ?_
  obtain ⟨g11, e11, d11⟩ := X_count K (k := 13) (by decide)
  have K := KX_rd K d11
  have hd := RD_tr hd d11
  refine u_callVF (As := [.int (13 : Int32)]) (rv := some (.int (cN r 13))) C (exC_ok hA) (c_X7_count l D ids ad tt hA e11) lq_441 lq_442 lq_443 lq_8 lq_444 ⟨rfl, rfl⟩ (by refine ⟨by decide +kernel, by decide +kernel, ?_⟩; show _ = some 1; decide +kernel) ⟨Nat.le_of_ble_eq_true rfl, Nat.le_of_ble_eq_true rfl⟩ ⟨Nat.le_of_ble_eq_true rfl, Nat.le_of_ble_eq_true rfl⟩ (by decide) (cE_X7 _) rfl hPC hS hAw (tlEx hX0 hS) hl.1 (Nat.le_of_ble_eq_true rfl) rfl dL_tell_43 (fun H locs hPC hk hS => ?_)
  have hW := AW_keep hW hna hk
  refine tl_iast hA C hna haA hAw hPC hW hS (vp_in_nI (n := 11) (by decide) (by decide)) dL_tell_46 (fun H locs hPC hW hS => ?_)
  have hf : ∀ j, j < 12 → upd (upd f (10 : Int32).toNatClampNeg (cN r 12)) (11 : Int32).toNatClampNeg (cN r 13) j = TL r j := fun j hj => by
    by_cases z : j = 11
    · rw [z]
      exact (upd_same _ 11 _).trans (TL_11 r).symm
    · exact (upd_ne z).trans (hf j (by omega))
  refine lv_iconst (v := (0 : Int32)) C.1 C.2.1 dL_tell_47 (by decide) ?_
  refine lv_istore_n (lv' := [(2, .int (0 : Int32)), (0, .ref (ad 0)), (1, .ref a)]) C.1 C.2.1 dL_tell_48 rfl hl (by decide) rfl (fun ls hl => ?_)
  exact tl_2 hA C hX0 ha hna 3 0 (by decide) _ _ _ _ _ K hd hf hPC hW hS (lv_sub hl [1, 2, 0] rfl)
set_option maxRecDepth 100000 in
set_option maxHeartbeats 4000000 in
theorem c_L_tell (l : Launch) (D : va_G) (ids : Nat → ClassId) (ad tt : Nat → Nat) (hA : adOk ad 59) {h : Hp} {r : Nat → Int32} (K : KX h r) (sz : Nat) : Met l yL_tell (ws_ yL_tell cL_tell 4 (some (.array .int))) rm_L_tell (va_Pc [.ref (ad 0)] (TB D ids ad tt h sz)) (TQ D ids ad r h sz) 1 48 (TA ad sz) := by
  refine t_met (own := RL) (by decide) rfl (Nat.le_of_ble_eq_true rfl) rfl (fun p e s m args below meth c H ls C hX hsz hP hS hl => ?_)
  subst hsz
  have hAw : ∀ q, inW ad 59 q → TA ad s.heap.size q := fun q z => Or.inl z
  have hP0 : va_P D vwCl (wl ad 59 (fun k => cEC ids ad k (h k)) ++ []) H := by rw [List.append_nil]; exact hP
  have hD0 : va_D (TA ad s.heap.size) (wl ad 59 (fun k => cEC ids ad k (h k)) ++ []) := by rw [List.append_nil]; exact (wl_D hA).weaken (fun _ q _ z => hAw q.1 z)
  refine lv_bipush (v := (48 : Int32)) C.1 C.2.1 dL_tell_0 (by decide) ?_
  refine kp_newa C hP0 hD0 hS (fun q z => Or.inr z) 1 rfl (atype := .int) lq_168 rfl (N' := 48) (a0 := (48, .inl (fun _ => 0))) (fun cA => rfl) (by decide) (by decide) (Nat.le_of_ble_eq_true rfl) (Nat.le_of_ble_eq_true rfl) (Nat.le_of_ble_eq_true rfl) dL_tell_2 (fun a H hPa hDa hS => ?_)
  refine W.widen (k := 1) (n := 48) (Nat.le_of_ble_eq_true rfl) (Nat.le_of_ble_eq_true rfl) ?_
  have hPC : wp D (cEC ids ad) ad 59 h H := va_P_l hPa
  have hW : AW D ids a (fun _ => 0) H := va_P_r hPa
  have hna : ¬ inW ad 59 a := fun ⟨k, hk, z⟩ => by
    have h1 := hDa.1 k 59 (ad k, cEC ids ad k (h k)) (a, .inl (ids 1, 48, .inl (fun _ => 0))) (by rw [List.getElem?_append_left (by rw [wl_len]; exact hk)]; exact wl_get hk) (by rw [List.getElem?_append_right (by rw [wl_len]; exact Nat.le_refl 59), wl_len]; rfl) z
    omega
  have ha : s.heap.size ≤ a := by
    rcases hDa.2 59 (a, .inl (ids 1, 48, .inl (fun _ => 0))) (by rw [List.getElem?_append_right (by rw [wl_len]; exact Nat.le_refl 59), wl_len]; rfl) with z | z
    · exact absurd z hna
    · exact z
  refine lv_astore_n (lv' := [(1, .ref a), (0, .ref (ad 0))]) C.1 C.2.1 dL_tell_4 rfl hl (by decide) rfl (fun ls hl => ?_)
  refine lv_iconst (v := (0 : Int32)) C.1 C.2.1 dL_tell_5 (by decide) ?_
  refine lv_istore_n (lv' := [(2, .int (0 : Int32)), (1, .ref a), (0, .ref (ad 0))]) C.1 C.2.1 dL_tell_6 rfl hl (by decide) rfl (fun ls hl => ?_)
  exact tl_1 hA C hX ha hna (tl_m hA C hX ha hna) 10 0 (by decide) h (fun _ => 0) H _ ls K (RD_rf h) (fun j hj => absurd hj (Nat.not_lt_zero j)) hPC hW hS (lv_sub hl [2, 1, 0] rfl)
