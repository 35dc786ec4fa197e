def ST_0 (SIM : Hp → Hp → Prop) : Prop := ∀ (h hm : Hp), SIM h hm → ∀ (a1 a2 a3 : Int32), ∃ (r : Int32) (h1 hm1 : Hp), f_X7_captain h a1 a2 a3 = some (r, h1) ∧ f_X8_captain hm a1 a2 a3 = some (r, hm1) ∧ SIM h1 hm1
def ST_1 (SIM : Hp → Hp → Prop) : Prop := ∀ (h hm : Hp), SIM h hm → ∃ (r : Int32) (h1 hm1 : Hp), f_X7_captains h = some (r, h1) ∧ f_X8_captains hm = some (r, hm1) ∧ SIM h1 hm1
def ST_2 (SIM : Hp → Hp → Prop) : Prop := ∀ (h hm : Hp), SIM h hm → ∀ (a1 : Int32), ∃ (r : Int32) (h1 hm1 : Hp), f_X7_truth h a1 = some (r, h1) ∧ f_X8_truth hm a1 = some (r, hm1) ∧ SIM h1 hm1
def ST_3 (SIM : Hp → Hp → Prop) : Prop := ∀ (h hm : Hp), SIM h hm → ∀ (a1 a2 : Int32), ∃ (r : Int32) (h1 hm1 : Hp), f_X7_set h a1 a2 = some (r, h1) ∧ f_X8_set hm a1 a2 = some (r, hm1) ∧ SIM h1 hm1
def ST_4 (SIM : Hp → Hp → Prop) : Prop := ∀ (h hm : Hp), SIM h hm → ∀ (a1 : Int32), ∃ (r : Int32) (h1 hm1 : Hp), f_X7_lot h a1 = some (r, h1) ∧ f_X8_lot hm a1 = some (r, hm1) ∧ SIM h1 hm1
def ST_5 (SIM : Hp → Hp → Prop) : Prop := ∀ (h hm : Hp), SIM h hm → ∀ (a1 : Int32), ∃ (r : Int32) (h1 hm1 : Hp), f_X7_sail h a1 = some (r, h1) ∧ f_X8_sail hm a1 = some (r, hm1) ∧ SIM h1 hm1
def ST_6 (SIM : Hp → Hp → Prop) : Prop := ∀ (h hm : Hp), SIM h hm → ∀ (a1 : Int32), ∃ (r : Int32) (h1 hm1 : Hp), f_X7_type h (a1.toUInt32 % 65536).toInt32 = some (r, h1) ∧ f_X8_type hm (a1.toUInt32 % 65536).toInt32 = some (r, hm1) ∧ SIM h1 hm1
def ST_7 (SIM : Hp → Hp → Prop) : Prop := ∀ (h hm : Hp), SIM h hm → ∃ (r : Int32) (h1 hm1 : Hp), f_X7_clearText h = some (r, h1) ∧ f_X8_clearText hm = some (r, hm1) ∧ SIM h1 hm1
def ST_8 (SIM : Hp → Hp → Prop) : Prop := ∀ (h hm : Hp), SIM h hm → ∃ (r : Int32) (h1 hm1 : Hp), f_X7_fault h = some (r, h1) ∧ f_X8_fault hm = some (r, hm1) ∧ SIM h1 hm1
def ST_9 (SIM : Hp → Hp → Prop) : Prop := ∀ (h hm : Hp), SIM h hm → ∃ (r : Int32) (h1 hm1 : Hp), f_X7_undo h = some (r, h1) ∧ f_X8_undo hm = some (r, hm1) ∧ SIM h1 hm1
def ST_10 (SIM : Hp → Hp → Prop) : Prop := ∀ (h hm : Hp), SIM h hm → ∃ (r : Int32) (h1 hm1 : Hp), f_X7_keep h = some (r, h1) ∧ f_X8_keep hm = some (r, hm1) ∧ SIM h1 hm1
def ST_11 (SIM : Hp → Hp → Prop) : Prop := ∀ (h hm : Hp), SIM h hm → ∃ (r : Int32) (h1 hm1 : Hp), f_X7_restore h = some (r, h1) ∧ f_X8_restore hm = some (r, hm1) ∧ SIM h1 hm1
def ST_12 (SIM : Hp → Hp → Prop) : Prop := ∀ (h hm : Hp), SIM h hm → ∀ (a1 a2 : Int32), ∃ (r : Int32) (h1 hm1 : Hp), f_X7_captainOf h a1 a2 = some (r, h1) ∧ f_X8_captainOf hm a1 a2 = some (r, hm1) ∧ SIM h1 hm1
def ST_13 (SIM : Hp → Hp → Prop) : Prop := ∀ (h hm : Hp), SIM h hm → ∀ (a1 a2 a3 : Int32), ∃ (r : Int32) (h1 hm1 : Hp), f_X7_printed h a1 a2 a3 = some (r, h1) ∧ f_X8_printed hm a1 a2 a3 = some (r, hm1) ∧ SIM h1 hm1
def ST_14 (SIM : Hp → Hp → Prop) : Prop := ∀ (h hm : Hp), SIM h hm → ∀ (a1 a2 a3 : Int32), ∃ (r : Int32) (h1 hm1 : Hp), f_X7_level h a1 a2 a3 = some (r, h1) ∧ f_X8_level hm a1 a2 a3 = some (r, hm1) ∧ SIM h1 hm1
def ST_15 (SIM : Hp → Hp → Prop) : Prop := ∀ (h hm : Hp), SIM h hm → ∀ (a1 a2 : Int32), ∃ (r : Int32) (h1 hm1 : Hp), f_X7_uses h a1 a2 = some (r, h1) ∧ f_X8_uses hm a1 a2 = some (r, hm1) ∧ SIM h1 hm1
def ST_16 (SIM : Hp → Hp → Prop) : Prop := ∀ (h hm : Hp), SIM h hm → ∀ (a1 a2 : Int32), ∃ (r : Int32) (h1 hm1 : Hp), f_X7_clash h a1 a2 = some (r, h1) ∧ f_X8_clash hm a1 a2 = some (r, hm1) ∧ SIM h1 hm1
def ST_17 (SIM : Hp → Hp → Prop) : Prop := ∀ (h hm : Hp), SIM h hm → ∀ (a1 a2 : Int32), ∃ (r : Int32) (h1 hm1 : Hp), f_X7_hours h a1 a2 = some (r, h1) ∧ f_X8_hours hm a1 a2 = some (r, hm1) ∧ SIM h1 hm1
def ST_18 (SIM : Hp → Hp → Prop) : Prop := ∀ (h hm : Hp), SIM h hm → ∀ (a1 : Int32), ∃ (r : Int32) (h1 hm1 : Hp), f_X7_count h a1 = some (r, h1) ∧ f_X8_count hm a1 = some (r, hm1) ∧ SIM h1 hm1
def ST_19 (SIM : Hp → Hp → Prop) : Prop := ∀ (h hm : Hp), SIM h hm → ∃ (r : UInt32) (h1 hm1 : Hp), f_X7_made h = some (r, h1) ∧ f_X8_made hm = some (r, hm1) ∧ vf_n32 r ∧ SIM h1 hm1
def ST_20 (SIM : Hp → Hp → Prop) : Prop := ∀ (h hm : Hp), SIM h hm → ∀ (a1 : Int32), ∃ (r : Int32) (h1 hm1 : Hp), f_X7_ifSailed h a1 = some (r, h1) ∧ f_X8_ifSailed hm a1 = some (r, hm1) ∧ SIM h1 hm1
def ST_21 (SIM : Hp → Hp → Prop) : Prop := ∀ (h hm : Hp), SIM h hm → ∀ (a1 : Int32), ∃ (r : Int32) (h1 hm1 : Hp), f_X7_bestHour h a1 = some (r, h1) ∧ f_X8_bestHour hm a1 = some (r, hm1) ∧ SIM h1 hm1
def ST_22 (SIM : Hp → Hp → Prop) : Prop := ∀ (h hm : Hp), SIM h hm → ∀ (a1 : Int32), ∃ (r : Int32) (h1 hm1 : Hp), f_X7_bestPhase h a1 = some (r, h1) ∧ f_X8_bestPhase hm a1 = some (r, hm1) ∧ SIM h1 hm1
def STEPS (SIM : Hp → Hp → Prop) : Prop := ST_0 SIM ∧ ST_1 SIM ∧ ST_2 SIM ∧ ST_3 SIM ∧ ST_4 SIM ∧ ST_5 SIM ∧ ST_6 SIM ∧ ST_7 SIM ∧ ST_8 SIM ∧ ST_9 SIM ∧ ST_10 SIM ∧ ST_11 SIM ∧ ST_12 SIM ∧ ST_13 SIM ∧ ST_14 SIM ∧ ST_15 SIM ∧ ST_16 SIM ∧ ST_17 SIM ∧ ST_18 SIM ∧ ST_19 SIM ∧ ST_20 SIM ∧ ST_21 SIM ∧ ST_22 SIM
set_option maxRecDepth 100000 in
set_option maxHeartbeats 4000000 in
theorem law_0 {p : Program} {l : Launch} {e : Env} {s : State} {m : MethodId} {below : List Frame} {meth : Method} {c : Code} {D : va_G} {ids : Nat → ClassId} {adC adM tt : Nat → Nat} {b L : Nat} {xs : Nat → Int32} {SIM : Hp → Hp → Prop} (hst : ST_0 SIM) (hL : L ≤ 2048) (C : CX p (s.setDrawn s.drawn) m #[Value.ref b] meth c code 8 ret RL D ids) (G : lawG D ids adC adM tt b L xs s) {i : Nat} (hi : i + 4 ≤ L) (hn : ∀ (h hm : Hp) (H : Heap) (locs : List Loc) (ls : Array Slot), SIM h hm → wp D (cEC ids adC) adC 59 h H → wp D (cEM ids adM) adM 12 hm H → va_S (fun q : Nat => s.heap.size ≤ q) s.heap H locs → lv_has ls 8 [(0, .ref b), (1, .ref (adC 0)), (2, .ref (adM 0)), (3, .int (nI i))] → W p l e room_1 (s.setDrawn s.drawn) m #[Value.ref b] below meth c H locs 71 885 (lw_Z below #[Value.ref b] s) (F0 m 741 ls [])) : ∀ (h hm : Hp) (H : Heap) (locs : List Loc) (ls : Array Slot), SIM h hm → wp D (cEC ids adC) adC 59 h H → wp D (cEM ids adM) adM 12 hm H → va_S (fun q : Nat => s.heap.size ≤ q) s.heap H locs → lv_has ls 8 [(0, .ref b), (1, .ref (adC 0)), (2, .ref (adM 0)), (3, .int (nI i))] → W p l e room_1 (s.setDrawn s.drawn) m #[Value.ref b] below meth c H locs 71 885 (lw_Z below #[Value.ref b] s) (F0 m 140 ls []) := by
  intro h hm H locs ls hsim hPC hPM hS hl
  obtain ⟨r, h1, hm1, e1, e2, hsim1⟩ := hst h hm hsim (xs (nI i + (1 : Int32)).toNatClampNeg) (xs (nI i + (2 : Int32)).toNatClampNeg) (xs (nI i + (3 : Int32)).toNatClampNeg)
  refine lv_aload_n C.1 C.2.1 dL_law_140 rfl (lv_at hl 1 rfl) ?_
  refine lv_aload_n C.1 C.2.1 dL_law_141 rfl (lv_at hl 0 rfl) ?_
  refine lv_iload_n C.1 C.2.1 dL_law_142 rfl (lv_at hl 3 rfl) ?_
  refine lv_iconst (v := (1 : Int32)) C.1 C.2.1 dL_law_143 (by decide) ?_
  refine lv_iadd C.1 C.2.1 dL_law_144 ?_
  refine va_sld C.1 C.2.1 G.2.2.2.2.1 G.2.2.2.2.2.1 (Nat.not_le.mpr G.2.2.2.2.2.1) hS (law_in (k := 1) hL hi (by decide)) dL_law_145 ?_
  refine lv_aload_n C.1 C.2.1 dL_law_146 rfl (lv_at hl 0 rfl) ?_
  refine lv_iload_n C.1 C.2.1 dL_law_147 rfl (lv_at hl 3 rfl) ?_
  refine lv_iconst (v := (2 : Int32)) C.1 C.2.1 dL_law_148 (by decide) ?_
  refine lv_iadd C.1 C.2.1 dL_law_149 ?_
  refine va_sld C.1 C.2.1 G.2.2.2.2.1 G.2.2.2.2.2.1 (Nat.not_le.mpr G.2.2.2.2.2.1) hS (law_in (k := 2) hL hi (by decide)) dL_law_150 ?_
  refine lv_aload_n C.1 C.2.1 dL_law_151 rfl (lv_at hl 0 rfl) ?_
  refine lv_iload_n C.1 C.2.1 dL_law_152 rfl (lv_at hl 3 rfl) ?_
  refine lv_iconst (v := (3 : Int32)) C.1 C.2.1 dL_law_153 (by decide) ?_
  refine lv_iadd C.1 C.2.1 dL_law_154 ?_
  refine va_sld C.1 C.2.1 G.2.2.2.2.1 G.2.2.2.2.2.1 (Nat.not_le.mpr G.2.2.2.2.2.1) hS (law_in (k := 3) hL hi (by decide)) dL_law_155 ?_
  refine u_callVF (As := [.int (xs (nI i + (1 : Int32)).toNatClampNeg), .int (xs (nI i + (2 : Int32)).toNatClampNeg), .int (xs (nI i + (3 : Int32)).toNatClampNeg)]) (rv := some (.int r)) C (exC_ok G.1) (c_X7_captain l D ids adC tt G.1 e1) lq_312 lq_313 lq_314 lq_45 lq_315 ⟨rfl, rfl⟩ (by refine ⟨by decide +kernel, by decide +kernel, ?_⟩; show _ = some 3; decide +kernel) ⟨Nat.le_of_ble_eq_true rfl, Nat.le_of_ble_eq_true rfl⟩ ⟨Nat.le_of_ble_eq_true rfl, Nat.le_of_ble_eq_true rfl⟩ (by decide) (cE_X7 _) rfl hPC hS G.2.2.1.1 (lawEx G hS) hl.1 (Nat.le_of_ble_eq_true rfl) rfl dL_law_156 (fun H1 locs hPC hk hS => ?_)
  have hPM := law_keepM G hPM hk
  refine lv_aload_n C.1 C.2.1 dL_law_159 rfl (lv_at hl 2 rfl) ?_
  refine lv_aload_n C.1 C.2.1 dL_law_160 rfl (lv_at hl 0 rfl) ?_
  refine lv_iload_n C.1 C.2.1 dL_law_161 rfl (lv_at hl 3 rfl) ?_
  refine lv_iconst (v := (1 : Int32)) C.1 C.2.1 dL_law_162 (by decide) ?_
  refine lv_iadd C.1 C.2.1 dL_law_163 ?_
  refine va_sld C.1 C.2.1 G.2.2.2.2.1 G.2.2.2.2.2.1 (Nat.not_le.mpr G.2.2.2.2.2.1) hS (law_in (k := 1) hL hi (by decide)) dL_law_164 ?_
  refine lv_aload_n C.1 C.2.1 dL_law_165 rfl (lv_at hl 0 rfl) ?_
  refine lv_iload_n C.1 C.2.1 dL_law_166 rfl (lv_at hl 3 rfl) ?_
  refine lv_iconst (v := (2 : Int32)) C.1 C.2.1 dL_law_167 (by decide) ?_
  refine lv_iadd C.1 C.2.1 dL_law_168 ?_
  refine va_sld C.1 C.2.1 G.2.2.2.2.1 G.2.2.2.2.2.1 (Nat.not_le.mpr G.2.2.2.2.2.1) hS (law_in (k := 2) hL hi (by decide)) dL_law_169 ?_
  refine lv_aload_n C.1 C.2.1 dL_law_170 rfl (lv_at hl 0 rfl) ?_
  refine lv_iload_n C.1 C.2.1 dL_law_171 rfl (lv_at hl 3 rfl) ?_
  refine lv_iconst (v := (3 : Int32)) C.1 C.2.1 dL_law_172 (by decide) ?_
  refine lv_iadd C.1 C.2.1 dL_law_173 ?_
  refine va_sld C.1 C.2.1 G.2.2.2.2.1 G.2.2.2.2.2.1 (Nat.not_le.mpr G.2.2.2.2.2.1) hS (law_in (k := 3) hL hi (by decide)) dL_law_174 ?_
  refine u_callVF (As := [.int (xs (nI i + (1 : Int32)).toNatClampNeg), .int (xs (nI i + (2 : Int32)).toNatClampNeg), .int (xs (nI i + (3 : Int32)).toNatClampNeg)]) (rv := some (.int r)) C exM_ok (c_X8_captain l D ids adM G.2.1 e2) lq_712 lq_713 lq_714 lq_53 lq_715 ⟨rfl, rfl⟩ (by refine ⟨by decide +kernel, by decide +kernel, ?_⟩; show _ = some 3; decide +kernel) ⟨Nat.le_of_ble_eq_true rfl, Nat.le_of_ble_eq_true rfl⟩ ⟨Nat.le_of_ble_eq_true rfl, Nat.le_of_ble_eq_true rfl⟩ (by decide) (cE_X8 _) rfl hPM hS G.2.2.1.2 (fun _ _ _ => trivial) hl.1 (Nat.le_of_ble_eq_true rfl) rfl dL_law_175 (fun H2 locs hPM hk hS => ?_)
  have hPC := law_keepC G hPC hk
  refine lv_icmp_eq (tgt := 741) C.1 C.2.1 dL_law_178 (by decide) (fun _ => ?_) (fun hc => absurd rfl hc)
  exact hn h1 hm1 _ _ _ hsim1 hPC hPM hS hl
set_option maxRecDepth 100000 in
set_option maxHeartbeats 4000000 in
theorem law_1 {p : Program} {l : Launch} {e : Env} {s : State} {m : MethodId} {below : List Frame} {meth : Method} {c : Code} {D : va_G} {ids : Nat → ClassId} {adC adM tt : Nat → Nat} {b L : Nat} {xs : Nat → Int32} {SIM : Hp → Hp → Prop} (hst : ST_1 SIM) (hL : L ≤ 2048) (C : CX p (s.setDrawn s.drawn) m #[Value.ref b] meth c code 8 ret RL D ids) (G : lawG D ids adC adM tt b L xs s) {i : Nat} (hi : i + 4 ≤ L) (hn : ∀ (h hm : Hp) (H : Heap) (locs : List Loc) (ls : Array Slot), SIM h hm → wp D (cEC ids adC) adC 59 h H → wp D (cEM ids adM) adM 12 hm H → va_S (fun q : Nat => s.heap.size ≤ q) s.heap H locs → lv_has ls 8 [(0, .ref b), (1, .ref (adC 0)), (2, .ref (adM 0)), (3, .int (nI i))] → W p l e room_1 (s.setDrawn s.drawn) m #[Value.ref b] below meth c H locs 71 885 (lw_Z below #[Value.ref b] s) (F0 m 741 ls [])) : ∀ (h hm : Hp) (H : Heap) (locs : List Loc) (ls : Array Slot), SIM h hm → wp D (cEC ids adC) adC 59 h H → wp D (cEM ids adM) adM 12 hm H → va_S (fun q : Nat => s.heap.size ≤ q) s.heap H locs → lv_has ls 8 [(0, .ref b), (1, .ref (adC 0)), (2, .ref (adM 0)), (3, .int (nI i))] → W p l e room_1 (s.setDrawn s.drawn) m #[Value.ref b] below meth c H locs 71 885 (lw_Z below #[Value.ref b] s) (F0 m 183 ls []) := by
  intro h hm H locs ls hsim hPC hPM hS hl
  obtain ⟨r, h1, hm1, e1, e2, hsim1⟩ := hst h hm hsim 
  refine lv_aload_n C.1 C.2.1 dL_law_183 rfl (lv_at hl 1 rfl) ?_
  refine u_callVF (As := []) (rv := some (.int r)) C (exC_ok G.1) (c_X7_captains l D ids adC tt G.1 e1) lq_349 lq_350 lq_351 lq_45 lq_352 ⟨rfl, rfl⟩ (by refine ⟨by decide +kernel, by decide +kernel, ?_⟩; show _ = some 0; decide +kernel) ⟨Nat.le_of_ble_eq_true rfl, Nat.le_of_ble_eq_true rfl⟩ ⟨Nat.le_of_ble_eq_true rfl, Nat.le_of_ble_eq_true rfl⟩ (by decide) (cE_X7 _) rfl hPC hS G.2.2.1.1 (lawEx G hS) hl.1 (Nat.le_of_ble_eq_true rfl) rfl dL_law_184 (fun H1 locs hPC hk hS => ?_)
  have hPM := law_keepM G hPM hk
  refine lv_aload_n C.1 C.2.1 dL_law_187 rfl (lv_at hl 2 rfl) ?_
  refine u_callVF (As := []) (rv := some (.int r)) C exM_ok (c_X8_captains l D ids adM G.2.1 e2) lq_856 lq_857 lq_858 lq_53 lq_859 ⟨rfl, rfl⟩ (by refine ⟨by decide +kernel, by decide +kernel, ?_⟩; show _ = some 0; decide +kernel) ⟨Nat.le_of_ble_eq_true rfl, Nat.le_of_ble_eq_true rfl⟩ ⟨Nat.le_of_ble_eq_true rfl, Nat.le_of_ble_eq_true rfl⟩ (by decide) (cE_X8 _) rfl hPM hS G.2.2.1.2 (fun _ _ _ => trivial) hl.1 (Nat.le_of_ble_eq_true rfl) rfl dL_law_188 (fun H2 locs hPM hk hS => ?_)
  have hPC := law_keepC G hPC hk
  refine lv_icmp_eq (tgt := 741) C.1 C.2.1 dL_law_191 (by decide) (fun _ => ?_) (fun hc => absurd rfl hc)
  exact hn h1 hm1 _ _ _ hsim1 hPC hPM hS hl
set_option maxRecDepth 100000 in
set_option maxHeartbeats 4000000 in
theorem law_2 {p : Program} {l : Launch} {e : Env} {s : State} {m : MethodId} {below : List Frame} {meth : Method} {c : Code} {D : va_G} {ids : Nat → ClassId} {adC adM tt : Nat → Nat} {b L : Nat} {xs : Nat → Int32} {SIM : Hp → Hp → Prop} (hst : ST_2 SIM) (hL : L ≤ 2048) (C : CX p (s.setDrawn s.drawn) m #[Value.ref b] meth c code 8 ret RL D ids) (G : lawG D ids adC adM tt b L xs s) {i : Nat} (hi : i + 4 ≤ L) (hn : ∀ (h hm : Hp) (H : Heap) (locs : List Loc) (ls : Array Slot), SIM h hm → wp D (cEC ids adC) adC 59 h H → wp D (cEM ids adM) adM 12 hm H → va_S (fun q : Nat => s.heap.size ≤ q) s.heap H locs → lv_has ls 8 [(0, .ref b), (1, .ref (adC 0)), (2, .ref (adM 0)), (3, .int (nI i))] → W p l e room_1 (s.setDrawn s.drawn) m #[Value.ref b] below meth c H locs 71 885 (lw_Z below #[Value.ref b] s) (F0 m 741 ls [])) : ∀ (h hm : Hp) (H : Heap) (locs : List Loc) (ls : Array Slot), SIM h hm → wp D (cEC ids adC) adC 59 h H → wp D (cEM ids adM) adM 12 hm H → va_S (fun q : Nat => s.heap.size ≤ q) s.heap H locs → lv_has ls 8 [(0, .ref b), (1, .ref (adC 0)), (2, .ref (adM 0)), (3, .int (nI i))] → W p l e room_1 (s.setDrawn s.drawn) m #[Value.ref b] below meth c H locs 71 885 (lw_Z below #[Value.ref b] s) (F0 m 196 ls []) := by
  intro h hm H locs ls hsim hPC hPM hS hl
  obtain ⟨r, h1, hm1, e1, e2, hsim1⟩ := hst h hm hsim (xs (nI i + (1 : Int32)).toNatClampNeg)
  refine lv_aload_n C.1 C.2.1 dL_law_196 rfl (lv_at hl 1 rfl) ?_
  refine lv_aload_n C.1 C.2.1 dL_law_197 rfl (lv_at hl 0 rfl) ?_
  refine lv_iload_n C.1 C.2.1 dL_law_198 rfl (lv_at hl 3 rfl) ?_
  refine lv_iconst (v := (1 : Int32)) C.1 C.2.1 dL_law_199 (by decide) ?_
  refine lv_iadd C.1 C.2.1 dL_law_200 ?_
  refine va_sld C.1 C.2.1 G.2.2.2.2.1 G.2.2.2.2.2.1 (Nat.not_le.mpr G.2.2.2.2.2.1) hS (law_in (k := 1) hL hi (by decide)) dL_law_201 ?_
  refine u_callVF (As := [.int (xs (nI i + (1 : Int32)).toNatClampNeg)]) (rv := some (.int r)) C (exC_ok G.1) (c_X7_truth l D ids adC tt G.1 e1) lq_390 lq_391 lq_392 lq_45 lq_393 ⟨rfl, rfl⟩ (by refine ⟨by decide +kernel, by decide +kernel, ?_⟩; show _ = some 1; decide +kernel) ⟨Nat.le_of_ble_eq_true rfl, Nat.le_of_ble_eq_true rfl⟩ ⟨Nat.le_of_ble_eq_true rfl, Nat.le_of_ble_eq_true rfl⟩ (by decide) (cE_X7 _) rfl hPC hS G.2.2.1.1 (lawEx G hS) hl.1 (Nat.le_of_ble_eq_true rfl) rfl dL_law_202 (fun H1 locs hPC hk hS => ?_)
  have hPM := law_keepM G hPM hk
  refine lv_aload_n C.1 C.2.1 dL_law_205 rfl (lv_at hl 2 rfl) ?_
  refine lv_aload_n C.1 C.2.1 dL_law_206 rfl (lv_at hl 0 rfl) ?_
  refine lv_iload_n C.1 C.2.1 dL_law_207 rfl (lv_at hl 3 rfl) ?_
  refine lv_iconst (v := (1 : Int32)) C.1 C.2.1 dL_law_208 (by decide) ?_
  refine lv_iadd C.1 C.2.1 dL_law_209 ?_
  refine va_sld C.1 C.2.1 G.2.2.2.2.1 G.2.2.2.2.2.1 (Nat.not_le.mpr G.2.2.2.2.2.1) hS (law_in (k := 1) hL hi (by decide)) dL_law_210 ?_
  refine u_callVF (As := [.int (xs (nI i + (1 : Int32)).toNatClampNeg)]) (rv := some (.int r)) C exM_ok (c_X8_truth l D ids adM G.2.1 e2) lq_736 lq_737 lq_738 lq_53 lq_739 ⟨rfl, rfl⟩ (by refine ⟨by decide +kernel, by decide +kernel, ?_⟩; show _ = some 1; decide +kernel) ⟨Nat.le_of_ble_eq_true rfl, Nat.le_of_ble_eq_true rfl⟩ ⟨Nat.le_of_ble_eq_true rfl, Nat.le_of_ble_eq_true rfl⟩ (by decide) (cE_X8 _) rfl hPM hS G.2.2.1.2 (fun _ _ _ => trivial) hl.1 (Nat.le_of_ble_eq_true rfl) rfl dL_law_211 (fun H2 locs hPM hk hS => ?_)
  have hPC := law_keepC G hPC hk
  refine lv_icmp_eq (tgt := 741) C.1 C.2.1 dL_law_214 (by decide) (fun _ => ?_) (fun hc => absurd rfl hc)
  exact hn h1 hm1 _ _ _ hsim1 hPC hPM hS hl
set_option maxRecDepth 100000 in
set_option maxHeartbeats 4000000 in
theorem law_3 {p : Program} {l : Launch} {e : Env} {s : State} {m : MethodId} {below : List Frame} {meth : Method} {c : Code} {D : va_G} {ids : Nat → ClassId} {adC adM tt : Nat → Nat} {b L : Nat} {xs : Nat → Int32} {SIM : Hp → Hp → Prop} (hst : ST_3 SIM) (hL : L ≤ 2048) (C : CX p (s.setDrawn s.drawn) m #[Value.ref b] meth c code 8 ret RL D ids) (G : lawG D ids adC adM tt b L xs s) {i : Nat} (hi : i + 4 ≤ L) (hn : ∀ (h hm : Hp) (H : Heap) (locs : List Loc) (ls : Array Slot), SIM h hm → wp D (cEC ids adC) adC 59 h H → wp D (cEM ids adM) adM 12 hm H → va_S (fun q : Nat => s.heap.size ≤ q) s.heap H locs → lv_has ls 8 [(0, .ref b), (1, .ref (adC 0)), (2, .ref (adM 0)), (3, .int (nI i))] → W p l e room_1 (s.setDrawn s.drawn) m #[Value.ref b] below meth c H locs 71 885 (lw_Z below #[Value.ref b] s) (F0 m 741 ls [])) : ∀ (h hm : Hp) (H : Heap) (locs : List Loc) (ls : Array Slot), SIM h hm → wp D (cEC ids adC) adC 59 h H → wp D (cEM ids adM) adM 12 hm H → va_S (fun q : Nat => s.heap.size ≤ q) s.heap H locs → lv_has ls 8 [(0, .ref b), (1, .ref (adC 0)), (2, .ref (adM 0)), (3, .int (nI i))] → W p l e room_1 (s.setDrawn s.drawn) m #[Value.ref b] below meth c H locs 71 885 (lw_Z below #[Value.ref b] s) (F0 m 219 ls []) := by
  intro h hm H locs ls hsim hPC hPM hS hl
  obtain ⟨r, h1, hm1, e1, e2, hsim1⟩ := hst h hm hsim (xs (nI i + (1 : Int32)).toNatClampNeg) (xs (nI i + (2 : Int32)).toNatClampNeg)
  refine lv_aload_n C.1 C.2.1 dL_law_219 rfl (lv_at hl 1 rfl) ?_
  refine lv_aload_n C.1 C.2.1 dL_law_220 rfl (lv_at hl 0 rfl) ?_
  refine lv_iload_n C.1 C.2.1 dL_law_221 rfl (lv_at hl 3 rfl) ?_
  refine lv_iconst (v := (1 : Int32)) C.1 C.2.1 dL_law_222 (by decide) ?_
  refine lv_iadd C.1 C.2.1 dL_law_223 ?_
  refine va_sld C.1 C.2.1 G.2.2.2.2.1 G.2.2.2.2.2.1 (Nat.not_le.mpr G.2.2.2.2.2.1) hS (law_in (k := 1) hL hi (by decide)) dL_law_224 ?_
  refine lv_aload_n C.1 C.2.1 dL_law_225 rfl (lv_at hl 0 rfl) ?_
  refine lv_iload_n C.1 C.2.1 dL_law_226 rfl (lv_at hl 3 rfl) ?_
  refine lv_iconst (v := (2 : Int32)) C.1 C.2.1 dL_law_227 (by decide) ?_
  refine lv_iadd C.1 C.2.1 dL_law_228 ?_
  refine va_sld C.1 C.2.1 G.2.2.2.2.1 G.2.2.2.2.2.1 (Nat.not_le.mpr G.2.2.2.2.2.1) hS (law_in (k := 2) hL hi (by decide)) dL_law_229 ?_
  refine u_callVF (As := [.int (xs (nI i + (1 : Int32)).toNatClampNeg), .int (xs (nI i + (2 : Int32)).toNatClampNeg)]) (rv := some (.int r)) C (exC_ok G.1) (c_X7_set l D ids adC tt G.1 e1) lq_394 lq_395 lq_396 lq_45 lq_397 ⟨rfl, rfl⟩ (by refine ⟨by decide +kernel, by decide +kernel, ?_⟩; show _ = some 2; decide +kernel) ⟨Nat.le_of_ble_eq_true rfl, Nat.le_of_ble_eq_true rfl⟩ ⟨Nat.le_of_ble_eq_true rfl, Nat.le_of_ble_eq_true rfl⟩ (by decide) (cE_X7 _) rfl hPC hS G.2.2.1.1 (lawEx G hS) hl.1 (Nat.le_of_ble_eq_true rfl) rfl dL_law_230 (fun H1 locs hPC hk hS => ?_)
  have hPM := law_keepM G hPM hk
  refine lv_aload_n C.1 C.2.1 dL_law_233 rfl (lv_at hl 2 rfl) ?_
  refine lv_aload_n C.1 C.2.1 dL_law_234 rfl (lv_at hl 0 rfl) ?_
  refine lv_iload_n C.1 C.2.1 dL_law_235 rfl (lv_at hl 3 rfl) ?_
  refine lv_iconst (v := (1 : Int32)) C.1 C.2.1 dL_law_236 (by decide) ?_
  refine lv_iadd C.1 C.2.1 dL_law_237 ?_
  refine va_sld C.1 C.2.1 G.2.2.2.2.1 G.2.2.2.2.2.1 (Nat.not_le.mpr G.2.2.2.2.2.1) hS (law_in (k := 1) hL hi (by decide)) dL_law_238 ?_
  refine lv_aload_n C.1 C.2.1 dL_law_239 rfl (lv_at hl 0 rfl) ?_
  refine lv_iload_n C.1 C.2.1 dL_law_240 rfl (lv_at hl 3 rfl) ?_
  refine lv_iconst (v := (2 : Int32)) C.1 C.2.1 dL_law_241 (by decide) ?_
  refine lv_iadd C.1 C.2.1 dL_law_242 ?_
  refine va_sld C.1 C.2.1 G.2.2.2.2.1 G.2.2.2.2.2.1 (Nat.not_le.mpr G.2.2.2.2.2.1) hS (law_in (k := 2) hL hi (by decide)) dL_law_243 ?_
  refine u_callVF (As := [.int (xs (nI i + (1 : Int32)).toNatClampNeg), .int (xs (nI i + (2 : Int32)).toNatClampNeg)]) (rv := some (.int r)) C exM_ok (c_X8_set l D ids adM G.2.1 e2) lq_744 lq_745 lq_746 lq_53 lq_747 ⟨rfl, rfl⟩ (by refine ⟨by decide +kernel, by decide +kernel, ?_⟩; show _ = some 2; decide +kernel) ⟨Nat.le_of_ble_eq_true rfl, Nat.le_of_ble_eq_true rfl⟩ ⟨Nat.le_of_ble_eq_true rfl, Nat.le_of_ble_eq_true rfl⟩ (by decide) (cE_X8 _) rfl hPM hS G.2.2.1.2 (fun _ _ _ => trivial) hl.1 (Nat.le_of_ble_eq_true rfl) rfl dL_law_244 (fun H2 locs hPM hk hS => ?_)
  have hPC := law_keepC G hPC hk
  refine lv_icmp_eq (tgt := 741) C.1 C.2.1 dL_law_247 (by decide) (fun _ => ?_) (fun hc => absurd rfl hc)
  exact hn h1 hm1 _ _ _ hsim1 hPC hPM hS hl
set_option maxRecDepth 100000 in
set_option maxHeartbeats 4000000 in
theorem law_4 {p : Program} {l : Launch} {e : Env} {s : State} {m : MethodId} {below : List Frame} {meth : Method} {c : Code} {D : va_G} {ids : Nat → ClassId} {adC adM tt : Nat → Nat} {b L : Nat} {xs : Nat → Int32} {SIM : Hp → Hp → Prop} (hst : ST_4 SIM) (hL : L ≤ 2048) (C : CX p (s.setDrawn s.drawn) m #[Value.ref b] meth c code 8 ret RL D ids) (G : lawG D ids adC adM tt b L xs s) {i : Nat} (hi : i + 4 ≤ L) (hn : ∀ (h hm : Hp) (H : Heap) (locs : List Loc) (ls : Array Slot), SIM h hm → wp D (cEC ids adC) adC 59 h H → wp D (cEM ids adM) adM 12 hm H → va_S (fun q : Nat => s.heap.size ≤ q) s.heap H locs → lv_has ls 8 [(0, .ref b), (1, .ref (adC 0)), (2, .ref (adM 0)), (3, .int (nI i))] → W p l e room_1 (s.setDrawn s.drawn) m #[Value.ref b] below meth c H locs 71 885 (lw_Z below #[Value.ref b] s) (F0 m 741 ls [])) : ∀ (h hm : Hp) (H : Heap) (locs : List Loc) (ls : Array Slot), SIM h hm → wp D (cEC ids adC) adC 59 h H → wp D (cEM ids adM) adM 12 hm H → va_S (fun q : Nat => s.heap.size ≤ q) s.heap H locs → lv_has ls 8 [(0, .ref b), (1, .ref (adC 0)), (2, .ref (adM 0)), (3, .int (nI i))] → W p l e room_1 (s.setDrawn s.drawn) m #[Value.ref b] below meth c H locs 71 885 (lw_Z below #[Value.ref b] s) (F0 m 252 ls []) := by
  intro h hm H locs ls hsim hPC hPM hS hl
  obtain ⟨r, h1, hm1, e1, e2, hsim1⟩ := hst h hm hsim (xs (nI i + (1 : Int32)).toNatClampNeg)
  refine lv_aload_n C.1 C.2.1 dL_law_252 rfl (lv_at hl 1 rfl) ?_
  refine lv_aload_n C.1 C.2.1 dL_law_253 rfl (lv_at hl 0 rfl) ?_
  refine lv_iload_n C.1 C.2.1 dL_law_254 rfl (lv_at hl 3 rfl) ?_
  refine lv_iconst (v := (1 : Int32)) C.1 C.2.1 dL_law_255 (by decide) ?_
  refine lv_iadd C.1 C.2.1 dL_law_256 ?_
  refine va_sld C.1 C.2.1 G.2.2.2.2.1 G.2.2.2.2.2.1 (Nat.not_le.mpr G.2.2.2.2.2.1) hS (law_in (k := 1) hL hi (by decide)) dL_law_257 ?_
  refine u_callVF (As := [.int (xs (nI i + (1 : Int32)).toNatClampNeg)]) (rv := some (.int r)) C (exC_ok G.1) (c_X7_lot l D ids adC tt G.1 e1) lq_413 lq_414 lq_415 lq_45 lq_416 ⟨rfl, rfl⟩ (by refine ⟨by decide +kernel, by decide +kernel, ?_⟩; show _ = some 1; decide +kernel) ⟨Nat.le_of_ble_eq_true rfl, Nat.le_of_ble_eq_true rfl⟩ ⟨Nat.le_of_ble_eq_true rfl, Nat.le_of_ble_eq_true rfl⟩ (by decide) (cE_X7 _) rfl hPC hS G.2.2.1.1 (lawEx G hS) hl.1 (Nat.le_of_ble_eq_true rfl) rfl dL_law_258 (fun H1 locs hPC hk hS => ?_)
  have hPM := law_keepM G hPM hk
  refine lv_aload_n C.1 C.2.1 dL_law_261 rfl (lv_at hl 2 rfl) ?_
  refine lv_aload_n C.1 C.2.1 dL_law_262 rfl (lv_at hl 0 rfl) ?_
  refine lv_iload_n C.1 C.2.1 dL_law_263 rfl (lv_at hl 3 rfl) ?_
  refine lv_iconst (v := (1 : Int32)) C.1 C.2.1 dL_law_264 (by decide) ?_
  refine lv_iadd C.1 C.2.1 dL_law_265 ?_
  refine va_sld C.1 C.2.1 G.2.2.2.2.1 G.2.2.2.2.2.1 (Nat.not_le.mpr G.2.2.2.2.2.1) hS (law_in (k := 1) hL hi (by decide)) dL_law_266 ?_
  refine u_callVF (As := [.int (xs (nI i + (1 : Int32)).toNatClampNeg)]) (rv := some (.int r)) C exM_ok (c_X8_lot l D ids adM G.2.1 e2) lq_748 lq_749 lq_750 lq_53 lq_751 ⟨rfl, rfl⟩ (by refine ⟨by decide +kernel, by decide +kernel, ?_⟩; show _ = some 1; decide +kernel) ⟨Nat.le_of_ble_eq_true rfl, Nat.le_of_ble_eq_true rfl⟩ ⟨Nat.le_of_ble_eq_true rfl, Nat.le_of_ble_eq_true rfl⟩ (by decide) (cE_X8 _) rfl hPM hS G.2.2.1.2 (fun _ _ _ => trivial) hl.1 (Nat.le_of_ble_eq_true rfl) rfl dL_law_267 (fun H2 locs hPM hk hS => ?_)
  have hPC := law_keepC G hPC hk
  refine lv_icmp_eq (tgt := 741) C.1 C.2.1 dL_law_270 (by decide) (fun _ => ?_) (fun hc => absurd rfl hc)
  exact hn h1 hm1 _ _ _ hsim1 hPC hPM hS hl
set_option maxRecDepth 100000 in
set_option maxHeartbeats 4000000 in
theorem law_5 {p : Program} {l : Launch} {e : Env} {s : State} {m : MethodId} {below : List Frame} {meth : Method} {c : Code} {D : va_G} {ids : Nat → ClassId} {adC adM tt : Nat → Nat} {b L : Nat} {xs : Nat → Int32} {SIM : Hp → Hp → Prop} (hst : ST_5 SIM) (hL : L ≤ 2048) (C : CX p (s.setDrawn s.drawn) m #[Value.ref b] meth c code 8 ret RL D ids) (G : lawG D ids adC adM tt b L xs s) {i : Nat} (hi : i + 4 ≤ L) (hn : ∀ (h hm : Hp) (H : Heap) (locs : List Loc) (ls : Array Slot), SIM h hm → wp D (cEC ids adC) adC 59 h H → wp D (cEM ids adM) adM 12 hm H → va_S (fun q : Nat => s.heap.size ≤ q) s.heap H locs → lv_has ls 8 [(0, .ref b), (1, .ref (adC 0)), (2, .ref (adM 0)), (3, .int (nI i))] → W p l e room_1 (s.setDrawn s.drawn) m #[Value.ref b] below meth c H locs 71 885 (lw_Z below #[Value.ref b] s) (F0 m 741 ls [])) : ∀ (h hm : Hp) (H : Heap) (locs : List Loc) (ls : Array Slot), SIM h hm → wp D (cEC ids adC) adC 59 h H → wp D (cEM ids adM) adM 12 hm H → va_S (fun q : Nat => s.heap.size ≤ q) s.heap H locs → lv_has ls 8 [(0, .ref b), (1, .ref (adC 0)), (2, .ref (adM 0)), (3, .int (nI i))] → W p l e room_1 (s.setDrawn s.drawn) m #[Value.ref b] below meth c H locs 71 885 (lw_Z below #[Value.ref b] s) (F0 m 275 ls []) := by
  intro h hm H locs ls hsim hPC hPM hS hl
  obtain ⟨r, h1, hm1, e1, e2, hsim1⟩ := hst h hm hsim (xs (nI i + (1 : Int32)).toNatClampNeg)
  refine lv_aload_n C.1 C.2.1 dL_law_275 rfl (lv_at hl 1 rfl) ?_
  refine lv_aload_n C.1 C.2.1 dL_law_276 rfl (lv_at hl 0 rfl) ?_
  refine lv_iload_n C.1 C.2.1 dL_law_277 rfl (lv_at hl 3 rfl) ?_
  refine lv_iconst (v := (1 : Int32)) C.1 C.2.1 dL_law_278 (by decide) ?_
  refine lv_iadd C.1 C.2.1 dL_law_279 ?_
  refine va_sld C.1 C.2.1 G.2.2.2.2.1 G.2.2.2.2.2.1 (Nat.not_le.mpr G.2.2.2.2.2.1) hS (law_in (k := 1) hL hi (by decide)) dL_law_280 ?_
  refine u_callVF (As := [.int (xs (nI i + (1 : Int32)).toNatClampNeg)]) (rv := some (.int r)) C (exC_ok G.1) (c_X7_sail l D ids adC tt G.1 e1) lq_418 lq_419 lq_420 lq_45 lq_421 ⟨rfl, rfl⟩ (by refine ⟨by decide +kernel, by decide +kernel, ?_⟩; show _ = some 1; decide +kernel) ⟨Nat.le_of_ble_eq_true rfl, Nat.le_of_ble_eq_true rfl⟩ ⟨Nat.le_of_ble_eq_true rfl, Nat.le_of_ble_eq_true rfl⟩ (by decide) (cE_X7 _) rfl hPC hS G.2.2.1.1 (lawEx G hS) hl.1 (Nat.le_of_ble_eq_true rfl) rfl dL_law_281 (fun H1 locs hPC hk hS => ?_)
  have hPM := law_keepM G hPM hk
  refine lv_aload_n C.1 C.2.1 dL_law_284 rfl (lv_at hl 2 rfl) ?_
  refine lv_aload_n C.1 C.2.1 dL_law_285 rfl (lv_at hl 0 rfl) ?_
  refine lv_iload_n C.1 C.2.1 dL_law_286 rfl (lv_at hl 3 rfl) ?_
  refine lv_iconst (v := (1 : Int32)) C.1 C.2.1 dL_law_287 (by decide) ?_
  refine lv_iadd C.1 C.2.1 dL_law_288 ?_
  refine va_sld C.1 C.2.1 G.2.2.2.2.1 G.2.2.2.2.2.1 (Nat.not_le.mpr G.2.2.2.2.2.1) hS (law_in (k := 1) hL hi (by decide)) dL_law_289 ?_
  refine u_callVF (As := [.int (xs (nI i + (1 : Int32)).toNatClampNeg)]) (rv := some (.int r)) C exM_ok (c_X8_sail l D ids adM G.2.1 e2) lq_753 lq_754 lq_755 lq_53 lq_756 ⟨rfl, rfl⟩ (by refine ⟨by decide +kernel, by decide +kernel, ?_⟩; show _ = some 1; decide +kernel) ⟨Nat.le_of_ble_eq_true rfl, Nat.le_of_ble_eq_true rfl⟩ ⟨Nat.le_of_ble_eq_true rfl, Nat.le_of_ble_eq_true rfl⟩ (by decide) (cE_X8 _) rfl hPM hS G.2.2.1.2 (fun _ _ _ => trivial) hl.1 (Nat.le_of_ble_eq_true rfl) rfl dL_law_290 (fun H2 locs hPM hk hS => ?_)
  have hPC := law_keepC G hPC hk
  refine lv_icmp_eq (tgt := 741) C.1 C.2.1 dL_law_293 (by decide) (fun _ => ?_) (fun hc => absurd rfl hc)
  exact hn h1 hm1 _ _ _ hsim1 hPC hPM hS hl
set_option maxRecDepth 100000 in
set_option maxHeartbeats 4000000 in
theorem law_6 {p : Program} {l : Launch} {e : Env} {s : State} {m : MethodId} {below : List Frame} {meth : Method} {c : Code} {D : va_G} {ids : Nat → ClassId} {adC adM tt : Nat → Nat} {b L : Nat} {xs : Nat → Int32} {SIM : Hp → Hp → Prop} (hst : ST_6 SIM) (hL : L ≤ 2048) (C : CX p (s.setDrawn s.drawn) m #[Value.ref b] meth c code 8 ret RL D ids) (G : lawG D ids adC adM tt b L xs s) {i : Nat} (hi : i + 4 ≤ L) (hn : ∀ (h hm : Hp) (H : Heap) (locs : List Loc) (ls : Array Slot), SIM h hm → wp D (cEC ids adC) adC 59 h H → wp D (cEM ids adM) adM 12 hm H → va_S (fun q : Nat => s.heap.size ≤ q) s.heap H locs → lv_has ls 8 [(0, .ref b), (1, .ref (adC 0)), (2, .ref (adM 0)), (3, .int (nI i))] → W p l e room_1 (s.setDrawn s.drawn) m #[Value.ref b] below meth c H locs 71 885 (lw_Z below #[Value.ref b] s) (F0 m 741 ls [])) : ∀ (h hm : Hp) (H : Heap) (locs : List Loc) (ls : Array Slot), SIM h hm → wp D (cEC ids adC) adC 59 h H → wp D (cEM ids adM) adM 12 hm H → va_S (fun q : Nat => s.heap.size ≤ q) s.heap H locs → lv_has ls 8 [(0, .ref b), (1, .ref (adC 0)), (2, .ref (adM 0)), (3, .int (nI i))] → W p l e room_1 (s.setDrawn s.drawn) m #[Value.ref b] below meth c H locs 71 885 (lw_Z below #[Value.ref b] s) (F0 m 298 ls []) := by
  intro h hm H locs ls hsim hPC hPM hS hl
  obtain ⟨r, h1, hm1, e1, e2, hsim1⟩ := hst h hm hsim (xs (nI i + (1 : Int32)).toNatClampNeg)
  refine lv_aload_n C.1 C.2.1 dL_law_298 rfl (lv_at hl 1 rfl) ?_
  refine lv_aload_n C.1 C.2.1 dL_law_299 rfl (lv_at hl 0 rfl) ?_
  refine lv_iload_n C.1 C.2.1 dL_law_300 rfl (lv_at hl 3 rfl) ?_
  refine lv_iconst (v := (1 : Int32)) C.1 C.2.1 dL_law_301 (by decide) ?_
  refine lv_iadd C.1 C.2.1 dL_law_302 ?_
  refine va_sld C.1 C.2.1 G.2.2.2.2.1 G.2.2.2.2.2.1 (Nat.not_le.mpr G.2.2.2.2.2.1) hS (law_in (k := 1) hL hi (by decide)) dL_law_303 ?_
  refine lv_i2c C.1 C.2.1 dL_law_304 rfl ?_
  refine u_callVF (As := [.int (((xs (nI i + (1 : Int32)).toNatClampNeg)).toUInt32 % 65536).toInt32]) (rv := some (.int r)) C (exC_ok G.1) (c_X7_type l D ids adC tt G.1 e1) lq_508 lq_509 lq_510 lq_45 lq_511 ⟨rfl, rfl⟩ (by refine ⟨by decide +kernel, by decide +kernel, ?_⟩; show _ = some 1; decide +kernel) ⟨Nat.le_of_ble_eq_true rfl, Nat.le_of_ble_eq_true rfl⟩ ⟨Nat.le_of_ble_eq_true rfl, Nat.le_of_ble_eq_true rfl⟩ (by decide) (cE_X7 _) rfl hPC hS G.2.2.1.1 (lawEx G hS) hl.1 (Nat.le_of_ble_eq_true rfl) rfl dL_law_305 (fun H1 locs hPC hk hS => ?_)
  have hPM := law_keepM G hPM hk
  refine lv_aload_n C.1 C.2.1 dL_law_308 rfl (lv_at hl 2 rfl) ?_
  refine lv_aload_n C.1 C.2.1 dL_law_309 rfl (lv_at hl 0 rfl) ?_
  refine lv_iload_n C.1 C.2.1 dL_law_310 rfl (lv_at hl 3 rfl) ?_
  refine lv_iconst (v := (1 : Int32)) C.1 C.2.1 dL_law_311 (by decide) ?_
  refine lv_iadd C.1 C.2.1 dL_law_312 ?_
  refine va_sld C.1 C.2.1 G.2.2.2.2.1 G.2.2.2.2.2.1 (Nat.not_le.mpr G.2.2.2.2.2.1) hS (law_in (k := 1) hL hi (by decide)) dL_law_313 ?_
  refine lv_i2c C.1 C.2.1 dL_law_314 rfl ?_
  refine u_callVF (As := [.int (((xs (nI i + (1 : Int32)).toNatClampNeg)).toUInt32 % 65536).toInt32]) (rv := some (.int r)) C exM_ok (c_X8_type l D ids adM G.2.1 e2) lq_820 lq_821 lq_822 lq_53 lq_823 ⟨rfl, rfl⟩ (by refine ⟨by decide +kernel, by decide +kernel, ?_⟩; show _ = some 1; decide +kernel) ⟨Nat.le_of_ble_eq_true rfl, Nat.le_of_ble_eq_true rfl⟩ ⟨Nat.le_of_ble_eq_true rfl, Nat.le_of_ble_eq_true rfl⟩ (by decide) (cE_X8 _) rfl hPM hS G.2.2.1.2 (fun _ _ _ => trivial) hl.1 (Nat.le_of_ble_eq_true rfl) rfl dL_law_315 (fun H2 locs hPM hk hS => ?_)
  have hPC := law_keepC G hPC hk
  refine lv_icmp_eq (tgt := 741) C.1 C.2.1 dL_law_318 (by decide) (fun _ => ?_) (fun hc => absurd rfl hc)
  exact hn h1 hm1 _ _ _ hsim1 hPC hPM hS hl
set_option maxRecDepth 100000 in
set_option maxHeartbeats 4000000 in
theorem law_7 {p : Program} {l : Launch} {e : Env} {s : State} {m : MethodId} {below : List Frame} {meth : Method} {c : Code} {D : va_G} {ids : Nat → ClassId} {adC adM tt : Nat → Nat} {b L : Nat} {xs : Nat → Int32} {SIM : Hp → Hp → Prop} (hst : ST_7 SIM) (hL : L ≤ 2048) (C : CX p (s.setDrawn s.drawn) m #[Value.ref b] meth c code 8 ret RL D ids) (G : lawG D ids adC adM tt b L xs s) {i : Nat} (hi : i + 4 ≤ L) (hn : ∀ (h hm : Hp) (H : Heap) (locs : List Loc) (ls : Array Slot), SIM h hm → wp D (cEC ids adC) adC 59 h H → wp D (cEM ids adM) adM 12 hm H → va_S (fun q : Nat => s.heap.size ≤ q) s.heap H locs → lv_has ls 8 [(0, .ref b), (1, .ref (adC 0)), (2, .ref (adM 0)), (3, .int (nI i))] → W p l e room_1 (s.setDrawn s.drawn) m #[Value.ref b] below meth c H locs 71 885 (lw_Z below #[Value.ref b] s) (F0 m 741 ls [])) : ∀ (h hm : Hp) (H : Heap) (locs : List Loc) (ls : Array Slot), SIM h hm → wp D (cEC ids adC) adC 59 h H → wp D (cEM ids adM) adM 12 hm H → va_S (fun q : Nat => s.heap.size ≤ q) s.heap H locs → lv_has ls 8 [(0, .ref b), (1, .ref (adC 0)), (2, .ref (adM 0)), (3, .int (nI i))] → W p l e room_1 (s.setDrawn s.drawn) m #[Value.ref b] below meth c H locs 71 885 (lw_Z below #[Value.ref b] s) (F0 m 323 ls []) := by
  intro h hm H locs ls hsim hPC hPM hS hl
  obtain ⟨r, h1, hm1, e1, e2, hsim1⟩ := hst h hm hsim 
  refine lv_aload_n C.1 C.2.1 dL_law_323 rfl (lv_at hl 1 rfl) ?_
  refine u_callVF (As := []) (rv := some (.int r)) C (exC_ok G.1) (c_X7_clearText l D ids adC tt G.1 e1) lq_516 lq_517 lq_518 lq_45 lq_519 ⟨rfl, rfl⟩ (by refine ⟨by decide +kernel, by decide +kernel, ?_⟩; show _ = some 0; decide +kernel) ⟨Nat.le_of_ble_eq_true rfl, Nat.le_of_ble_eq_true rfl⟩ ⟨Nat.le_of_ble_eq_true rfl, Nat.le_of_ble_eq_true rfl⟩ (by decide) (cE_X7 _) rfl hPC hS G.2.2.1.1 (lawEx G hS) hl.1 (Nat.le_of_ble_eq_true rfl) rfl dL_law_324 (fun H1 locs hPC hk hS => ?_)
  have hPM := law_keepM G hPM hk
  refine lv_aload_n C.1 C.2.1 dL_law_327 rfl (lv_at hl 2 rfl) ?_
  refine u_callVF (As := []) (rv := some (.int r)) C exM_ok (c_X8_clearText l D ids adM G.2.1 e2) lq_824 lq_825 lq_826 lq_53 lq_827 ⟨rfl, rfl⟩ (by refine ⟨by decide +kernel, by decide +kernel, ?_⟩; show _ = some 0; decide +kernel) ⟨Nat.le_of_ble_eq_true rfl, Nat.le_of_ble_eq_true rfl⟩ ⟨Nat.le_of_ble_eq_true rfl, Nat.le_of_ble_eq_true rfl⟩ (by decide) (cE_X8 _) rfl hPM hS G.2.2.1.2 (fun _ _ _ => trivial) hl.1 (Nat.le_of_ble_eq_true rfl) rfl dL_law_328 (fun H2 locs hPM hk hS => ?_)
  have hPC := law_keepC G hPC hk
  refine lv_icmp_eq (tgt := 741) C.1 C.2.1 dL_law_331 (by decide) (fun _ => ?_) (fun hc => absurd rfl hc)
  exact hn h1 hm1 _ _ _ hsim1 hPC hPM hS hl
set_option maxRecDepth 100000 in
set_option maxHeartbeats 4000000 in
theorem law_8 {p : Program} {l : Launch} {e : Env} {s : State} {m : MethodId} {below : List Frame} {meth : Method} {c : Code} {D : va_G} {ids : Nat → ClassId} {adC adM tt : Nat → Nat} {b L : Nat} {xs : Nat → Int32} {SIM : Hp → Hp → Prop} (hst : ST_8 SIM) (hL : L ≤ 2048) (C : CX p (s.setDrawn s.drawn) m #[Value.ref b] meth c code 8 ret RL D ids) (G : lawG D ids adC adM tt b L xs s) {i : Nat} (hi : i + 4 ≤ L) (hn : ∀ (h hm : Hp) (H : Heap) (locs : List Loc) (ls : Array Slot), SIM h hm → wp D (cEC ids adC) adC 59 h H → wp D (cEM ids adM) adM 12 hm H → va_S (fun q : Nat => s.heap.size ≤ q) s.heap H locs → lv_has ls 8 [(0, .ref b), (1, .ref (adC 0)), (2, .ref (adM 0)), (3, .int (nI i))] → W p l e room_1 (s.setDrawn s.drawn) m #[Value.ref b] below meth c H locs 71 885 (lw_Z below #[Value.ref b] s) (F0 m 741 ls [])) : ∀ (h hm : Hp) (H : Heap) (locs : List Loc) (ls : Array Slot), SIM h hm → wp D (cEC ids adC) adC 59 h H → wp D (cEM ids adM) adM 12 hm H → va_S (fun q : Nat => s.heap.size ≤ q) s.heap H locs → lv_has ls 8 [(0, .ref b), (1, .ref (adC 0)), (2, .ref (adM 0)), (3, .int (nI i))] → W p l e room_1 (s.setDrawn s.drawn) m #[Value.ref b] below meth c H locs 71 885 (lw_Z below #[Value.ref b] s) (F0 m 336 ls []) := by
  intro h hm H locs ls hsim hPC hPM hS hl
  obtain ⟨r, h1, hm1, e1, e2, hsim1⟩ := hst h hm hsim 
  refine lv_aload_n C.1 C.2.1 dL_law_336 rfl (lv_at hl 1 rfl) ?_
  refine u_callVF (As := []) (rv := some (.int r)) C (exC_ok G.1) (c_X7_fault l D ids adC tt G.1 e1) lq_520 lq_521 lq_522 lq_45 lq_523 ⟨rfl, rfl⟩ (by refine ⟨by decide +kernel, by decide +kernel, ?_⟩; show _ = some 0; decide +kernel) ⟨Nat.le_of_ble_eq_true rfl, Nat.le_of_ble_eq_true rfl⟩ ⟨Nat.le_of_ble_eq_true rfl, Nat.le_of_ble_eq_true rfl⟩ (by decide) (cE_X7 _) rfl hPC hS G.2.2.1.1 (lawEx G hS) hl.1 (Nat.le_of_ble_eq_true rfl) rfl dL_law_337 (fun H1 locs hPC hk hS => ?_)
  have hPM := law_keepM G hPM hk
  refine lv_aload_n C.1 C.2.1 dL_law_340 rfl (lv_at hl 2 rfl) ?_
  refine u_callVF (As := []) (rv := some (.int r)) C exM_ok (c_X8_fault l D ids adM G.2.1 e2) lq_828 lq_829 lq_830 lq_53 lq_831 ⟨rfl, rfl⟩ (by refine ⟨by decide +kernel, by decide +kernel, ?_⟩; show _ = some 0; decide +kernel) ⟨Nat.le_of_ble_eq_true rfl, Nat.le_of_ble_eq_true rfl⟩ ⟨Nat.le_of_ble_eq_true rfl, Nat.le_of_ble_eq_true rfl⟩ (by decide) (cE_X8 _) rfl hPM hS G.2.2.1.2 (fun _ _ _ => trivial) hl.1 (Nat.le_of_ble_eq_true rfl) rfl dL_law_341 (fun H2 locs hPM hk hS => ?_)
  have hPC := law_keepC G hPC hk
  refine lv_icmp_eq (tgt := 741) C.1 C.2.1 dL_law_344 (by decide) (fun _ => ?_) (fun hc => absurd rfl hc)
  exact hn h1 hm1 _ _ _ hsim1 hPC hPM hS hl
set_option maxRecDepth 100000 in
set_option maxHeartbeats 4000000 in
theorem law_9 {p : Program} {l : Launch} {e : Env} {s : State} {m : MethodId} {below : List Frame} {meth : Method} {c : Code} {D : va_G} {ids : Nat → ClassId} {adC adM tt : Nat → Nat} {b L : Nat} {xs : Nat → Int32} {SIM : Hp → Hp → Prop} (hst : ST_9 SIM) (hL : L ≤ 2048) (C : CX p (s.setDrawn s.drawn) m #[Value.ref b] meth c code 8 ret RL D ids) (G : lawG D ids adC adM tt b L xs s) {i : Nat} (hi : i + 4 ≤ L) (hn : ∀ (h hm : Hp) (H : Heap) (locs : List Loc) (ls : Array Slot), SIM h hm → wp D (cEC ids adC) adC 59 h H → wp D (cEM ids adM) adM 12 hm H → va_S (fun q : Nat => s.heap.size ≤ q) s.heap H locs → lv_has ls 8 [(0, .ref b), (1, .ref (adC 0)), (2, .ref (adM 0)), (3, .int (nI i))] → W p l e room_1 (s.setDrawn s.drawn) m #[Value.ref b] below meth c H locs 71 885 (lw_Z below #[Value.ref b] s) (F0 m 741 ls [])) : ∀ (h hm : Hp) (H : Heap) (locs : List Loc) (ls : Array Slot), SIM h hm → wp D (cEC ids adC) adC 59 h H → wp D (cEM ids adM) adM 12 hm H → va_S (fun q : Nat => s.heap.size ≤ q) s.heap H locs → lv_has ls 8 [(0, .ref b), (1, .ref (adC 0)), (2, .ref (adM 0)), (3, .int (nI i))] → W p l e room_1 (s.setDrawn s.drawn) m #[Value.ref b] below meth c H locs 71 885 (lw_Z below #[Value.ref b] s) (F0 m 349 ls []) := by
  intro h hm H locs ls hsim hPC hPM hS hl
  obtain ⟨r, h1, hm1, e1, e2, hsim1⟩ := hst h hm hsim 
  refine lv_aload_n C.1 C.2.1 dL_law_349 rfl (lv_at hl 1 rfl) ?_
  refine u_callVF (As := []) (rv := some (.int r)) C (exC_ok G.1) (c_X7_undo l D ids adC tt G.1 e1) lq_524 lq_525 lq_526 lq_45 lq_527 ⟨rfl, rfl⟩ (by refine ⟨by decide +kernel, by decide +kernel, ?_⟩; show _ = some 0; decide +kernel) ⟨Nat.le_of_ble_eq_true rfl, Nat.le_of_ble_eq_true rfl⟩ ⟨Nat.le_of_ble_eq_true rfl, Nat.le_of_ble_eq_true rfl⟩ (by decide) (cE_X7 _) rfl hPC hS G.2.2.1.1 (lawEx G hS) hl.1 (Nat.le_of_ble_eq_true rfl) rfl dL_law_350 (fun H1 locs hPC hk hS => ?_)
  have hPM := law_keepM G hPM hk
  refine lv_aload_n C.1 C.2.1 dL_law_353 rfl (lv_at hl 2 rfl) ?_
  refine u_callVF (As := []) (rv := some (.int r)) C exM_ok (c_X8_undo l D ids adM G.2.1 e2) lq_860 lq_861 lq_862 lq_53 lq_863 ⟨rfl, rfl⟩ (by refine ⟨by decide +kernel, by decide +kernel, ?_⟩; show _ = some 0; decide +kernel) ⟨Nat.le_of_ble_eq_true rfl, Nat.le_of_ble_eq_true rfl⟩ ⟨Nat.le_of_ble_eq_true rfl, Nat.le_of_ble_eq_true rfl⟩ (by decide) (cE_X8 _) rfl hPM hS G.2.2.1.2 (fun _ _ _ => trivial) hl.1 (Nat.le_of_ble_eq_true rfl) rfl dL_law_354 (fun H2 locs hPM hk hS => ?_)
  have hPC := law_keepC G hPC hk
  refine lv_icmp_eq (tgt := 741) C.1 C.2.1 dL_law_357 (by decide) (fun _ => ?_) (fun hc => absurd rfl hc)
  exact hn h1 hm1 _ _ _ hsim1 hPC hPM hS hl
set_option maxRecDepth 100000 in
set_option maxHeartbeats 4000000 in
theorem law_10 {p : Program} {l : Launch} {e : Env} {s : State} {m : MethodId} {below : List Frame} {meth : Method} {c : Code} {D : va_G} {ids : Nat → ClassId} {adC adM tt : Nat → Nat} {b L : Nat} {xs : Nat → Int32} {SIM : Hp → Hp → Prop} (hst : ST_10 SIM) (hL : L ≤ 2048) (C : CX p (s.setDrawn s.drawn) m #[Value.ref b] meth c code 8 ret RL D ids) (G : lawG D ids adC adM tt b L xs s) {i : Nat} (hi : i + 4 ≤ L) (hn : ∀ (h hm : Hp) (H : Heap) (locs : List Loc) (ls : Array Slot), SIM h hm → wp D (cEC ids adC) adC 59 h H → wp D (cEM ids adM) adM 12 hm H → va_S (fun q : Nat => s.heap.size ≤ q) s.heap H locs → lv_has ls 8 [(0, .ref b), (1, .ref (adC 0)), (2, .ref (adM 0)), (3, .int (nI i))] → W p l e room_1 (s.setDrawn s.drawn) m #[Value.ref b] below meth c H locs 71 885 (lw_Z below #[Value.ref b] s) (F0 m 741 ls [])) : ∀ (h hm : Hp) (H : Heap) (locs : List Loc) (ls : Array Slot), SIM h hm → wp D (cEC ids adC) adC 59 h H → wp D (cEM ids adM) adM 12 hm H → va_S (fun q : Nat => s.heap.size ≤ q) s.heap H locs → lv_has ls 8 [(0, .ref b), (1, .ref (adC 0)), (2, .ref (adM 0)), (3, .int (nI i))] → W p l e room_1 (s.setDrawn s.drawn) m #[Value.ref b] below meth c H locs 71 885 (lw_Z below #[Value.ref b] s) (F0 m 362 ls []) := by
  intro h hm H locs ls hsim hPC hPM hS hl
  obtain ⟨r, h1, hm1, e1, e2, hsim1⟩ := hst h hm hsim 
  refine lv_aload_n C.1 C.2.1 dL_law_362 rfl (lv_at hl 1 rfl) ?_
  refine u_callVF (As := []) (rv := some (.int r)) C (exC_ok G.1) (c_X7_keep l D ids adC tt G.1 e1) lq_528 lq_529 lq_530 lq_45 lq_531 ⟨rfl, rfl⟩ (by refine ⟨by decide +kernel, by decide +kernel, ?_⟩; show _ = some 0; decide +kernel) ⟨Nat.le_of_ble_eq_true rfl, Nat.le_of_ble_eq_true rfl⟩ ⟨Nat.le_of_ble_eq_true rfl, Nat.le_of_ble_eq_true rfl⟩ (by decide) (cE_X7 _) rfl hPC hS G.2.2.1.1 (lawEx G hS) hl.1 (Nat.le_of_ble_eq_true rfl) rfl dL_law_363 (fun H1 locs hPC hk hS => ?_)
  have hPM := law_keepM G hPM hk
  refine lv_aload_n C.1 C.2.1 dL_law_366 rfl (lv_at hl 2 rfl) ?_
  refine u_callVF (As := []) (rv := some (.int r)) C exM_ok (c_X8_keep l D ids adM G.2.1 e2) lq_864 lq_865 lq_866 lq_53 lq_867 ⟨rfl, rfl⟩ (by refine ⟨by decide +kernel, by decide +kernel, ?_⟩; show _ = some 0; decide +kernel) ⟨Nat.le_of_ble_eq_true rfl, Nat.le_of_ble_eq_true rfl⟩ ⟨Nat.le_of_ble_eq_true rfl, Nat.le_of_ble_eq_true rfl⟩ (by decide) (cE_X8 _) rfl hPM hS G.2.2.1.2 (fun _ _ _ => trivial) hl.1 (Nat.le_of_ble_eq_true rfl) rfl dL_law_367 (fun H2 locs hPM hk hS => ?_)
  have hPC := law_keepC G hPC hk
  refine lv_icmp_eq (tgt := 741) C.1 C.2.1 dL_law_370 (by decide) (fun _ => ?_) (fun hc => absurd rfl hc)
  exact hn h1 hm1 _ _ _ hsim1 hPC hPM hS hl
set_option maxRecDepth 100000 in
set_option maxHeartbeats 4000000 in
theorem law_11 {p : Program} {l : Launch} {e : Env} {s : State} {m : MethodId} {below : List Frame} {meth : Method} {c : Code} {D : va_G} {ids : Nat → ClassId} {adC adM tt : Nat → Nat} {b L : Nat} {xs : Nat → Int32} {SIM : Hp → Hp → Prop} (hst : ST_11 SIM) (hL : L ≤ 2048) (C : CX p (s.setDrawn s.drawn) m #[Value.ref b] meth c code 8 ret RL D ids) (G : lawG D ids adC adM tt b L xs s) {i : Nat} (hi : i + 4 ≤ L) (hn : ∀ (h hm : Hp) (H : Heap) (locs : List Loc) (ls : Array Slot), SIM h hm → wp D (cEC ids adC) adC 59 h H → wp D (cEM ids adM) adM 12 hm H → va_S (fun q : Nat => s.heap.size ≤ q) s.heap H locs → lv_has ls 8 [(0, .ref b), (1, .ref (adC 0)), (2, .ref (adM 0)), (3, .int (nI i))] → W p l e room_1 (s.setDrawn s.drawn) m #[Value.ref b] below meth c H locs 71 885 (lw_Z below #[Value.ref b] s) (F0 m 741 ls [])) : ∀ (h hm : Hp) (H : Heap) (locs : List Loc) (ls : Array Slot), SIM h hm → wp D (cEC ids adC) adC 59 h H → wp D (cEM ids adM) adM 12 hm H → va_S (fun q : Nat => s.heap.size ≤ q) s.heap H locs → lv_has ls 8 [(0, .ref b), (1, .ref (adC 0)), (2, .ref (adM 0)), (3, .int (nI i))] → W p l e room_1 (s.setDrawn s.drawn) m #[Value.ref b] below meth c H locs 71 885 (lw_Z below #[Value.ref b] s) (F0 m 375 ls []) := by
  intro h hm H locs ls hsim hPC hPM hS hl
  obtain ⟨r, h1, hm1, e1, e2, hsim1⟩ := hst h hm hsim 
  refine lv_aload_n C.1 C.2.1 dL_law_375 rfl (lv_at hl 1 rfl) ?_
  refine u_callVF (As := []) (rv := some (.int r)) C (exC_ok G.1) (c_X7_restore l D ids adC tt G.1 e1) lq_532 lq_533 lq_534 lq_45 lq_535 ⟨rfl, rfl⟩ (by refine ⟨by decide +kernel, by decide +kernel, ?_⟩; show _ = some 0; decide +kernel) ⟨Nat.le_of_ble_eq_true rfl, Nat.le_of_ble_eq_true rfl⟩ ⟨Nat.le_of_ble_eq_true rfl, Nat.le_of_ble_eq_true rfl⟩ (by decide) (cE_X7 _) rfl hPC hS G.2.2.1.1 (lawEx G hS) hl.1 (Nat.le_of_ble_eq_true rfl) rfl dL_law_376 (fun H1 locs hPC hk hS => ?_)
  have hPM := law_keepM G hPM hk
  refine lv_aload_n C.1 C.2.1 dL_law_379 rfl (lv_at hl 2 rfl) ?_
  refine u_callVF (As := []) (rv := some (.int r)) C exM_ok (c_X8_restore l D ids adM G.2.1 e2) lq_868 lq_869 lq_870 lq_53 lq_871 ⟨rfl, rfl⟩ (by refine ⟨by decide +kernel, by decide +kernel, ?_⟩; show _ = some 0; decide +kernel) ⟨Nat.le_of_ble_eq_true rfl, Nat.le_of_ble_eq_true rfl⟩ ⟨Nat.le_of_ble_eq_true rfl, Nat.le_of_ble_eq_true rfl⟩ (by decide) (cE_X8 _) rfl hPM hS G.2.2.1.2 (fun _ _ _ => trivial) hl.1 (Nat.le_of_ble_eq_true rfl) rfl dL_law_380 (fun H2 locs hPM hk hS => ?_)
  have hPC := law_keepC G hPC hk
  refine lv_icmp_eq (tgt := 741) C.1 C.2.1 dL_law_383 (by decide) (fun _ => ?_) (fun hc => absurd rfl hc)
  exact hn h1 hm1 _ _ _ hsim1 hPC hPM hS hl
set_option maxRecDepth 100000 in
set_option maxHeartbeats 4000000 in
theorem law_12 {p : Program} {l : Launch} {e : Env} {s : State} {m : MethodId} {below : List Frame} {meth : Method} {c : Code} {D : va_G} {ids : Nat → ClassId} {adC adM tt : Nat → Nat} {b L : Nat} {xs : Nat → Int32} {SIM : Hp → Hp → Prop} (hst : ST_12 SIM) (hL : L ≤ 2048) (C : CX p (s.setDrawn s.drawn) m #[Value.ref b] meth c code 8 ret RL D ids) (G : lawG D ids adC adM tt b L xs s) {i : Nat} (hi : i + 4 ≤ L) (hn : ∀ (h hm : Hp) (H : Heap) (locs : List Loc) (ls : Array Slot), SIM h hm → wp D (cEC ids adC) adC 59 h H → wp D (cEM ids adM) adM 12 hm H → va_S (fun q : Nat => s.heap.size ≤ q) s.heap H locs → lv_has ls 8 [(0, .ref b), (1, .ref (adC 0)), (2, .ref (adM 0)), (3, .int (nI i))] → W p l e room_1 (s.setDrawn s.drawn) m #[Value.ref b] below meth c H locs 71 885 (lw_Z below #[Value.ref b] s) (F0 m 741 ls [])) : ∀ (h hm : Hp) (H : Heap) (locs : List Loc) (ls : Array Slot), SIM h hm → wp D (cEC ids adC) adC 59 h H → wp D (cEM ids adM) adM 12 hm H → va_S (fun q : Nat => s.heap.size ≤ q) s.heap H locs → lv_has ls 8 [(0, .ref b), (1, .ref (adC 0)), (2, .ref (adM 0)), (3, .int (nI i))] → W p l e room_1 (s.setDrawn s.drawn) m #[Value.ref b] below meth c H locs 71 885 (lw_Z below #[Value.ref b] s) (F0 m 388 ls []) := by
  intro h hm H locs ls hsim hPC hPM hS hl
  obtain ⟨r, h1, hm1, e1, e2, hsim1⟩ := hst h hm hsim (xs (nI i + (1 : Int32)).toNatClampNeg) (xs (nI i + (2 : Int32)).toNatClampNeg)
  refine lv_aload_n C.1 C.2.1 dL_law_388 rfl (lv_at hl 1 rfl) ?_
  refine lv_aload_n C.1 C.2.1 dL_law_389 rfl (lv_at hl 0 rfl) ?_
  refine lv_iload_n C.1 C.2.1 dL_law_390 rfl (lv_at hl 3 rfl) ?_
  refine lv_iconst (v := (1 : Int32)) C.1 C.2.1 dL_law_391 (by decide) ?_
  refine lv_iadd C.1 C.2.1 dL_law_392 ?_
  refine va_sld C.1 C.2.1 G.2.2.2.2.1 G.2.2.2.2.2.1 (Nat.not_le.mpr G.2.2.2.2.2.1) hS (law_in (k := 1) hL hi (by decide)) dL_law_393 ?_
  refine lv_aload_n C.1 C.2.1 dL_law_394 rfl (lv_at hl 0 rfl) ?_
  refine lv_iload_n C.1 C.2.1 dL_law_395 rfl (lv_at hl 3 rfl) ?_
  refine lv_iconst (v := (2 : Int32)) C.1 C.2.1 dL_law_396 (by decide) ?_
  refine lv_iadd C.1 C.2.1 dL_law_397 ?_
  refine va_sld C.1 C.2.1 G.2.2.2.2.1 G.2.2.2.2.2.1 (Nat.not_le.mpr G.2.2.2.2.2.1) hS (law_in (k := 2) hL hi (by decide)) dL_law_398 ?_
  refine u_callVF (As := [.int (xs (nI i + (1 : Int32)).toNatClampNeg), .int (xs (nI i + (2 : Int32)).toNatClampNeg)]) (rv := some (.int r)) C (exC_ok G.1) (c_X7_captainOf l D ids adC tt G.1 e1) lq_536 lq_537 lq_538 lq_45 lq_539 ⟨rfl, rfl⟩ (by refine ⟨by decide +kernel, by decide +kernel, ?_⟩; show _ = some 2; decide +kernel) ⟨Nat.le_of_ble_eq_true rfl, Nat.le_of_ble_eq_true rfl⟩ ⟨Nat.le_of_ble_eq_true rfl, Nat.le_of_ble_eq_true rfl⟩ (by decide) (cE_X7 _) rfl hPC hS G.2.2.1.1 (lawEx G hS) hl.1 (Nat.le_of_ble_eq_true rfl) rfl dL_law_399 (fun H1 locs hPC hk hS => ?_)
  have hPM := law_keepM G hPM hk
  refine lv_aload_n C.1 C.2.1 dL_law_402 rfl (lv_at hl 2 rfl) ?_
  refine lv_aload_n C.1 C.2.1 dL_law_403 rfl (lv_at hl 0 rfl) ?_
  refine lv_iload_n C.1 C.2.1 dL_law_404 rfl (lv_at hl 3 rfl) ?_
  refine lv_iconst (v := (1 : Int32)) C.1 C.2.1 dL_law_405 (by decide) ?_
  refine lv_iadd C.1 C.2.1 dL_law_406 ?_
  refine va_sld C.1 C.2.1 G.2.2.2.2.1 G.2.2.2.2.2.1 (Nat.not_le.mpr G.2.2.2.2.2.1) hS (law_in (k := 1) hL hi (by decide)) dL_law_407 ?_
  refine lv_aload_n C.1 C.2.1 dL_law_408 rfl (lv_at hl 0 rfl) ?_
  refine lv_iload_n C.1 C.2.1 dL_law_409 rfl (lv_at hl 3 rfl) ?_
  refine lv_iconst (v := (2 : Int32)) C.1 C.2.1 dL_law_410 (by decide) ?_
  refine lv_iadd C.1 C.2.1 dL_law_411 ?_
  refine va_sld C.1 C.2.1 G.2.2.2.2.1 G.2.2.2.2.2.1 (Nat.not_le.mpr G.2.2.2.2.2.1) hS (law_in (k := 2) hL hi (by decide)) dL_law_412 ?_
  refine u_callVF (As := [.int (xs (nI i + (1 : Int32)).toNatClampNeg), .int (xs (nI i + (2 : Int32)).toNatClampNeg)]) (rv := some (.int r)) C exM_ok (c_X8_captainOf l D ids adM G.2.1 e2) lq_872 lq_873 lq_874 lq_53 lq_875 ⟨rfl, rfl⟩ (by refine ⟨by decide +kernel, by decide +kernel, ?_⟩; show _ = some 2; decide +kernel) ⟨Nat.le_of_ble_eq_true rfl, Nat.le_of_ble_eq_true rfl⟩ ⟨Nat.le_of_ble_eq_true rfl, Nat.le_of_ble_eq_true rfl⟩ (by decide) (cE_X8 _) rfl hPM hS G.2.2.1.2 (fun _ _ _ => trivial) hl.1 (Nat.le_of_ble_eq_true rfl) rfl dL_law_413 (fun H2 locs hPM hk hS => ?_)
  have hPC := law_keepC G hPC hk
  refine lv_icmp_eq (tgt := 741) C.1 C.2.1 dL_law_416 (by decide) (fun _ => ?_) (fun hc => absurd rfl hc)
  exact hn h1 hm1 _ _ _ hsim1 hPC hPM hS hl
set_option maxRecDepth 100000 in
set_option maxHeartbeats 4000000 in
theorem law_13 {p : Program} {l : Launch} {e : Env} {s : State} {m : MethodId} {below : List Frame} {meth : Method} {c : Code} {D : va_G} {ids : Nat → ClassId} {adC adM tt : Nat → Nat} {b L : Nat} {xs : Nat → Int32} {SIM : Hp → Hp → Prop} (hst : ST_13 SIM) (hL : L ≤ 2048) (C : CX p (s.setDrawn s.drawn) m #[Value.ref b] meth c code 8 ret RL D ids) (G : lawG D ids adC adM tt b L xs s) {i : Nat} (hi : i + 4 ≤ L) (hn : ∀ (h hm : Hp) (H : Heap) (locs : List Loc) (ls : Array Slot), SIM h hm → wp D (cEC ids adC) adC 59 h H → wp D (cEM ids adM) adM 12 hm H → va_S (fun q : Nat => s.heap.size ≤ q) s.heap H locs → lv_has ls 8 [(0, .ref b), (1, .ref (adC 0)), (2, .ref (adM 0)), (3, .int (nI i))] → W p l e room_1 (s.setDrawn s.drawn) m #[Value.ref b] below meth c H locs 71 885 (lw_Z below #[Value.ref b] s) (F0 m 741 ls [])) : ∀ (h hm : Hp) (H : Heap) (locs : List Loc) (ls : Array Slot), SIM h hm → wp D (cEC ids adC) adC 59 h H → wp D (cEM ids adM) adM 12 hm H → va_S (fun q : Nat => s.heap.size ≤ q) s.heap H locs → lv_has ls 8 [(0, .ref b), (1, .ref (adC 0)), (2, .ref (adM 0)), (3, .int (nI i))] → W p l e room_1 (s.setDrawn s.drawn) m #[Value.ref b] below meth c H locs 71 885 (lw_Z below #[Value.ref b] s) (F0 m 421 ls []) := by
  intro h hm H locs ls hsim hPC hPM hS hl
  obtain ⟨r, h1, hm1, e1, e2, hsim1⟩ := hst h hm hsim (xs (nI i + (1 : Int32)).toNatClampNeg) (xs (nI i + (2 : Int32)).toNatClampNeg) (xs (nI i + (3 : Int32)).toNatClampNeg)
  refine lv_aload_n C.1 C.2.1 dL_law_421 rfl (lv_at hl 1 rfl) ?_
  refine lv_aload_n C.1 C.2.1 dL_law_422 rfl (lv_at hl 0 rfl) ?_
  refine lv_iload_n C.1 C.2.1 dL_law_423 rfl (lv_at hl 3 rfl) ?_
  refine lv_iconst (v := (1 : Int32)) C.1 C.2.1 dL_law_424 (by decide) ?_
  refine lv_iadd C.1 C.2.1 dL_law_425 ?_
  refine va_sld C.1 C.2.1 G.2.2.2.2.1 G.2.2.2.2.2.1 (Nat.not_le.mpr G.2.2.2.2.2.1) hS (law_in (k := 1) hL hi (by decide)) dL_law_426 ?_
  refine lv_aload_n C.1 C.2.1 dL_law_427 rfl (lv_at hl 0 rfl) ?_
  refine lv_iload_n C.1 C.2.1 dL_law_428 rfl (lv_at hl 3 rfl) ?_
  refine lv_iconst (v := (2 : Int32)) C.1 C.2.1 dL_law_429 (by decide) ?_
  refine lv_iadd C.1 C.2.1 dL_law_430 ?_
  refine va_sld C.1 C.2.1 G.2.2.2.2.1 G.2.2.2.2.2.1 (Nat.not_le.mpr G.2.2.2.2.2.1) hS (law_in (k := 2) hL hi (by decide)) dL_law_431 ?_
  refine lv_aload_n C.1 C.2.1 dL_law_432 rfl (lv_at hl 0 rfl) ?_
  refine lv_iload_n C.1 C.2.1 dL_law_433 rfl (lv_at hl 3 rfl) ?_
  refine lv_iconst (v := (3 : Int32)) C.1 C.2.1 dL_law_434 (by decide) ?_
  refine lv_iadd C.1 C.2.1 dL_law_435 ?_
  refine va_sld C.1 C.2.1 G.2.2.2.2.1 G.2.2.2.2.2.1 (Nat.not_le.mpr G.2.2.2.2.2.1) hS (law_in (k := 3) hL hi (by decide)) dL_law_436 ?_
  refine u_callVF (As := [.int (xs (nI i + (1 : Int32)).toNatClampNeg), .int (xs (nI i + (2 : Int32)).toNatClampNeg), .int (xs (nI i + (3 : Int32)).toNatClampNeg)]) (rv := some (.int r)) C (exC_ok G.1) (c_X7_printed l D ids adC tt G.1 e1) lq_565 lq_566 lq_567 lq_45 lq_568 ⟨rfl, rfl⟩ (by refine ⟨by decide +kernel, by decide +kernel, ?_⟩; show _ = some 3; decide +kernel) ⟨Nat.le_of_ble_eq_true rfl, Nat.le_of_ble_eq_true rfl⟩ ⟨Nat.le_of_ble_eq_true rfl, Nat.le_of_ble_eq_true rfl⟩ (by decide) (cE_X7 _) rfl hPC hS G.2.2.1.1 (lawEx G hS) hl.1 (Nat.le_of_ble_eq_true rfl) rfl dL_law_437 (fun H1 locs hPC hk hS => ?_)
  have hPM := law_keepM G hPM hk
  refine lv_aload_n C.1 C.2.1 dL_law_440 rfl (lv_at hl 2 rfl) ?_
  refine lv_aload_n C.1 C.2.1 dL_law_441 rfl (lv_at hl 0 rfl) ?_
  refine lv_iload_n C.1 C.2.1 dL_law_442 rfl (lv_at hl 3 rfl) ?_
  refine lv_iconst (v := (1 : Int32)) C.1 C.2.1 dL_law_443 (by decide) ?_
  refine lv_iadd C.1 C.2.1 dL_law_444 ?_
  refine va_sld C.1 C.2.1 G.2.2.2.2.1 G.2.2.2.2.2.1 (Nat.not_le.mpr G.2.2.2.2.2.1) hS (law_in (k := 1) hL hi (by decide)) dL_law_445 ?_
  refine lv_aload_n C.1 C.2.1 dL_law_446 rfl (lv_at hl 0 rfl) ?_
  refine lv_iload_n C.1 C.2.1 dL_law_447 rfl (lv_at hl 3 rfl) ?_
  refine lv_iconst (v := (2 : Int32)) C.1 C.2.1 dL_law_448 (by decide) ?_
  refine lv_iadd C.1 C.2.1 dL_law_449 ?_
  refine va_sld C.1 C.2.1 G.2.2.2.2.1 G.2.2.2.2.2.1 (Nat.not_le.mpr G.2.2.2.2.2.1) hS (law_in (k := 2) hL hi (by decide)) dL_law_450 ?_
  refine lv_aload_n C.1 C.2.1 dL_law_451 rfl (lv_at hl 0 rfl) ?_
  refine lv_iload_n C.1 C.2.1 dL_law_452 rfl (lv_at hl 3 rfl) ?_
  refine lv_iconst (v := (3 : Int32)) C.1 C.2.1 dL_law_453 (by decide) ?_
  refine lv_iadd C.1 C.2.1 dL_law_454 ?_
  refine va_sld C.1 C.2.1 G.2.2.2.2.1 G.2.2.2.2.2.1 (Nat.not_le.mpr G.2.2.2.2.2.1) hS (law_in (k := 3) hL hi (by decide)) dL_law_455 ?_
  refine u_callVF (As := [.int (xs (nI i + (1 : Int32)).toNatClampNeg), .int (xs (nI i + (2 : Int32)).toNatClampNeg), .int (xs (nI i + (3 : Int32)).toNatClampNeg)]) (rv := some (.int r)) C exM_ok (c_X8_printed l D ids adM G.2.1 e2) lq_876 lq_877 lq_878 lq_53 lq_879 ⟨rfl, rfl⟩ (by refine ⟨by decide +kernel, by decide +kernel, ?_⟩; show _ = some 3; decide +kernel) ⟨Nat.le_of_ble_eq_true rfl, Nat.le_of_ble_eq_true rfl⟩ ⟨Nat.le_of_ble_eq_true rfl, Nat.le_of_ble_eq_true rfl⟩ (by decide) (cE_X8 _) rfl hPM hS G.2.2.1.2 (fun _ _ _ => trivial) hl.1 (Nat.le_of_ble_eq_true rfl) rfl dL_law_456 (fun H2 locs hPM hk hS => ?_)
  have hPC := law_keepC G hPC hk
  refine lv_icmp_eq (tgt := 741) C.1 C.2.1 dL_law_459 (by decide) (fun _ => ?_) (fun hc => absurd rfl hc)
  exact hn h1 hm1 _ _ _ hsim1 hPC hPM hS hl
set_option maxRecDepth 100000 in
set_option maxHeartbeats 4000000 in
theorem law_14 {p : Program} {l : Launch} {e : Env} {s : State} {m : MethodId} {below : List Frame} {meth : Method} {c : Code} {D : va_G} {ids : Nat → ClassId} {adC adM tt : Nat → Nat} {b L : Nat} {xs : Nat → Int32} {SIM : Hp → Hp → Prop} (hst : ST_14 SIM) (hL : L ≤ 2048) (C : CX p (s.setDrawn s.drawn) m #[Value.ref b] meth c code 8 ret RL D ids) (G : lawG D ids adC adM tt b L xs s) {i : Nat} (hi : i + 4 ≤ L) (hn : ∀ (h hm : Hp) (H : Heap) (locs : List Loc) (ls : Array Slot), SIM h hm → wp D (cEC ids adC) adC 59 h H → wp D (cEM ids adM) adM 12 hm H → va_S (fun q : Nat => s.heap.size ≤ q) s.heap H locs → lv_has ls 8 [(0, .ref b), (1, .ref (adC 0)), (2, .ref (adM 0)), (3, .int (nI i))] → W p l e room_1 (s.setDrawn s.drawn) m #[Value.ref b] below meth c H locs 71 885 (lw_Z below #[Value.ref b] s) (F0 m 741 ls [])) : ∀ (h hm : Hp) (H : Heap) (locs : List Loc) (ls : Array Slot), SIM h hm → wp D (cEC ids adC) adC 59 h H → wp D (cEM ids adM) adM 12 hm H → va_S (fun q : Nat => s.heap.size ≤ q) s.heap H locs → lv_has ls 8 [(0, .ref b), (1, .ref (adC 0)), (2, .ref (adM 0)), (3, .int (nI i))] → W p l e room_1 (s.setDrawn s.drawn) m #[Value.ref b] below meth c H locs 71 885 (lw_Z below #[Value.ref b] s) (F0 m 464 ls []) := by
  intro h hm H locs ls hsim hPC hPM hS hl
  obtain ⟨r, h1, hm1, e1, e2, hsim1⟩ := hst h hm hsim (xs (nI i + (1 : Int32)).toNatClampNeg) (xs (nI i + (2 : Int32)).toNatClampNeg) (xs (nI i + (3 : Int32)).toNatClampNeg)
  refine lv_aload_n C.1 C.2.1 dL_law_464 rfl (lv_at hl 1 rfl) ?_
  refine lv_aload_n C.1 C.2.1 dL_law_465 rfl (lv_at hl 0 rfl) ?_
  refine lv_iload_n C.1 C.2.1 dL_law_466 rfl (lv_at hl 3 rfl) ?_
  refine lv_iconst (v := (1 : Int32)) C.1 C.2.1 dL_law_467 (by decide) ?_
  refine lv_iadd C.1 C.2.1 dL_law_468 ?_
  refine va_sld C.1 C.2.1 G.2.2.2.2.1 G.2.2.2.2.2.1 (Nat.not_le.mpr G.2.2.2.2.2.1) hS (law_in (k := 1) hL hi (by decide)) dL_law_469 ?_
  refine lv_aload_n C.1 C.2.1 dL_law_470 rfl (lv_at hl 0 rfl) ?_
  refine lv_iload_n C.1 C.2.1 dL_law_471 rfl (lv_at hl 3 rfl) ?_
  refine lv_iconst (v := (2 : Int32)) C.1 C.2.1 dL_law_472 (by decide) ?_
  refine lv_iadd C.1 C.2.1 dL_law_473 ?_
  refine va_sld C.1 C.2.1 G.2.2.2.2.1 G.2.2.2.2.2.1 (Nat.not_le.mpr G.2.2.2.2.2.1) hS (law_in (k := 2) hL hi (by decide)) dL_law_474 ?_
  refine lv_aload_n C.1 C.2.1 dL_law_475 rfl (lv_at hl 0 rfl) ?_
  refine lv_iload_n C.1 C.2.1 dL_law_476 rfl (lv_at hl 3 rfl) ?_
  refine lv_iconst (v := (3 : Int32)) C.1 C.2.1 dL_law_477 (by decide) ?_
  refine lv_iadd C.1 C.2.1 dL_law_478 ?_
  refine va_sld C.1 C.2.1 G.2.2.2.2.1 G.2.2.2.2.2.1 (Nat.not_le.mpr G.2.2.2.2.2.1) hS (law_in (k := 3) hL hi (by decide)) dL_law_479 ?_
  refine u_callVF (As := [.int (xs (nI i + (1 : Int32)).toNatClampNeg), .int (xs (nI i + (2 : Int32)).toNatClampNeg), .int (xs (nI i + (3 : Int32)).toNatClampNeg)]) (rv := some (.int r)) C (exC_ok G.1) (c_X7_level l D ids adC tt G.1 e1) lq_572 lq_573 lq_574 lq_45 lq_575 ⟨rfl, rfl⟩ (by refine ⟨by decide +kernel, by decide +kernel, ?_⟩; show _ = some 3; decide +kernel) ⟨Nat.le_of_ble_eq_true rfl, Nat.le_of_ble_eq_true rfl⟩ ⟨Nat.le_of_ble_eq_true rfl, Nat.le_of_ble_eq_true rfl⟩ (by decide) (cE_X7 _) rfl hPC hS G.2.2.1.1 (lawEx G hS) hl.1 (Nat.le_of_ble_eq_true rfl) rfl dL_law_480 (fun H1 locs hPC hk hS => ?_)
  have hPM := law_keepM G hPM hk
  refine lv_aload_n C.1 C.2.1 dL_law_483 rfl (lv_at hl 2 rfl) ?_
  refine lv_aload_n C.1 C.2.1 dL_law_484 rfl (lv_at hl 0 rfl) ?_
  refine lv_iload_n C.1 C.2.1 dL_law_485 rfl (lv_at hl 3 rfl) ?_
  refine lv_iconst (v := (1 : Int32)) C.1 C.2.1 dL_law_486 (by decide) ?_
  refine lv_iadd C.1 C.2.1 dL_law_487 ?_
  refine va_sld C.1 C.2.1 G.2.2.2.2.1 G.2.2.2.2.2.1 (Nat.not_le.mpr G.2.2.2.2.2.1) hS (law_in (k := 1) hL hi (by decide)) dL_law_488 ?_
  refine lv_aload_n C.1 C.2.1 dL_law_489 rfl (lv_at hl 0 rfl) ?_
  refine lv_iload_n C.1 C.2.1 dL_law_490 rfl (lv_at hl 3 rfl) ?_
  refine lv_iconst (v := (2 : Int32)) C.1 C.2.1 dL_law_491 (by decide) ?_
  refine lv_iadd C.1 C.2.1 dL_law_492 ?_
  refine va_sld C.1 C.2.1 G.2.2.2.2.1 G.2.2.2.2.2.1 (Nat.not_le.mpr G.2.2.2.2.2.1) hS (law_in (k := 2) hL hi (by decide)) dL_law_493 ?_
  refine lv_aload_n C.1 C.2.1 dL_law_494 rfl (lv_at hl 0 rfl) ?_
  refine lv_iload_n C.1 C.2.1 dL_law_495 rfl (lv_at hl 3 rfl) ?_
  refine lv_iconst (v := (3 : Int32)) C.1 C.2.1 dL_law_496 (by decide) ?_
  refine lv_iadd C.1 C.2.1 dL_law_497 ?_
  refine va_sld C.1 C.2.1 G.2.2.2.2.1 G.2.2.2.2.2.1 (Nat.not_le.mpr G.2.2.2.2.2.1) hS (law_in (k := 3) hL hi (by decide)) dL_law_498 ?_
  refine u_callVF (As := [.int (xs (nI i + (1 : Int32)).toNatClampNeg), .int (xs (nI i + (2 : Int32)).toNatClampNeg), .int (xs (nI i + (3 : Int32)).toNatClampNeg)]) (rv := some (.int r)) C exM_ok (c_X8_level l D ids adM G.2.1 e2) lq_884 lq_885 lq_886 lq_53 lq_887 ⟨rfl, rfl⟩ (by refine ⟨by decide +kernel, by decide +kernel, ?_⟩; show _ = some 3; decide +kernel) ⟨Nat.le_of_ble_eq_true rfl, Nat.le_of_ble_eq_true rfl⟩ ⟨Nat.le_of_ble_eq_true rfl, Nat.le_of_ble_eq_true rfl⟩ (by decide) (cE_X8 _) rfl hPM hS G.2.2.1.2 (fun _ _ _ => trivial) hl.1 (Nat.le_of_ble_eq_true rfl) rfl dL_law_499 (fun H2 locs hPM hk hS => ?_)
  have hPC := law_keepC G hPC hk
  refine lv_icmp_eq (tgt := 741) C.1 C.2.1 dL_law_502 (by decide) (fun _ => ?_) (fun hc => absurd rfl hc)
  exact hn h1 hm1 _ _ _ hsim1 hPC hPM hS hl
set_option maxRecDepth 100000 in
set_option maxHeartbeats 4000000 in
theorem law_15 {p : Program} {l : Launch} {e : Env} {s : State} {m : MethodId} {below : List Frame} {meth : Method} {c : Code} {D : va_G} {ids : Nat → ClassId} {adC adM tt : Nat → Nat} {b L : Nat} {xs : Nat → Int32} {SIM : Hp → Hp → Prop} (hst : ST_15 SIM) (hL : L ≤ 2048) (C : CX p (s.setDrawn s.drawn) m #[Value.ref b] meth c code 8 ret RL D ids) (G : lawG D ids adC adM tt b L xs s) {i : Nat} (hi : i + 4 ≤ L) (hn : ∀ (h hm : Hp) (H : Heap) (locs : List Loc) (ls : Array Slot), SIM h hm → wp D (cEC ids adC) adC 59 h H → wp D (cEM ids adM) adM 12 hm H → va_S (fun q : Nat => s.heap.size ≤ q) s.heap H locs → lv_has ls 8 [(0, .ref b), (1, .ref (adC 0)), (2, .ref (adM 0)), (3, .int (nI i))] → W p l e room_1 (s.setDrawn s.drawn) m #[Value.ref b] below meth c H locs 71 885 (lw_Z below #[Value.ref b] s) (F0 m 741 ls [])) : ∀ (h hm : Hp) (H : Heap) (locs : List Loc) (ls : Array Slot), SIM h hm → wp D (cEC ids adC) adC 59 h H → wp D (cEM ids adM) adM 12 hm H → va_S (fun q : Nat => s.heap.size ≤ q) s.heap H locs → lv_has ls 8 [(0, .ref b), (1, .ref (adC 0)), (2, .ref (adM 0)), (3, .int (nI i))] → W p l e room_1 (s.setDrawn s.drawn) m #[Value.ref b] below meth c H locs 71 885 (lw_Z below #[Value.ref b] s) (F0 m 507 ls []) := by
  intro h hm H locs ls hsim hPC hPM hS hl
  obtain ⟨r, h1, hm1, e1, e2, hsim1⟩ := hst h hm hsim (xs (nI i + (1 : Int32)).toNatClampNeg) (xs (nI i + (2 : Int32)).toNatClampNeg)
  refine lv_aload_n C.1 C.2.1 dL_law_507 rfl (lv_at hl 1 rfl) ?_
  refine lv_aload_n C.1 C.2.1 dL_law_508 rfl (lv_at hl 0 rfl) ?_
  refine lv_iload_n C.1 C.2.1 dL_law_509 rfl (lv_at hl 3 rfl) ?_
  refine lv_iconst (v := (1 : Int32)) C.1 C.2.1 dL_law_510 (by decide) ?_
  refine lv_iadd C.1 C.2.1 dL_law_511 ?_
  refine va_sld C.1 C.2.1 G.2.2.2.2.1 G.2.2.2.2.2.1 (Nat.not_le.mpr G.2.2.2.2.2.1) hS (law_in (k := 1) hL hi (by decide)) dL_law_512 ?_
  refine lv_aload_n C.1 C.2.1 dL_law_513 rfl (lv_at hl 0 rfl) ?_
  refine lv_iload_n C.1 C.2.1 dL_law_514 rfl (lv_at hl 3 rfl) ?_
  refine lv_iconst (v := (2 : Int32)) C.1 C.2.1 dL_law_515 (by decide) ?_
  refine lv_iadd C.1 C.2.1 dL_law_516 ?_
  refine va_sld C.1 C.2.1 G.2.2.2.2.1 G.2.2.2.2.2.1 (Nat.not_le.mpr G.2.2.2.2.2.1) hS (law_in (k := 2) hL hi (by decide)) dL_law_517 ?_
  refine u_callVF (As := [.int (xs (nI i + (1 : Int32)).toNatClampNeg), .int (xs (nI i + (2 : Int32)).toNatClampNeg)]) (rv := some (.int r)) C (exC_ok G.1) (c_X7_uses l D ids adC tt G.1 e1) lq_580 lq_581 lq_582 lq_45 lq_583 ⟨rfl, rfl⟩ (by refine ⟨by decide +kernel, by decide +kernel, ?_⟩; show _ = some 2; decide +kernel) ⟨Nat.le_of_ble_eq_true rfl, Nat.le_of_ble_eq_true rfl⟩ ⟨Nat.le_of_ble_eq_true rfl, Nat.le_of_ble_eq_true rfl⟩ (by decide) (cE_X7 _) rfl hPC hS G.2.2.1.1 (lawEx G hS) hl.1 (Nat.le_of_ble_eq_true rfl) rfl dL_law_518 (fun H1 locs hPC hk hS => ?_)
  have hPM := law_keepM G hPM hk
  refine lv_aload_n C.1 C.2.1 dL_law_521 rfl (lv_at hl 2 rfl) ?_
  refine lv_aload_n C.1 C.2.1 dL_law_522 rfl (lv_at hl 0 rfl) ?_
  refine lv_iload_n C.1 C.2.1 dL_law_523 rfl (lv_at hl 3 rfl) ?_
  refine lv_iconst (v := (1 : Int32)) C.1 C.2.1 dL_law_524 (by decide) ?_
  refine lv_iadd C.1 C.2.1 dL_law_525 ?_
  refine va_sld C.1 C.2.1 G.2.2.2.2.1 G.2.2.2.2.2.1 (Nat.not_le.mpr G.2.2.2.2.2.1) hS (law_in (k := 1) hL hi (by decide)) dL_law_526 ?_
  refine lv_aload_n C.1 C.2.1 dL_law_527 rfl (lv_at hl 0 rfl) ?_
  refine lv_iload_n C.1 C.2.1 dL_law_528 rfl (lv_at hl 3 rfl) ?_
  refine lv_iconst (v := (2 : Int32)) C.1 C.2.1 dL_law_529 (by decide) ?_
  refine lv_iadd C.1 C.2.1 dL_law_530 ?_
  refine va_sld C.1 C.2.1 G.2.2.2.2.1 G.2.2.2.2.2.1 (Nat.not_le.mpr G.2.2.2.2.2.1) hS (law_in (k := 2) hL hi (by decide)) dL_law_531 ?_
  refine u_callVF (As := [.int (xs (nI i + (1 : Int32)).toNatClampNeg), .int (xs (nI i + (2 : Int32)).toNatClampNeg)]) (rv := some (.int r)) C exM_ok (c_X8_uses l D ids adM G.2.1 e2) lq_888 lq_889 lq_890 lq_53 lq_891 ⟨rfl, rfl⟩ (by refine ⟨by decide +kernel, by decide +kernel, ?_⟩; show _ = some 2; decide +kernel) ⟨Nat.le_of_ble_eq_true rfl, Nat.le_of_ble_eq_true rfl⟩ ⟨Nat.le_of_ble_eq_true rfl, Nat.le_of_ble_eq_true rfl⟩ (by decide) (cE_X8 _) rfl hPM hS G.2.2.1.2 (fun _ _ _ => trivial) hl.1 (Nat.le_of_ble_eq_true rfl) rfl dL_law_532 (fun H2 locs hPM hk hS => ?_)
  have hPC := law_keepC G hPC hk
  refine lv_icmp_eq (tgt := 741) C.1 C.2.1 dL_law_535 (by decide) (fun _ => ?_) (fun hc => absurd rfl hc)
  exact hn h1 hm1 _ _ _ hsim1 hPC hPM hS hl
set_option maxRecDepth 100000 in
set_option maxHeartbeats 4000000 in
theorem law_16 {p : Program} {l : Launch} {e : Env} {s : State} {m : MethodId} {below : List Frame} {meth : Method} {c : Code} {D : va_G} {ids : Nat → ClassId} {adC adM tt : Nat → Nat} {b L : Nat} {xs : Nat → Int32} {SIM : Hp → Hp → Prop} (hst : ST_16 SIM) (hL : L ≤ 2048) (C : CX p (s.setDrawn s.drawn) m #[Value.ref b] meth c code 8 ret RL D ids) (G : lawG D ids adC adM tt b L xs s) {i : Nat} (hi : i + 4 ≤ L) (hn : ∀ (h hm : Hp) (H : Heap) (locs : List Loc) (ls : Array Slot), SIM h hm → wp D (cEC ids adC) adC 59 h H → wp D (cEM ids adM) adM 12 hm H → va_S (fun q : Nat => s.heap.size ≤ q) s.heap H locs → lv_has ls 8 [(0, .ref b), (1, .ref (adC 0)), (2, .ref (adM 0)), (3, .int (nI i))] → W p l e room_1 (s.setDrawn s.drawn) m #[Value.ref b] below meth c H locs 71 885 (lw_Z below #[Value.ref b] s) (F0 m 741 ls [])) : ∀ (h hm : Hp) (H : Heap) (locs : List Loc) (ls : Array Slot), SIM h hm → wp D (cEC ids adC) adC 59 h H → wp D (cEM ids adM) adM 12 hm H → va_S (fun q : Nat => s.heap.size ≤ q) s.heap H locs → lv_has ls 8 [(0, .ref b), (1, .ref (adC 0)), (2, .ref (adM 0)), (3, .int (nI i))] → W p l e room_1 (s.setDrawn s.drawn) m #[Value.ref b] below meth c H locs 71 885 (lw_Z below #[Value.ref b] s) (F0 m 540 ls []) := by
  intro h hm H locs ls hsim hPC hPM hS hl
  obtain ⟨r, h1, hm1, e1, e2, hsim1⟩ := hst h hm hsim (xs (nI i + (1 : Int32)).toNatClampNeg) (xs (nI i + (2 : Int32)).toNatClampNeg)
  refine lv_aload_n C.1 C.2.1 dL_law_540 rfl (lv_at hl 1 rfl) ?_
  refine lv_aload_n C.1 C.2.1 dL_law_541 rfl (lv_at hl 0 rfl) ?_
  refine lv_iload_n C.1 C.2.1 dL_law_542 rfl (lv_at hl 3 rfl) ?_
  refine lv_iconst (v := (1 : Int32)) C.1 C.2.1 dL_law_543 (by decide) ?_
  refine lv_iadd C.1 C.2.1 dL_law_544 ?_
  refine va_sld C.1 C.2.1 G.2.2.2.2.1 G.2.2.2.2.2.1 (Nat.not_le.mpr G.2.2.2.2.2.1) hS (law_in (k := 1) hL hi (by decide)) dL_law_545 ?_
  refine lv_aload_n C.1 C.2.1 dL_law_546 rfl (lv_at hl 0 rfl) ?_
  refine lv_iload_n C.1 C.2.1 dL_law_547 rfl (lv_at hl 3 rfl) ?_
  refine lv_iconst (v := (2 : Int32)) C.1 C.2.1 dL_law_548 (by decide) ?_
  refine lv_iadd C.1 C.2.1 dL_law_549 ?_
  refine va_sld C.1 C.2.1 G.2.2.2.2.1 G.2.2.2.2.2.1 (Nat.not_le.mpr G.2.2.2.2.2.1) hS (law_in (k := 2) hL hi (by decide)) dL_law_550 ?_
  refine u_callVF (As := [.int (xs (nI i + (1 : Int32)).toNatClampNeg), .int (xs (nI i + (2 : Int32)).toNatClampNeg)]) (rv := some (.int r)) C (exC_ok G.1) (c_X7_clash l D ids adC tt G.1 e1) lq_589 lq_590 lq_591 lq_45 lq_592 ⟨rfl, rfl⟩ (by refine ⟨by decide +kernel, by decide +kernel, ?_⟩; show _ = some 2; decide +kernel) ⟨Nat.le_of_ble_eq_true rfl, Nat.le_of_ble_eq_true rfl⟩ ⟨Nat.le_of_ble_eq_true rfl, Nat.le_of_ble_eq_true rfl⟩ (by decide) (cE_X7 _) rfl hPC hS G.2.2.1.1 (lawEx G hS) hl.1 (Nat.le_of_ble_eq_true rfl) rfl dL_law_551 (fun H1 locs hPC hk hS => ?_)
  have hPM := law_keepM G hPM hk
  refine lv_aload_n C.1 C.2.1 dL_law_554 rfl (lv_at hl 2 rfl) ?_
  refine lv_aload_n C.1 C.2.1 dL_law_555 rfl (lv_at hl 0 rfl) ?_
  refine lv_iload_n C.1 C.2.1 dL_law_556 rfl (lv_at hl 3 rfl) ?_
  refine lv_iconst (v := (1 : Int32)) C.1 C.2.1 dL_law_557 (by decide) ?_
  refine lv_iadd C.1 C.2.1 dL_law_558 ?_
  refine va_sld C.1 C.2.1 G.2.2.2.2.1 G.2.2.2.2.2.1 (Nat.not_le.mpr G.2.2.2.2.2.1) hS (law_in (k := 1) hL hi (by decide)) dL_law_559 ?_
  refine lv_aload_n C.1 C.2.1 dL_law_560 rfl (lv_at hl 0 rfl) ?_
  refine lv_iload_n C.1 C.2.1 dL_law_561 rfl (lv_at hl 3 rfl) ?_
  refine lv_iconst (v := (2 : Int32)) C.1 C.2.1 dL_law_562 (by decide) ?_
  refine lv_iadd C.1 C.2.1 dL_law_563 ?_
  refine va_sld C.1 C.2.1 G.2.2.2.2.1 G.2.2.2.2.2.1 (Nat.not_le.mpr G.2.2.2.2.2.1) hS (law_in (k := 2) hL hi (by decide)) dL_law_564 ?_
  refine u_callVF (As := [.int (xs (nI i + (1 : Int32)).toNatClampNeg), .int (xs (nI i + (2 : Int32)).toNatClampNeg)]) (rv := some (.int r)) C exM_ok (c_X8_clash l D ids adM G.2.1 e2) lq_900 lq_901 lq_902 lq_53 lq_903 ⟨rfl, rfl⟩ (by refine ⟨by decide +kernel, by decide +kernel, ?_⟩; show _ = some 2; decide +kernel) ⟨Nat.le_of_ble_eq_true rfl, Nat.le_of_ble_eq_true rfl⟩ ⟨Nat.le_of_ble_eq_true rfl, Nat.le_of_ble_eq_true rfl⟩ (by decide) (cE_X8 _) rfl hPM hS G.2.2.1.2 (fun _ _ _ => trivial) hl.1 (Nat.le_of_ble_eq_true rfl) rfl dL_law_565 (fun H2 locs hPM hk hS => ?_)
  have hPC := law_keepC G hPC hk
  refine lv_icmp_eq (tgt := 741) C.1 C.2.1 dL_law_568 (by decide) (fun _ => ?_) (fun hc => absurd rfl hc)
  exact hn h1 hm1 _ _ _ hsim1 hPC hPM hS hl
set_option maxRecDepth 100000 in
set_option maxHeartbeats 4000000 in
theorem law_17 {p : Program} {l : Launch} {e : Env} {s : State} {m : MethodId} {below : List Frame} {meth : Method} {c : Code} {D : va_G} {ids : Nat → ClassId} {adC adM tt : Nat → Nat} {b L : Nat} {xs : Nat → Int32} {SIM : Hp → Hp → Prop} (hst : ST_17 SIM) (hL : L ≤ 2048) (C : CX p (s.setDrawn s.drawn) m #[Value.ref b] meth c code 8 ret RL D ids) (G : lawG D ids adC adM tt b L xs s) {i : Nat} (hi : i + 4 ≤ L) (hn : ∀ (h hm : Hp) (H : Heap) (locs : List Loc) (ls : Array Slot), SIM h hm → wp D (cEC ids adC) adC 59 h H → wp D (cEM ids adM) adM 12 hm H → va_S (fun q : Nat => s.heap.size ≤ q) s.heap H locs → lv_has ls 8 [(0, .ref b), (1, .ref (adC 0)), (2, .ref (adM 0)), (3, .int (nI i))] → W p l e room_1 (s.setDrawn s.drawn) m #[Value.ref b] below meth c H locs 71 885 (lw_Z below #[Value.ref b] s) (F0 m 741 ls [])) : ∀ (h hm : Hp) (H : Heap) (locs : List Loc) (ls : Array Slot), SIM h hm → wp D (cEC ids adC) adC 59 h H → wp D (cEM ids adM) adM 12 hm H → va_S (fun q : Nat => s.heap.size ≤ q) s.heap H locs → lv_has ls 8 [(0, .ref b), (1, .ref (adC 0)), (2, .ref (adM 0)), (3, .int (nI i))] → W p l e room_1 (s.setDrawn s.drawn) m #[Value.ref b] below meth c H locs 71 885 (lw_Z below #[Value.ref b] s) (F0 m 573 ls []) := by
  intro h hm H locs ls hsim hPC hPM hS hl
  obtain ⟨r, h1, hm1, e1, e2, hsim1⟩ := hst h hm hsim (xs (nI i + (1 : Int32)).toNatClampNeg) (xs (nI i + (2 : Int32)).toNatClampNeg)
  refine lv_aload_n C.1 C.2.1 dL_law_573 rfl (lv_at hl 1 rfl) ?_
  refine lv_aload_n C.1 C.2.1 dL_law_574 rfl (lv_at hl 0 rfl) ?_
  refine lv_iload_n C.1 C.2.1 dL_law_575 rfl (lv_at hl 3 rfl) ?_
  refine lv_iconst (v := (1 : Int32)) C.1 C.2.1 dL_law_576 (by decide) ?_
  refine lv_iadd C.1 C.2.1 dL_law_577 ?_
  refine va_sld C.1 C.2.1 G.2.2.2.2.1 G.2.2.2.2.2.1 (Nat.not_le.mpr G.2.2.2.2.2.1) hS (law_in (k := 1) hL hi (by decide)) dL_law_578 ?_
  refine lv_aload_n C.1 C.2.1 dL_law_579 rfl (lv_at hl 0 rfl) ?_
  refine lv_iload_n C.1 C.2.1 dL_law_580 rfl (lv_at hl 3 rfl) ?_
  refine lv_iconst (v := (2 : Int32)) C.1 C.2.1 dL_law_581 (by decide) ?_
  refine lv_iadd C.1 C.2.1 dL_law_582 ?_
  refine va_sld C.1 C.2.1 G.2.2.2.2.1 G.2.2.2.2.2.1 (Nat.not_le.mpr G.2.2.2.2.2.1) hS (law_in (k := 2) hL hi (by decide)) dL_law_583 ?_
  refine u_callVF (As := [.int (xs (nI i + (1 : Int32)).toNatClampNeg), .int (xs (nI i + (2 : Int32)).toNatClampNeg)]) (rv := some (.int r)) C (exC_ok G.1) (c_X7_hours l D ids adC tt G.1 e1) lq_608 lq_609 lq_610 lq_45 lq_611 ⟨rfl, rfl⟩ (by refine ⟨by decide +kernel, by decide +kernel, ?_⟩; show _ = some 2; decide +kernel) ⟨Nat.le_of_ble_eq_true rfl, Nat.le_of_ble_eq_true rfl⟩ ⟨Nat.le_of_ble_eq_true rfl, Nat.le_of_ble_eq_true rfl⟩ (by decide) (cE_X7 _) rfl hPC hS G.2.2.1.1 (lawEx G hS) hl.1 (Nat.le_of_ble_eq_true rfl) rfl dL_law_584 (fun H1 locs hPC hk hS => ?_)
  have hPM := law_keepM G hPM hk
  refine lv_aload_n C.1 C.2.1 dL_law_587 rfl (lv_at hl 2 rfl) ?_
  refine lv_aload_n C.1 C.2.1 dL_law_588 rfl (lv_at hl 0 rfl) ?_
  refine lv_iload_n C.1 C.2.1 dL_law_589 rfl (lv_at hl 3 rfl) ?_
  refine lv_iconst (v := (1 : Int32)) C.1 C.2.1 dL_law_590 (by decide) ?_
  refine lv_iadd C.1 C.2.1 dL_law_591 ?_
  refine va_sld C.1 C.2.1 G.2.2.2.2.1 G.2.2.2.2.2.1 (Nat.not_le.mpr G.2.2.2.2.2.1) hS (law_in (k := 1) hL hi (by decide)) dL_law_592 ?_
  refine lv_aload_n C.1 C.2.1 dL_law_593 rfl (lv_at hl 0 rfl) ?_
  refine lv_iload_n C.1 C.2.1 dL_law_594 rfl (lv_at hl 3 rfl) ?_
  refine lv_iconst (v := (2 : Int32)) C.1 C.2.1 dL_law_595 (by decide) ?_
  refine lv_iadd C.1 C.2.1 dL_law_596 ?_
  refine va_sld C.1 C.2.1 G.2.2.2.2.1 G.2.2.2.2.2.1 (Nat.not_le.mpr G.2.2.2.2.2.1) hS (law_in (k := 2) hL hi (by decide)) dL_law_597 ?_
  refine u_callVF (As := [.int (xs (nI i + (1 : Int32)).toNatClampNeg), .int (xs (nI i + (2 : Int32)).toNatClampNeg)]) (rv := some (.int r)) C exM_ok (c_X8_hours l D ids adM G.2.1 e2) lq_904 lq_905 lq_906 lq_53 lq_907 ⟨rfl, rfl⟩ (by refine ⟨by decide +kernel, by decide +kernel, ?_⟩; show _ = some 2; decide +kernel) ⟨Nat.le_of_ble_eq_true rfl, Nat.le_of_ble_eq_true rfl⟩ ⟨Nat.le_of_ble_eq_true rfl, Nat.le_of_ble_eq_true rfl⟩ (by decide) (cE_X8 _) rfl hPM hS G.2.2.1.2 (fun _ _ _ => trivial) hl.1 (Nat.le_of_ble_eq_true rfl) rfl dL_law_598 (fun H2 locs hPM hk hS => ?_)
  have hPC := law_keepC G hPC hk
  refine lv_icmp_eq (tgt := 741) C.1 C.2.1 dL_law_601 (by decide) (fun _ => ?_) (fun hc => absurd rfl hc)
  exact hn h1 hm1 _ _ _ hsim1 hPC hPM hS hl
set_option maxRecDepth 100000 in
set_option maxHeartbeats 4000000 in
theorem law_18 {p : Program} {l : Launch} {e : Env} {s : State} {m : MethodId} {below : List Frame} {meth : Method} {c : Code} {D : va_G} {ids : Nat → ClassId} {adC adM tt : Nat → Nat} {b L : Nat} {xs : Nat → Int32} {SIM : Hp → Hp → Prop} (hst : ST_18 SIM) (hL : L ≤ 2048) (C : CX p (s.setDrawn s.drawn) m #[Value.ref b] meth c code 8 ret RL D ids) (G : lawG D ids adC adM tt b L xs s) {i : Nat} (hi : i + 4 ≤ L) (hn : ∀ (h hm : Hp) (H : Heap) (locs : List Loc) (ls : Array Slot), SIM h hm → wp D (cEC ids adC) adC 59 h H → wp D (cEM ids adM) adM 12 hm H → va_S (fun q : Nat => s.heap.size ≤ q) s.heap H locs → lv_has ls 8 [(0, .ref b), (1, .ref (adC 0)), (2, .ref (adM 0)), (3, .int (nI i))] → W p l e room_1 (s.setDrawn s.drawn) m #[Value.ref b] below meth c H locs 71 885 (lw_Z below #[Value.ref b] s) (F0 m 741 ls [])) : ∀ (h hm : Hp) (H : Heap) (locs : List Loc) (ls : Array Slot), SIM h hm → wp D (cEC ids adC) adC 59 h H → wp D (cEM ids adM) adM 12 hm H → va_S (fun q : Nat => s.heap.size ≤ q) s.heap H locs → lv_has ls 8 [(0, .ref b), (1, .ref (adC 0)), (2, .ref (adM 0)), (3, .int (nI i))] → W p l e room_1 (s.setDrawn s.drawn) m #[Value.ref b] below meth c H locs 71 885 (lw_Z below #[Value.ref b] s) (F0 m 606 ls []) := by
  intro h hm H locs ls hsim hPC hPM hS hl
  obtain ⟨r, h1, hm1, e1, e2, hsim1⟩ := hst h hm hsim (xs (nI i + (1 : Int32)).toNatClampNeg)
  refine lv_aload_n C.1 C.2.1 dL_law_606 rfl (lv_at hl 1 rfl) ?_
  refine lv_aload_n C.1 C.2.1 dL_law_607 rfl (lv_at hl 0 rfl) ?_
  refine lv_iload_n C.1 C.2.1 dL_law_608 rfl (lv_at hl 3 rfl) ?_
  refine lv_iconst (v := (1 : Int32)) C.1 C.2.1 dL_law_609 (by decide) ?_
  refine lv_iadd C.1 C.2.1 dL_law_610 ?_
  refine va_sld C.1 C.2.1 G.2.2.2.2.1 G.2.2.2.2.2.1 (Nat.not_le.mpr G.2.2.2.2.2.1) hS (law_in (k := 1) hL hi (by decide)) dL_law_611 ?_
  refine u_callVF (As := [.int (xs (nI i + (1 : Int32)).toNatClampNeg)]) (rv := some (.int r)) C (exC_ok G.1) (c_X7_count l D ids adC tt G.1 e1) lq_615 lq_616 lq_617 lq_45 lq_618 ⟨rfl, rfl⟩ (by refine ⟨by decide +kernel, by decide +kernel, ?_⟩; show _ = some 1; decide +kernel) ⟨Nat.le_of_ble_eq_true rfl, Nat.le_of_ble_eq_true rfl⟩ ⟨Nat.le_of_ble_eq_true rfl, Nat.le_of_ble_eq_true rfl⟩ (by decide) (cE_X7 _) rfl hPC hS G.2.2.1.1 (lawEx G hS) hl.1 (Nat.le_of_ble_eq_true rfl) rfl dL_law_612 (fun H1 locs hPC hk hS => ?_)
  have hPM := law_keepM G hPM hk
  refine lv_aload_n C.1 C.2.1 dL_law_615 rfl (lv_at hl 2 rfl) ?_
  refine lv_aload_n C.1 C.2.1 dL_law_616 rfl (lv_at hl 0 rfl) ?_
  refine lv_iload_n C.1 C.2.1 dL_law_617 rfl (lv_at hl 3 rfl) ?_
  refine lv_iconst (v := (1 : Int32)) C.1 C.2.1 dL_law_618 (by decide) ?_
  refine lv_iadd C.1 C.2.1 dL_law_619 ?_
  refine va_sld C.1 C.2.1 G.2.2.2.2.1 G.2.2.2.2.2.1 (Nat.not_le.mpr G.2.2.2.2.2.1) hS (law_in (k := 1) hL hi (by decide)) dL_law_620 ?_
  refine u_callVF (As := [.int (xs (nI i + (1 : Int32)).toNatClampNeg)]) (rv := some (.int r)) C exM_ok (c_X8_count l D ids adM G.2.1 e2) lq_908 lq_909 lq_910 lq_53 lq_911 ⟨rfl, rfl⟩ (by refine ⟨by decide +kernel, by decide +kernel, ?_⟩; show _ = some 1; decide +kernel) ⟨Nat.le_of_ble_eq_true rfl, Nat.le_of_ble_eq_true rfl⟩ ⟨Nat.le_of_ble_eq_true rfl, Nat.le_of_ble_eq_true rfl⟩ (by decide) (cE_X8 _) rfl hPM hS G.2.2.1.2 (fun _ _ _ => trivial) hl.1 (Nat.le_of_ble_eq_true rfl) rfl dL_law_621 (fun H2 locs hPM hk hS => ?_)
  have hPC := law_keepC G hPC hk
  refine lv_icmp_eq (tgt := 741) C.1 C.2.1 dL_law_624 (by decide) (fun _ => ?_) (fun hc => absurd rfl hc)
  exact hn h1 hm1 _ _ _ hsim1 hPC hPM hS hl
set_option maxRecDepth 100000 in
set_option maxHeartbeats 4000000 in
theorem law_19 {p : Program} {l : Launch} {e : Env} {s : State} {m : MethodId} {below : List Frame} {meth : Method} {c : Code} {D : va_G} {ids : Nat → ClassId} {adC adM tt : Nat → Nat} {b L : Nat} {xs : Nat → Int32} {SIM : Hp → Hp → Prop} (hst : ST_19 SIM) (hL : L ≤ 2048) (C : CX p (s.setDrawn s.drawn) m #[Value.ref b] meth c code 8 ret RL D ids) (G : lawG D ids adC adM tt b L xs s) {i : Nat} (hi : i + 4 ≤ L) (hn : ∀ (h hm : Hp) (H : Heap) (locs : List Loc) (ls : Array Slot), SIM h hm → wp D (cEC ids adC) adC 59 h H → wp D (cEM ids adM) adM 12 hm H → va_S (fun q : Nat => s.heap.size ≤ q) s.heap H locs → lv_has ls 8 [(0, .ref b), (1, .ref (adC 0)), (2, .ref (adM 0)), (3, .int (nI i))] → W p l e room_1 (s.setDrawn s.drawn) m #[Value.ref b] below meth c H locs 71 885 (lw_Z below #[Value.ref b] s) (F0 m 741 ls [])) : ∀ (h hm : Hp) (H : Heap) (locs : List Loc) (ls : Array Slot), SIM h hm → wp D (cEC ids adC) adC 59 h H → wp D (cEM ids adM) adM 12 hm H → va_S (fun q : Nat => s.heap.size ≤ q) s.heap H locs → lv_has ls 8 [(0, .ref b), (1, .ref (adC 0)), (2, .ref (adM 0)), (3, .int (nI i))] → W p l e room_1 (s.setDrawn s.drawn) m #[Value.ref b] below meth c H locs 71 885 (lw_Z below #[Value.ref b] s) (F0 m 629 ls []) := by
  intro h hm H locs ls hsim hPC hPM hS hl
  obtain ⟨r, h1, hm1, e1, e2, hne, hsim1⟩ := hst h hm hsim
  refine lv_aload_n C.1 C.2.1 dL_law_629 rfl (lv_at hl 1 rfl) ?_
  refine u_callVF (As := []) (rv := some (.float r)) C (exC_ok G.1) (c_X7_made l D ids adC tt G.1 e1) lq_632 lq_633 lq_634 lq_45 lq_635 ⟨rfl, rfl⟩ (by refine ⟨by decide +kernel, by decide +kernel, ?_⟩; show _ = some 0; decide +kernel) ⟨Nat.le_of_ble_eq_true rfl, Nat.le_of_ble_eq_true rfl⟩ ⟨Nat.le_of_ble_eq_true rfl, Nat.le_of_ble_eq_true rfl⟩ (by decide) (cE_X7 _) rfl hPC hS G.2.2.1.1 (lawEx G hS) hl.1 (Nat.le_of_ble_eq_true rfl) rfl dL_law_630 (fun H1 locs hPC hk hS => ?_)
  have hPM := law_keepM G hPM hk
  refine lv_f2d C.1 C.2.1 dL_law_633 (f2d_n64 hne) ?_
  refine lv_dstore (lv' := [(4, .double (FP.f2d r)), (0, .ref b), (1, .ref (adC 0)), (2, .ref (adM 0)), (3, .int (nI i))]) C.1 C.2.1 dL_law_634 hl (by decide) rfl (fun ls hl => ?_)
  refine lv_aload_n C.1 C.2.1 dL_law_636 rfl (lv_at hl 3 rfl) ?_
  refine u_callVF (As := []) (rv := some (.float r)) C exM_ok (c_X8_made l D ids adM G.2.1 e2) lq_916 lq_917 lq_918 lq_53 lq_919 ⟨rfl, rfl⟩ (by refine ⟨by decide +kernel, by decide +kernel, ?_⟩; show _ = some 0; decide +kernel) ⟨Nat.le_of_ble_eq_true rfl, Nat.le_of_ble_eq_true rfl⟩ ⟨Nat.le_of_ble_eq_true rfl, Nat.le_of_ble_eq_true rfl⟩ (by decide) (cE_X8 _) rfl hPM hS G.2.2.1.2 (fun _ _ _ => trivial) hl.1 (Nat.le_of_ble_eq_true rfl) rfl dL_law_637 (fun H2 locs hPM hk hS => ?_)
  have hPC := law_keepC G hPC hk
  refine lv_f2d C.1 C.2.1 dL_law_640 (f2d_n64 hne) ?_
  refine lv_dstore (lv' := [(6, .double (FP.f2d r)), (4, .double (FP.f2d r)), (0, .ref b), (1, .ref (adC 0)), (2, .ref (adM 0)), (3, .int (nI i))]) C.1 C.2.1 dL_law_641 hl (by decide) rfl (fun ls hl => ?_)
  refine lv_dload C.1 C.2.1 dL_law_643 (lv_at hl 1 rfl) ?_
  refine lv_dload C.1 C.2.1 dL_law_645 (lv_at hl 0 rfl) ?_
  refine lv_dcmp C.1 C.2.1 dL_law_647 ?_
  rw [dcmp_0 hne]
  refine lv_if_eq (tgt := 669) C.1 C.2.1 dL_law_648 (by decide) (fun _ => ?_) (fun hc => absurd rfl hc)
  refine lv_goto (tgt := 741) C.1 C.2.1 dL_law_669 (by decide) ?_
  exact hn h1 hm1 _ _ _ hsim1 hPC hPM hS (lv_sub hl [2, 3, 4, 5] rfl)
set_option maxRecDepth 100000 in
set_option maxHeartbeats 4000000 in
theorem law_20 {p : Program} {l : Launch} {e : Env} {s : State} {m : MethodId} {below : List Frame} {meth : Method} {c : Code} {D : va_G} {ids : Nat → ClassId} {adC adM tt : Nat → Nat} {b L : Nat} {xs : Nat → Int32} {SIM : Hp → Hp → Prop} (hst : ST_20 SIM) (hL : L ≤ 2048) (C : CX p (s.setDrawn s.drawn) m #[Value.ref b] meth c code 8 ret RL D ids) (G : lawG D ids adC adM tt b L xs s) {i : Nat} (hi : i + 4 ≤ L) (hn : ∀ (h hm : Hp) (H : Heap) (locs : List Loc) (ls : Array Slot), SIM h hm → wp D (cEC ids adC) adC 59 h H → wp D (cEM ids adM) adM 12 hm H → va_S (fun q : Nat => s.heap.size ≤ q) s.heap H locs → lv_has ls 8 [(0, .ref b), (1, .ref (adC 0)), (2, .ref (adM 0)), (3, .int (nI i))] → W p l e room_1 (s.setDrawn s.drawn) m #[Value.ref b] below meth c H locs 71 885 (lw_Z below #[Value.ref b] s) (F0 m 741 ls [])) : ∀ (h hm : Hp) (H : Heap) (locs : List Loc) (ls : Array Slot), SIM h hm → wp D (cEC ids adC) adC 59 h H → wp D (cEM ids adM) adM 12 hm H → va_S (fun q : Nat => s.heap.size ≤ q) s.heap H locs → lv_has ls 8 [(0, .ref b), (1, .ref (adC 0)), (2, .ref (adM 0)), (3, .int (nI i))] → W p l e room_1 (s.setDrawn s.drawn) m #[Value.ref b] below meth c H locs 71 885 (lw_Z below #[Value.ref b] s) (F0 m 672 ls []) := by
  intro h hm H locs ls hsim hPC hPM hS hl
  obtain ⟨r, h1, hm1, e1, e2, hsim1⟩ := hst h hm hsim (xs (nI i + (1 : Int32)).toNatClampNeg)
  refine lv_aload_n C.1 C.2.1 dL_law_672 rfl (lv_at hl 1 rfl) ?_
  refine lv_aload_n C.1 C.2.1 dL_law_673 rfl (lv_at hl 0 rfl) ?_
  refine lv_iload_n C.1 C.2.1 dL_law_674 rfl (lv_at hl 3 rfl) ?_
  refine lv_iconst (v := (1 : Int32)) C.1 C.2.1 dL_law_675 (by decide) ?_
  refine lv_iadd C.1 C.2.1 dL_law_676 ?_
  refine va_sld C.1 C.2.1 G.2.2.2.2.1 G.2.2.2.2.2.1 (Nat.not_le.mpr G.2.2.2.2.2.1) hS (law_in (k := 1) hL hi (by decide)) dL_law_677 ?_
  refine u_callVF (As := [.int (xs (nI i + (1 : Int32)).toNatClampNeg)]) (rv := some (.int r)) C (exC_ok G.1) (c_X7_ifSailed l D ids adC tt G.1 e1) lq_636 lq_637 lq_638 lq_45 lq_639 ⟨rfl, rfl⟩ (by refine ⟨by decide +kernel, by decide +kernel, ?_⟩; show _ = some 1; decide +kernel) ⟨Nat.le_of_ble_eq_true rfl, Nat.le_of_ble_eq_true rfl⟩ ⟨Nat.le_of_ble_eq_true rfl, Nat.le_of_ble_eq_true rfl⟩ (by decide) (cE_X7 _) rfl hPC hS G.2.2.1.1 (lawEx G hS) hl.1 (Nat.le_of_ble_eq_true rfl) rfl dL_law_678 (fun H1 locs hPC hk hS => ?_)
  have hPM := law_keepM G hPM hk
  refine lv_aload_n C.1 C.2.1 dL_law_681 rfl (lv_at hl 2 rfl) ?_
  refine lv_aload_n C.1 C.2.1 dL_law_682 rfl (lv_at hl 0 rfl) ?_
  refine lv_iload_n C.1 C.2.1 dL_law_683 rfl (lv_at hl 3 rfl) ?_
  refine lv_iconst (v := (1 : Int32)) C.1 C.2.1 dL_law_684 (by decide) ?_
  refine lv_iadd C.1 C.2.1 dL_law_685 ?_
  refine va_sld C.1 C.2.1 G.2.2.2.2.1 G.2.2.2.2.2.1 (Nat.not_le.mpr G.2.2.2.2.2.1) hS (law_in (k := 1) hL hi (by decide)) dL_law_686 ?_
  refine u_callVF (As := [.int (xs (nI i + (1 : Int32)).toNatClampNeg)]) (rv := some (.int r)) C exM_ok (c_X8_ifSailed l D ids adM G.2.1 e2) lq_920 lq_921 lq_922 lq_53 lq_923 ⟨rfl, rfl⟩ (by refine ⟨by decide +kernel, by decide +kernel, ?_⟩; show _ = some 1; decide +kernel) ⟨Nat.le_of_ble_eq_true rfl, Nat.le_of_ble_eq_true rfl⟩ ⟨Nat.le_of_ble_eq_true rfl, Nat.le_of_ble_eq_true rfl⟩ (by decide) (cE_X8 _) rfl hPM hS G.2.2.1.2 (fun _ _ _ => trivial) hl.1 (Nat.le_of_ble_eq_true rfl) rfl dL_law_687 (fun H2 locs hPM hk hS => ?_)
  have hPC := law_keepC G hPC hk
  refine lv_icmp_eq (tgt := 741) C.1 C.2.1 dL_law_690 (by decide) (fun _ => ?_) (fun hc => absurd rfl hc)
  exact hn h1 hm1 _ _ _ hsim1 hPC hPM hS hl
set_option maxRecDepth 100000 in
set_option maxHeartbeats 4000000 in
theorem law_21 {p : Program} {l : Launch} {e : Env} {s : State} {m : MethodId} {below : List Frame} {meth : Method} {c : Code} {D : va_G} {ids : Nat → ClassId} {adC adM tt : Nat → Nat} {b L : Nat} {xs : Nat → Int32} {SIM : Hp → Hp → Prop} (hst : ST_21 SIM) (hL : L ≤ 2048) (C : CX p (s.setDrawn s.drawn) m #[Value.ref b] meth c code 8 ret RL D ids) (G : lawG D ids adC adM tt b L xs s) {i : Nat} (hi : i + 4 ≤ L) (hn : ∀ (h hm : Hp) (H : Heap) (locs : List Loc) (ls : Array Slot), SIM h hm → wp D (cEC ids adC) adC 59 h H → wp D (cEM ids adM) adM 12 hm H → va_S (fun q : Nat => s.heap.size ≤ q) s.heap H locs → lv_has ls 8 [(0, .ref b), (1, .ref (adC 0)), (2, .ref (adM 0)), (3, .int (nI i))] → W p l e room_1 (s.setDrawn s.drawn) m #[Value.ref b] below meth c H locs 71 885 (lw_Z below #[Value.ref b] s) (F0 m 741 ls [])) : ∀ (h hm : Hp) (H : Heap) (locs : List Loc) (ls : Array Slot), SIM h hm → wp D (cEC ids adC) adC 59 h H → wp D (cEM ids adM) adM 12 hm H → va_S (fun q : Nat => s.heap.size ≤ q) s.heap H locs → lv_has ls 8 [(0, .ref b), (1, .ref (adC 0)), (2, .ref (adM 0)), (3, .int (nI i))] → W p l e room_1 (s.setDrawn s.drawn) m #[Value.ref b] below meth c H locs 71 885 (lw_Z below #[Value.ref b] s) (F0 m 695 ls []) := by
  intro h hm H locs ls hsim hPC hPM hS hl
  obtain ⟨r, h1, hm1, e1, e2, hsim1⟩ := hst h hm hsim (xs (nI i + (1 : Int32)).toNatClampNeg)
  refine lv_aload_n C.1 C.2.1 dL_law_695 rfl (lv_at hl 1 rfl) ?_
  refine lv_aload_n C.1 C.2.1 dL_law_696 rfl (lv_at hl 0 rfl) ?_
  refine lv_iload_n C.1 C.2.1 dL_law_697 rfl (lv_at hl 3 rfl) ?_
  refine lv_iconst (v := (1 : Int32)) C.1 C.2.1 dL_law_698 (by decide) ?_
  refine lv_iadd C.1 C.2.1 dL_law_699 ?_
  refine va_sld C.1 C.2.1 G.2.2.2.2.1 G.2.2.2.2.2.1 (Nat.not_le.mpr G.2.2.2.2.2.1) hS (law_in (k := 1) hL hi (by decide)) dL_law_700 ?_
  refine u_callVF (As := [.int (xs (nI i + (1 : Int32)).toNatClampNeg)]) (rv := some (.int r)) C (exC_ok G.1) (c_X7_bestHour l D ids adC tt G.1 e1) lq_645 lq_646 lq_647 lq_45 lq_648 ⟨rfl, rfl⟩ (by refine ⟨by decide +kernel, by decide +kernel, ?_⟩; show _ = some 1; decide +kernel) ⟨Nat.le_of_ble_eq_true rfl, Nat.le_of_ble_eq_true rfl⟩ ⟨Nat.le_of_ble_eq_true rfl, Nat.le_of_ble_eq_true rfl⟩ (by decide) (cE_X7 _) rfl hPC hS G.2.2.1.1 (lawEx G hS) hl.1 (Nat.le_of_ble_eq_true rfl) rfl dL_law_701 (fun H1 locs hPC hk hS => ?_)
  have hPM := law_keepM G hPM hk
  refine lv_aload_n C.1 C.2.1 dL_law_704 rfl (lv_at hl 2 rfl) ?_
  refine lv_aload_n C.1 C.2.1 dL_law_705 rfl (lv_at hl 0 rfl) ?_
  refine lv_iload_n C.1 C.2.1 dL_law_706 rfl (lv_at hl 3 rfl) ?_
  refine lv_iconst (v := (1 : Int32)) C.1 C.2.1 dL_law_707 (by decide) ?_
  refine lv_iadd C.1 C.2.1 dL_law_708 ?_
  refine va_sld C.1 C.2.1 G.2.2.2.2.1 G.2.2.2.2.2.1 (Nat.not_le.mpr G.2.2.2.2.2.1) hS (law_in (k := 1) hL hi (by decide)) dL_law_709 ?_
  refine u_callVF (As := [.int (xs (nI i + (1 : Int32)).toNatClampNeg)]) (rv := some (.int r)) C exM_ok (c_X8_bestHour l D ids adM G.2.1 e2) lq_936 lq_937 lq_938 lq_53 lq_939 ⟨rfl, rfl⟩ (by refine ⟨by decide +kernel, by decide +kernel, ?_⟩; show _ = some 1; decide +kernel) ⟨Nat.le_of_ble_eq_true rfl, Nat.le_of_ble_eq_true rfl⟩ ⟨Nat.le_of_ble_eq_true rfl, Nat.le_of_ble_eq_true rfl⟩ (by decide) (cE_X8 _) rfl hPM hS G.2.2.1.2 (fun _ _ _ => trivial) hl.1 (Nat.le_of_ble_eq_true rfl) rfl dL_law_710 (fun H2 locs hPM hk hS => ?_)
  have hPC := law_keepC G hPC hk
  refine lv_icmp_eq (tgt := 741) C.1 C.2.1 dL_law_713 (by decide) (fun _ => ?_) (fun hc => absurd rfl hc)
  exact hn h1 hm1 _ _ _ hsim1 hPC hPM hS hl
set_option maxRecDepth 100000 in
set_option maxHeartbeats 4000000 in
theorem law_22 {p : Program} {l : Launch} {e : Env} {s : State} {m : MethodId} {below : List Frame} {meth : Method} {c : Code} {D : va_G} {ids : Nat → ClassId} {adC adM tt : Nat → Nat} {b L : Nat} {xs : Nat → Int32} {SIM : Hp → Hp → Prop} (hst : ST_22 SIM) (hL : L ≤ 2048) (C : CX p (s.setDrawn s.drawn) m #[Value.ref b] meth c code 8 ret RL D ids) (G : lawG D ids adC adM tt b L xs s) {i : Nat} (hi : i + 4 ≤ L) (hn : ∀ (h hm : Hp) (H : Heap) (locs : List Loc) (ls : Array Slot), SIM h hm → wp D (cEC ids adC) adC 59 h H → wp D (cEM ids adM) adM 12 hm H → va_S (fun q : Nat => s.heap.size ≤ q) s.heap H locs → lv_has ls 8 [(0, .ref b), (1, .ref (adC 0)), (2, .ref (adM 0)), (3, .int (nI i))] → W p l e room_1 (s.setDrawn s.drawn) m #[Value.ref b] below meth c H locs 71 885 (lw_Z below #[Value.ref b] s) (F0 m 741 ls [])) : ∀ (h hm : Hp) (H : Heap) (locs : List Loc) (ls : Array Slot), SIM h hm → wp D (cEC ids adC) adC 59 h H → wp D (cEM ids adM) adM 12 hm H → va_S (fun q : Nat => s.heap.size ≤ q) s.heap H locs → lv_has ls 8 [(0, .ref b), (1, .ref (adC 0)), (2, .ref (adM 0)), (3, .int (nI i))] → W p l e room_1 (s.setDrawn s.drawn) m #[Value.ref b] below meth c H locs 71 885 (lw_Z below #[Value.ref b] s) (F0 m 718 ls []) := by
  intro h hm H locs ls hsim hPC hPM hS hl
  obtain ⟨r, h1, hm1, e1, e2, hsim1⟩ := hst h hm hsim (xs (nI i + (1 : Int32)).toNatClampNeg)
  refine lv_aload_n C.1 C.2.1 dL_law_718 rfl (lv_at hl 1 rfl) ?_
  refine lv_aload_n C.1 C.2.1 dL_law_719 rfl (lv_at hl 0 rfl) ?_
  refine lv_iload_n C.1 C.2.1 dL_law_720 rfl (lv_at hl 3 rfl) ?_
  refine lv_iconst (v := (1 : Int32)) C.1 C.2.1 dL_law_721 (by decide) ?_
  refine lv_iadd C.1 C.2.1 dL_law_722 ?_
  refine va_sld C.1 C.2.1 G.2.2.2.2.1 G.2.2.2.2.2.1 (Nat.not_le.mpr G.2.2.2.2.2.1) hS (law_in (k := 1) hL hi (by decide)) dL_law_723 ?_
  refine u_callVF (As := [.int (xs (nI i + (1 : Int32)).toNatClampNeg)]) (rv := some (.int r)) C (exC_ok G.1) (c_X7_bestPhase l D ids adC tt G.1 e1) lq_649 lq_650 lq_651 lq_45 lq_652 ⟨rfl, rfl⟩ (by refine ⟨by decide +kernel, by decide +kernel, ?_⟩; show _ = some 1; decide +kernel) ⟨Nat.le_of_ble_eq_true rfl, Nat.le_of_ble_eq_true rfl⟩ ⟨Nat.le_of_ble_eq_true rfl, Nat.le_of_ble_eq_true rfl⟩ (by decide) (cE_X7 _) rfl hPC hS G.2.2.1.1 (lawEx G hS) hl.1 (Nat.le_of_ble_eq_true rfl) rfl dL_law_724 (fun H1 locs hPC hk hS => ?_)
  have hPM := law_keepM G hPM hk
  refine lv_aload_n C.1 C.2.1 dL_law_727 rfl (lv_at hl 2 rfl) ?_
  refine lv_aload_n C.1 C.2.1 dL_law_728 rfl (lv_at hl 0 rfl) ?_
  refine lv_iload_n C.1 C.2.1 dL_law_729 rfl (lv_at hl 3 rfl) ?_
  refine lv_iconst (v := (1 : Int32)) C.1 C.2.1 dL_law_730 (by decide) ?_
  refine lv_iadd C.1 C.2.1 dL_law_731 ?_
  refine va_sld C.1 C.2.1 G.2.2.2.2.1 G.2.2.2.2.2.1 (Nat.not_le.mpr G.2.2.2.2.2.1) hS (law_in (k := 1) hL hi (by decide)) dL_law_732 ?_
  refine u_callVF (As := [.int (xs (nI i + (1 : Int32)).toNatClampNeg)]) (rv := some (.int r)) C exM_ok (c_X8_bestPhase l D ids adM G.2.1 e2) lq_940 lq_941 lq_942 lq_53 lq_943 ⟨rfl, rfl⟩ (by refine ⟨by decide +kernel, by decide +kernel, ?_⟩; show _ = some 1; decide +kernel) ⟨Nat.le_of_ble_eq_true rfl, Nat.le_of_ble_eq_true rfl⟩ ⟨Nat.le_of_ble_eq_true rfl, Nat.le_of_ble_eq_true rfl⟩ (by decide) (cE_X8 _) rfl hPM hS G.2.2.1.2 (fun _ _ _ => trivial) hl.1 (Nat.le_of_ble_eq_true rfl) rfl dL_law_733 (fun H2 locs hPM hk hS => ?_)
  have hPC := law_keepC G hPC hk
  refine lv_icmp_eq (tgt := 741) C.1 C.2.1 dL_law_736 (by decide) (fun _ => ?_) (fun hc => absurd rfl hc)
  exact hn h1 hm1 _ _ _ hsim1 hPC hPM hS hl
set_option maxRecDepth 100000 in
set_option maxHeartbeats 4000000 in
theorem law_loop {p : Program} {l : Launch} {e : Env} {s : State} {m : MethodId} {below : List Frame} {meth : Method} {c : Code} {D : va_G} {ids : Nat → ClassId} {adC adM tt : Nat → Nat} {b L : Nat} {xs : Nat → Int32} {SIM : Hp → Hp → Prop} (hst : STEPS SIM) (hlk : meth.locks = false) (hL : L ≤ 2048) (C : CX p (s.setDrawn s.drawn) m #[Value.ref b] meth c code 8 ret RL D ids) (G : lawG D ids adC adM tt b L xs s) : ∀ (n i : Nat), i ≤ L + 4 → L < i + 4 * n → ∀ (h hm : Hp) (H : Heap) (locs : List Loc) (ls : Array Slot), SIM h hm → wp D (cEC ids adC) adC 59 h H → wp D (cEM ids adM) adM 12 hm H → va_S (fun q : Nat => s.heap.size ≤ q) s.heap H locs → lv_has ls 8 [(0, .ref b), (1, .ref (adC 0)), (2, .ref (adM 0)), (3, .int (nI i))] → W p l e room_1 (s.setDrawn s.drawn) m #[Value.ref b] below meth c H locs 71 885 (lw_Z below #[Value.ref b] s) (F0 m 18 ls []) := by
  intro n
  induction n with
  | zero =>
    intro i hi1 hi2 h hm H locs ls hsim hPC hPM hS hl
    refine lv_iload_n C.1 C.2.1 dL_law_18 rfl (lv_at hl 3 rfl) ?_
    refine lv_aload_n C.1 C.2.1 dL_law_19 rfl (lv_at hl 0 rfl) ?_
    refine va_slen C.1 C.2.1 G.2.2.2.2.1 G.2.2.2.2.2.1 (Nat.not_le.mpr G.2.2.2.2.2.1) hS dL_law_20 ?_
    refine lv_iconst (v := (4 : Int32)) C.1 C.2.1 dL_law_21 (by decide) ?_
    refine lv_isub C.1 C.2.1 dL_law_22 ?_
    refine lv_icmp_gt (tgt := 747) C.1 C.2.1 dL_law_23 (by decide) (fun hc => ?_) (fun hc => ?_)
    · refine lv_iconst (v := (1 : Int32)) C.1 C.2.1 dL_law_747 (by decide) ?_
      refine va_forget (fun q hq => hS.2.2 q hq) ?_
      exact lw_ret (Drawn.sameBut.refl s.drawn lw_cs) C.1 C.2.1 C.2.2.2.1 hlk dL_law_748
    · exact absurd ((law_cmp (by omega) hL).mpr (by omega)) hc
  | succ n ih =>
    intro i hi1 hi2 h hm H locs ls hsim hPC hPM hS hl
    refine lv_iload_n C.1 C.2.1 dL_law_18 rfl (lv_at hl 3 rfl) ?_
    refine lv_aload_n C.1 C.2.1 dL_law_19 rfl (lv_at hl 0 rfl) ?_
    refine va_slen C.1 C.2.1 G.2.2.2.2.1 G.2.2.2.2.2.1 (Nat.not_le.mpr G.2.2.2.2.2.1) hS dL_law_20 ?_
    refine lv_iconst (v := (4 : Int32)) C.1 C.2.1 dL_law_21 (by decide) ?_
    refine lv_isub C.1 C.2.1 dL_law_22 ?_
    refine lv_icmp_gt (tgt := 747) C.1 C.2.1 dL_law_23 (by decide) (fun hc => ?_) (fun hc => ?_)
    · refine lv_iconst (v := (1 : Int32)) C.1 C.2.1 dL_law_747 (by decide) ?_
      refine va_forget (fun q hq => hS.2.2 q hq) ?_
      exact lw_ret (Drawn.sameBut.refl s.drawn lw_cs) C.1 C.2.1 C.2.2.2.1 hlk dL_law_748
    · have hi : i + 4 ≤ L := by
        rcases Nat.lt_or_ge L (i + 4) with z | z
        · exact absurd ((law_cmp (by omega) hL).mpr z) hc
        · exact z
      have hn : ∀ (h hm : Hp) (H : Heap) (locs : List Loc) (ls : Array Slot), SIM h hm → wp D (cEC ids adC) adC 59 h H → wp D (cEM ids adM) adM 12 hm H → va_S (fun q : Nat => s.heap.size ≤ q) s.heap H locs → lv_has ls 8 [(0, .ref b), (1, .ref (adC 0)), (2, .ref (adM 0)), (3, .int (nI i))] → W p l e room_1 (s.setDrawn s.drawn) m #[Value.ref b] below meth c H locs 71 885 (lw_Z below #[Value.ref b] s) (F0 m 741 ls []) := by
        intro h hm H locs ls hsim hPC hPM hS hl
        refine lv_iinc (v := nI (i + 4)) (lv' := [(3, .int (nI (i + 4))), (0, .ref b), (1, .ref (adC 0)), (2, .ref (adM 0))]) C.1 C.2.1 dL_law_741 hl (k := 3) rfl (nI_add i 4) (by decide) rfl (fun ls hl => ?_)
        refine lv_goto (tgt := 18) C.1 C.2.1 dL_law_744 (by decide) ?_
        exact ih (i + 4) (by omega) (by omega) h hm H locs ls hsim hPC hPM hS (lv_sub hl [1, 2, 3, 0] rfl)
      refine lv_aload_n C.1 C.2.1 dL_law_26 rfl (lv_at hl 0 rfl) ?_
      refine lv_iload_n C.1 C.2.1 dL_law_27 rfl (lv_at hl 3 rfl) ?_
      refine va_sld C.1 C.2.1 G.2.2.2.2.1 G.2.2.2.2.2.1 (Nat.not_le.mpr G.2.2.2.2.2.1) hS (vp_in_nI (by omega) (by omega)) dL_law_28 ?_
      refine lv_bipush (v := (31 : Int32)) C.1 C.2.1 dL_law_29 (by decide) ?_
      refine lv_iand C.1 C.2.1 dL_law_31 ?_
      generalize (xs (nI i).toNatClampNeg &&& 31) = v
      by_cases hc0 : v = 0
      · refine lv_tableIn (off := 108) (tgt := 140) C.1 C.2.1 dL_law_32 (by rw [hc0]; decide) (by rw [hc0]; decide) (by rw [hc0]; rfl) (by decide) ?_
        exact law_0 (hst.1) hL C G hi hn h hm H locs ls hsim hPC hPM hS hl
      · have zz0 := lv_neT hc0 (show (0 : Int32).toInt = 0 by decide)
        by_cases hc1 : v = 1
        · refine lv_tableIn (off := 151) (tgt := 183) C.1 C.2.1 dL_law_32 (by rw [hc1]; decide) (by rw [hc1]; decide) (by rw [hc1]; rfl) (by decide) ?_
          exact law_1 (hst.2.1) hL C G hi hn h hm H locs ls hsim hPC hPM hS hl
        · have zz1 := lv_neT hc1 (show (1 : Int32).toInt = 1 by decide)
          by_cases hc2 : v = 2
          · refine lv_tableIn (off := 164) (tgt := 196) C.1 C.2.1 dL_law_32 (by rw [hc2]; decide) (by rw [hc2]; decide) (by rw [hc2]; rfl) (by decide) ?_
            exact law_2 (hst.2.2.1) hL C G hi hn h hm H locs ls hsim hPC hPM hS hl
          · have zz2 := lv_neT hc2 (show (2 : Int32).toInt = 2 by decide)
            by_cases hc3 : v = 3
            · refine lv_tableIn (off := 187) (tgt := 219) C.1 C.2.1 dL_law_32 (by rw [hc3]; decide) (by rw [hc3]; decide) (by rw [hc3]; rfl) (by decide) ?_
              exact law_3 (hst.2.2.2.1) hL C G hi hn h hm H locs ls hsim hPC hPM hS hl
            · have zz3 := lv_neT hc3 (show (3 : Int32).toInt = 3 by decide)
              by_cases hc4 : v = 4
              · refine lv_tableIn (off := 220) (tgt := 252) C.1 C.2.1 dL_law_32 (by rw [hc4]; decide) (by rw [hc4]; decide) (by rw [hc4]; rfl) (by decide) ?_
                exact law_4 (hst.2.2.2.2.1) hL C G hi hn h hm H locs ls hsim hPC hPM hS hl
              · have zz4 := lv_neT hc4 (show (4 : Int32).toInt = 4 by decide)
                by_cases hc5 : v = 5
                · refine lv_tableIn (off := 243) (tgt := 275) C.1 C.2.1 dL_law_32 (by rw [hc5]; decide) (by rw [hc5]; decide) (by rw [hc5]; rfl) (by decide) ?_
                  exact law_5 (hst.2.2.2.2.2.1) hL C G hi hn h hm H locs ls hsim hPC hPM hS hl
                · have zz5 := lv_neT hc5 (show (5 : Int32).toInt = 5 by decide)
                  by_cases hc6 : v = 6
                  · refine lv_tableIn (off := 266) (tgt := 298) C.1 C.2.1 dL_law_32 (by rw [hc6]; decide) (by rw [hc6]; decide) (by rw [hc6]; rfl) (by decide) ?_
                    exact law_6 (hst.2.2.2.2.2.2.1) hL C G hi hn h hm H locs ls hsim hPC hPM hS hl
                  · have zz6 := lv_neT hc6 (show (6 : Int32).toInt = 6 by decide)
                    by_cases hc7 : v = 7
                    · refine lv_tableIn (off := 291) (tgt := 323) C.1 C.2.1 dL_law_32 (by rw [hc7]; decide) (by rw [hc7]; decide) (by rw [hc7]; rfl) (by decide) ?_
                      exact law_7 (hst.2.2.2.2.2.2.2.1) hL C G hi hn h hm H locs ls hsim hPC hPM hS hl
                    · have zz7 := lv_neT hc7 (show (7 : Int32).toInt = 7 by decide)
                      by_cases hc8 : v = 8
                      · refine lv_tableIn (off := 304) (tgt := 336) C.1 C.2.1 dL_law_32 (by rw [hc8]; decide) (by rw [hc8]; decide) (by rw [hc8]; rfl) (by decide) ?_
                        exact law_8 (hst.2.2.2.2.2.2.2.2.1) hL C G hi hn h hm H locs ls hsim hPC hPM hS hl
                      · have zz8 := lv_neT hc8 (show (8 : Int32).toInt = 8 by decide)
                        by_cases hc9 : v = 9
                        · refine lv_tableIn (off := 317) (tgt := 349) C.1 C.2.1 dL_law_32 (by rw [hc9]; decide) (by rw [hc9]; decide) (by rw [hc9]; rfl) (by decide) ?_
                          exact law_9 (hst.2.2.2.2.2.2.2.2.2.1) hL C G hi hn h hm H locs ls hsim hPC hPM hS hl
                        · have zz9 := lv_neT hc9 (show (9 : Int32).toInt = 9 by decide)
                          by_cases hc10 : v = 10
                          · refine lv_tableIn (off := 330) (tgt := 362) C.1 C.2.1 dL_law_32 (by rw [hc10]; decide) (by rw [hc10]; decide) (by rw [hc10]; rfl) (by decide) ?_
                            exact law_10 (hst.2.2.2.2.2.2.2.2.2.2.1) hL C G hi hn h hm H locs ls hsim hPC hPM hS hl
                          · have zz10 := lv_neT hc10 (show (10 : Int32).toInt = 10 by decide)
                            by_cases hc11 : v = 11
                            · refine lv_tableIn (off := 343) (tgt := 375) C.1 C.2.1 dL_law_32 (by rw [hc11]; decide) (by rw [hc11]; decide) (by rw [hc11]; rfl) (by decide) ?_
                              exact law_11 (hst.2.2.2.2.2.2.2.2.2.2.2.1) hL C G hi hn h hm H locs ls hsim hPC hPM hS hl
                            · have zz11 := lv_neT hc11 (show (11 : Int32).toInt = 11 by decide)
                              by_cases hc12 : v = 12
                              · refine lv_tableIn (off := 356) (tgt := 388) C.1 C.2.1 dL_law_32 (by rw [hc12]; decide) (by rw [hc12]; decide) (by rw [hc12]; rfl) (by decide) ?_
                                exact law_12 (hst.2.2.2.2.2.2.2.2.2.2.2.2.1) hL C G hi hn h hm H locs ls hsim hPC hPM hS hl
                              · have zz12 := lv_neT hc12 (show (12 : Int32).toInt = 12 by decide)
                                by_cases hc13 : v = 13
                                · refine lv_tableIn (off := 389) (tgt := 421) C.1 C.2.1 dL_law_32 (by rw [hc13]; decide) (by rw [hc13]; decide) (by rw [hc13]; rfl) (by decide) ?_
                                  exact law_13 (hst.2.2.2.2.2.2.2.2.2.2.2.2.2.1) hL C G hi hn h hm H locs ls hsim hPC hPM hS hl
                                · have zz13 := lv_neT hc13 (show (13 : Int32).toInt = 13 by decide)
                                  by_cases hc14 : v = 14
                                  · refine lv_tableIn (off := 432) (tgt := 464) C.1 C.2.1 dL_law_32 (by rw [hc14]; decide) (by rw [hc14]; decide) (by rw [hc14]; rfl) (by decide) ?_
                                    exact law_14 (hst.2.2.2.2.2.2.2.2.2.2.2.2.2.2.1) hL C G hi hn h hm H locs ls hsim hPC hPM hS hl
                                  · have zz14 := lv_neT hc14 (show (14 : Int32).toInt = 14 by decide)
                                    by_cases hc15 : v = 15
                                    · refine lv_tableIn (off := 475) (tgt := 507) C.1 C.2.1 dL_law_32 (by rw [hc15]; decide) (by rw [hc15]; decide) (by rw [hc15]; rfl) (by decide) ?_
                                      exact law_15 (hst.2.2.2.2.2.2.2.2.2.2.2.2.2.2.2.1) hL C G hi hn h hm H locs ls hsim hPC hPM hS hl
                                    · have zz15 := lv_neT hc15 (show (15 : Int32).toInt = 15 by decide)
                                      by_cases hc16 : v = 16
                                      · refine lv_tableIn (off := 508) (tgt := 540) C.1 C.2.1 dL_law_32 (by rw [hc16]; decide) (by rw [hc16]; decide) (by rw [hc16]; rfl) (by decide) ?_
                                        exact law_16 (hst.2.2.2.2.2.2.2.2.2.2.2.2.2.2.2.2.1) hL C G hi hn h hm H locs ls hsim hPC hPM hS hl
                                      · have zz16 := lv_neT hc16 (show (16 : Int32).toInt = 16 by decide)
                                        by_cases hc17 : v = 17
                                        · refine lv_tableIn (off := 541) (tgt := 573) C.1 C.2.1 dL_law_32 (by rw [hc17]; decide) (by rw [hc17]; decide) (by rw [hc17]; rfl) (by decide) ?_
                                          exact law_17 (hst.2.2.2.2.2.2.2.2.2.2.2.2.2.2.2.2.2.1) hL C G hi hn h hm H locs ls hsim hPC hPM hS hl
                                        · have zz17 := lv_neT hc17 (show (17 : Int32).toInt = 17 by decide)
                                          by_cases hc18 : v = 18
                                          · refine lv_tableIn (off := 574) (tgt := 606) C.1 C.2.1 dL_law_32 (by rw [hc18]; decide) (by rw [hc18]; decide) (by rw [hc18]; rfl) (by decide) ?_
                                            exact law_18 (hst.2.2.2.2.2.2.2.2.2.2.2.2.2.2.2.2.2.2.1) hL C G hi hn h hm H locs ls hsim hPC hPM hS hl
                                          · have zz18 := lv_neT hc18 (show (18 : Int32).toInt = 18 by decide)
                                            by_cases hc19 : v = 19
                                            · refine lv_tableIn (off := 597) (tgt := 629) C.1 C.2.1 dL_law_32 (by rw [hc19]; decide) (by rw [hc19]; decide) (by rw [hc19]; rfl) (by decide) ?_
                                              exact law_19 (hst.2.2.2.2.2.2.2.2.2.2.2.2.2.2.2.2.2.2.2.1) hL C G hi hn h hm H locs ls hsim hPC hPM hS hl
                                            · have zz19 := lv_neT hc19 (show (19 : Int32).toInt = 19 by decide)
                                              by_cases hc20 : v = 20
                                              · refine lv_tableIn (off := 640) (tgt := 672) C.1 C.2.1 dL_law_32 (by rw [hc20]; decide) (by rw [hc20]; decide) (by rw [hc20]; rfl) (by decide) ?_
                                                exact law_20 (hst.2.2.2.2.2.2.2.2.2.2.2.2.2.2.2.2.2.2.2.2.1) hL C G hi hn h hm H locs ls hsim hPC hPM hS hl
                                              · have zz20 := lv_neT hc20 (show (20 : Int32).toInt = 20 by decide)
                                                by_cases hc21 : v = 21
                                                · refine lv_tableIn (off := 663) (tgt := 695) C.1 C.2.1 dL_law_32 (by rw [hc21]; decide) (by rw [hc21]; decide) (by rw [hc21]; rfl) (by decide) ?_
                                                  exact law_21 (hst.2.2.2.2.2.2.2.2.2.2.2.2.2.2.2.2.2.2.2.2.2.1) hL C G hi hn h hm H locs ls hsim hPC hPM hS hl
                                                · have zz21 := lv_neT hc21 (show (21 : Int32).toInt = 21 by decide)
                                                  by_cases hc22 : v = 22
                                                  · refine lv_tableIn (off := 686) (tgt := 718) C.1 C.2.1 dL_law_32 (by rw [hc22]; decide) (by rw [hc22]; decide) (by rw [hc22]; rfl) (by decide) ?_
                                                    exact law_22 (hst.2.2.2.2.2.2.2.2.2.2.2.2.2.2.2.2.2.2.2.2.2.2) hL C G hi hn h hm H locs ls hsim hPC hPM hS hl
                                                  · have zz22 := lv_neT hc22 (show (22 : Int32).toInt = 22 by decide)
                                                    refine lv_tableOut (tgt := 741) C.1 C.2.1 dL_law_32 (by omega) (by decide) ?_
                                                    exact hn h hm H locs ls hsim hPC hPM hS hl
