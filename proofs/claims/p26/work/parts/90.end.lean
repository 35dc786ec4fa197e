/-! THE LAW FROM ITS ENTRY -/
theorem arr_prim {args : Array Value} {s : State} {ty : FieldType} (h : (Cond.arrayClass ty).before args s = true) : ∃ cA : ClassId, ArrOfT s cA ty ∧ s.vm.findClass ("[" ++ ty.toString) = some cA := by
  obtain ⟨cA, kA, comp, h1, h2, h3⟩ := Cond.arrayClass_spec h
  exact ⟨cA, fun n z => ⟨fun k h => (by cases h), kA, h2, comp, h3⟩, h1⟩
theorem arr_obj {args : Array Value} {s : State} {CN : String} (h : (Cond.arrayOver (.object CN)).before args s = true) : ∃ cA : ClassId, ArrOfT s cA (.object CN) ∧ va_RA s cA (.object CN) := by
  obtain ⟨comp, cA, kA, h1, h2, h3, h4, h5⟩ := Cond.arrayOver_spec h
  exact ⟨cA, fun n z => ⟨fun k h => (by cases h), kA, h3, comp, h4⟩, kA, comp, h3, h4, h1, h5⟩
theorem law_K {p : Program} {s : State} {m : MethodId} {meth : Method} {c : Code} {b L : Nat} {xs : Nat → Int32} (C0 : lw_At p s m meth c b L xs) : ∃ (D : va_G) (ids : Nat → ClassId), va_K D vwCl (tysOf ids) s := by
  obtain ⟨hx, hb, hr, hml, hown, hts0, hX, hbl, hlocks, hgv⟩ := C0
  have hts : ∀ w ∈ W0, w.before #[Value.ref b] s = true := fun w hw => hts0 w (W0_in hw)
  obtain ⟨c0, i0, k0⟩ := u_known (C := RX0) (T := TX0) (N := 7) (n := 7) hts inX0 (hts0 (.instantiable RX0 7) (List.mem_of_getElem? (i := 113) (by decide +kernel)))
  obtain ⟨c1, i1, k1⟩ := u_known (C := RX1) (T := TX1) (N := 2) (n := 2) hts inX1 (hts0 (.instantiable RX1 2) (List.mem_of_getElem? (i := 143) (by decide +kernel)))
  obtain ⟨c2, i2, k2⟩ := u_known (C := RX2) (T := TX2) (N := 10) (n := 10) hts inX2 (hts0 (.instantiable RX2 10) (List.mem_of_getElem? (i := 34) (by decide +kernel)))
  obtain ⟨c3, i3, k3⟩ := u_known (C := RX3) (T := TX3) (N := 11) (n := 11) hts inX3 (hts0 (.instantiable RX3 11) (List.mem_of_getElem? (i := 185) (by decide +kernel)))
  obtain ⟨c4, i4, k4⟩ := u_known (C := RX4) (T := TX4) (N := 3) (n := 3) hts inX4 (hts0 (.instantiable RX4 3) (List.mem_of_getElem? (i := 178) (by decide +kernel)))
  obtain ⟨c5, i5, k5⟩ := u_known (C := RX5) (T := TX5) (N := 7) (n := 7) hts inX5 (hts0 (.instantiable RX5 7) (List.mem_of_getElem? (i := 27) (by decide +kernel)))
  obtain ⟨c6, i6, k6⟩ := u_known (C := RX6) (T := TX6) (N := 3) (n := 3) hts inX6 (hts0 (.instantiable RX6 3) (List.mem_of_getElem? (i := 150) (by decide +kernel)))
  obtain ⟨c7, i7, k7⟩ := u_known (C := RX7) (T := TX7) (N := 9) (n := 9) hts inX7 (hts0 (.instantiable RX7 9) (List.mem_of_getElem? (i := 19) (by decide +kernel)))
  obtain ⟨a0, p0, f0⟩ := arr_prim (hts0 (.arrayClass .char) (List.mem_of_getElem? (i := 141) (by decide +kernel)))
  obtain ⟨a1, p1, f1⟩ := arr_prim (hts0 (.arrayClass .int) (List.mem_of_getElem? (i := 168) (by decide +kernel)))
  obtain ⟨a2, p2, f2⟩ := arr_obj (CN := RX2) (hts0 (.arrayOver (.object RX2)) (List.mem_of_getElem? (i := 33) (by decide +kernel)))
  obtain ⟨a3, p3, f3⟩ := arr_obj (CN := RX3) (hts0 (.arrayOver (.object RX3)) (List.mem_of_getElem? (i := 184) (by decide +kernel)))
  obtain ⟨a4, p4, f4⟩ := arr_obj (CN := RX5) (hts0 (.arrayOver (.object RX5)) (List.mem_of_getElem? (i := 111) (by decide +kernel)))
  obtain ⟨a5, p5, f5⟩ := arr_obj (CN := RX6) (hts0 (.arrayOver (.object RX6)) (List.mem_of_getElem? (i := 149) (by decide +kernel)))
  refine ⟨(fun k => [c0, c1, c2, c3, c4, c5, c6, c7].getD k 0, fun k => [i0, i1, i2, i3, i4, i5, i6, i7].getD k (fun _ => 0)), fun k => [a0, a1, a2, a3, a4, a5].getD k 0, ?_, ?_⟩
  · intro k q hq
    match k, hq with
    | 0, hq => cases hq; exact k0
    | 1, hq => cases hq; exact k1
    | 2, hq => cases hq; exact k2
    | 3, hq => cases hq; exact k3
    | 4, hq => cases hq; exact k4
    | 5, hq => cases hq; exact k5
    | 6, hq => cases hq; exact k6
    | 7, hq => cases hq; exact k7
    | k + 8, hq => cases hq
  · intro k q hq
    match k, hq with
    | 0, hq => cases hq; exact ⟨p0, f0⟩
    | 1, hq => cases hq; exact ⟨p1, f1⟩
    | 2, hq => cases hq; exact ⟨p2, f2⟩
    | 3, hq => cases hq; exact ⟨p3, f3⟩
    | 4, hq => cases hq; exact ⟨p4, f4⟩
    | 5, hq => cases hq; exact ⟨p5, f5⟩
    | k + 6, hq => cases hq
theorem law_N {p : Program} {s : State} {m : MethodId} {meth : Method} {c : Code} {b L : Nat} {xs : Nat → Int32} (C0 : lw_At p s m meth c b L xs) : nestT s ∧ NX s := by
  obtain ⟨hx, hb, hr, hml, hown, hts0, hX, hbl, hlocks, hgv⟩ := C0
  exact ⟨⟨va_Nw.of rfl (hts0 (.methodLinkNest RX4 39 yX7_levelAt RX7) (List.mem_of_getElem? (i := 331) (by decide +kernel))),
    va_Nw.of rfl (hts0 (.methodLinkNest RX6 31 yX7_levelAt RX7) (List.mem_of_getElem? (i := 325) (by decide +kernel)))⟩,
   ⟨va_Nw.of rfl (hts0 (.methodLinkNest RX7 11 yX5_init RX7) (List.mem_of_getElem? (i := 28) (by decide +kernel))),
    va_Nw.of rfl (hts0 (.methodLinkNest RX7 33 yX0_init RX7) (List.mem_of_getElem? (i := 114) (by decide +kernel))),
    va_Nw.of rfl (hts0 (.methodLinkNest RX7 43 yX1_init RX7) (List.mem_of_getElem? (i := 144) (by decide +kernel))),
    va_Nw.of rfl (hts0 (.methodLinkNest RX7 50 yX4_init RX7) (List.mem_of_getElem? (i := 179) (by decide +kernel))),
    va_Nw.of rfl (hts0 (.methodLinkNest RX1 11 yX6_init RX7) (List.mem_of_getElem? (i := 151) (by decide +kernel))),
    va_Nw.of rfl (hts0 (.methodLinkNest RX3 11 yX6_init RX7) (List.mem_of_getElem? (i := 191) (by decide +kernel))),
    va_Nw.of rfl (hts0 (.methodLinkNest RX4 11 yX3_init RX7) (List.mem_of_getElem? (i := 186) (by decide +kernel)))⟩,
   va_AO.of (hts0 (.arrayOver (.object RX2)) (List.mem_of_getElem? (i := 33) (by decide +kernel))),
   va_AO.of (hts0 (.arrayOver (.object RX3)) (List.mem_of_getElem? (i := 184) (by decide +kernel))),
   va_AO.of (hts0 (.arrayOver (.object RX5)) (List.mem_of_getElem? (i := 111) (by decide +kernel))),
   va_AO.of (hts0 (.arrayOver (.object RX6)) (List.mem_of_getElem? (i := 149) (by decide +kernel)))⟩
theorem law_T {p : Program} {s : State} {m : MethodId} {meth : Method} {c : Code} {b L : Nat} {xs : Nat → Int32} (C0 : lw_At p s m meth c b L xs) {nm : String} (f : Nat → Int32) (N : Nat) (hN : N < 2 ^ 31) (hl : Cond.laysStatic RX7 nm "[I" ∈ lw_tbl) (h1 : Cond.arrayOf (.static RX7 nm "[I") .int ∈ flatC (Jvm.Cond.and given_1 narrow_1)) (h2 : Cond.eq (.length (.static RX7 nm "[I")) (.int (Int32.ofNat N)) ∈ flatC (Jvm.Cond.and given_1 narrow_1)) (h3 : ∀ j, j < N → Cond.eq (.elem (.static RX7 nm "[I") (.int (Int32.ofNat j))) (.int (f j)) ∈ flatC (Jvm.Cond.and given_1 narrow_1)) : ∃ t : Nat, tabG (fun q : Nat => s.heap.size ≤ q) RX7 nm t N f s s.heap := by
  obtain ⟨hx, hb, hr, hml, hown, hts0, hX, hbl, hlocks, hgv⟩ := C0
  have hflat := flat_of_before _ hgv
  have hA : ∀ a : Nat, a < s.heap.size → ¬ (fun q : Nat => s.heap.size ≤ q) a := fun a ha => Nat.not_le.mpr ha
  obtain ⟨t, hv, hT⟩ := va_Tof (f := fun j => Value.int (f j)) (A := fun q : Nat => s.heap.size ≤ q) hN (hflat _ h1) (va_eqt (hflat _ h2)) (fun j hj => va_eqt (hflat _ (h3 j hj))) hA
  exact ⟨t, va_Zof (hts0 _ hl) (hts0 (.initialized RX7) (List.mem_of_getElem? (i := 8) (by decide +kernel))) hv hA, hT⟩
set_option maxRecDepth 100000 in
set_option maxHeartbeats 4000000 in
theorem whole_start {p : Program} {e : Env} {s : State} {m : MethodId} {below : List Frame} {meth : Method} {c : Code} (l : Launch) (_ : l.flags = flags0) {b L : Nat} {xs : Nat → Int32} (hL : L ≤ 260) (C0 : lw_At p s m meth c b L xs) : W p l e room_1 s m #[Value.ref b] below meth c s.heap [] 0 0 (lw_Z below #[Value.ref b] s) (entryFrame m ([Value.ref b] : List Value).toArray 17) := by
  obtain ⟨D, ids, hK⟩ := law_K C0
  obtain ⟨hN, hNX⟩ := law_N C0
  obtain ⟨t0, hT0⟩ := law_T C0 (nm := "LEAST_OF_CAPTAIN") sL0 4 (by decide) (List.mem_of_getElem? (i := 283) (by decide +kernel)) (by decide +kernel) (by decide +kernel) (by decide +kernel)
  obtain ⟨t1, hT1⟩ := law_T C0 (nm := "GREATEST_OF_CAPTAIN") sG0 4 (by decide) (List.mem_of_getElem? (i := 285) (by decide +kernel)) (by decide +kernel) (by decide +kernel) (by decide +kernel)
  obtain ⟨t2, hT2⟩ := law_T C0 (nm := "LEAST_OF_SETTING") sL1 2 (by decide) (List.mem_of_getElem? (i := 546) (by decide +kernel)) (by decide +kernel) (by decide +kernel) (by decide +kernel)
  obtain ⟨t3, hT3⟩ := law_T C0 (nm := "GREATEST_OF_SETTING") sG1 2 (by decide) (List.mem_of_getElem? (i := 548) (by decide +kernel)) (by decide +kernel) (by decide +kernel) (by decide +kernel)
  obtain ⟨hx, hb, hr, hml, hown, hts0, hX, hbl, hlocks, hgv⟩ := C0
  have C : CX p s m #[Value.ref b] meth c code 17 ret RL D ids := ⟨hx, hb, hml, hr, hlocks, hown, fun w hw => hts0 w (W0_in hw), hK⟩
  have hNX2 : NX s := hNX
  have hA : ∀ q : Nat, s.heap.size ≤ q → (fun q : Nat => s.heap.size ≤ q) q := fun _ h => h
  have hS : va_S (fun q : Nat => s.heap.size ≤ q) s.heap s.heap [] := va_S.rf
  have hP : va_P D vwCl ([] ++ []) s.heap := fun k q h => by simp at h
  have hD : va_D (fun q : Nat => s.heap.size ≤ q) ([] ++ []) := ⟨fun i j p q h => by simp at h, fun k q h => by simp at h⟩
  have hl := lv_entry ([.ref b]) (n := 17) (Nat.le_of_ble_eq_true rfl)
  rw [lg_entry_eq]
  generalize (lg_sl ([.ref b]) ++ List.replicate (17 - (lg_sl ([.ref b])).length) Slot.unset).toArray = ls at hl ⊢
  have hl : lv_has ls 17 [(0, .ref b)] := hl
  refine kp_new C (Wp := []) (L := []) hP hD hS hA (ci := 7) rfl inX7 tyX7 tyX7_ok lq_18 lq_19 lq_8 (fs := blX7) blX7_ok (Nat.le_of_ble_eq_true rfl) (Nat.le_of_ble_eq_true rfl) dL_law_0 (fun q0 H hP hD hS => ?_)
  refine W.widen (k := 1) (n := 9) (Nat.le_of_ble_eq_true rfl) (Nat.le_of_ble_eq_true rfl) ?_
  refine lv_dup C.1 C.2.1 dL_law_3 rfl ?_
  have hP : va_P D vwCl ([] ++ [(q0, .inr (7, blX7))]) H := hP
  have hD : va_D (fun q : Nat => s.heap.size ≤ q) ([] ++ [(q0, .inr (7, blX7))]) := hD
  refine kp_callI (As := []) C hNX2 (k_X7 l D ids [] q0 H.size) lq_20 lq_21 lq_8 lq_22 rfl ⟨rfl, rfl⟩ (by refine ⟨by decide +kernel, by decide +kernel, ?_⟩; show _ = some 0; decide +kernel) ⟨Nat.le_of_ble_eq_true rfl, Nat.le_of_ble_eq_true rfl⟩ ⟨Nat.le_of_ble_eq_true rfl, Nat.le_of_ble_eq_true rfl⟩ hP hD hS hA hl.1 (Nat.le_of_ble_eq_true rfl) rfl dL_law_4 (fun u H locs hP hD hS => ?_)
  refine W.widen (k := 59) (n := 518) (Nat.le_of_ble_eq_true rfl) (Nat.le_of_ble_eq_true rfl) ?_
  obtain ⟨ad, had0, hPC, hAC, hgC⟩ : ∃ ad : Nat → Nat, ad 0 = q0 ∧ wp D (cEC ids ad) ad 59 hC0 H ∧ adOk ad 59 ∧ ∀ k, k < 59 → s.heap.size ≤ ad k := ⟨adC0 q0 u, conv_C (A := fun q : Nat => s.heap.size ≤ q) hP hD⟩
  rw [← had0]
  refine lv_astore_n (lv' := [(1, .ref (ad 0)), (0, .ref b)]) C.1 C.2.1 dL_law_7 rfl hl (by decide) rfl (fun ls hl => ?_)
  have hinC : ∀ q, inW ad 59 q → s.heap.size ≤ q := fun q hq => by obtain ⟨k, hk, rfl⟩ := hq; exact hgC k hk
  refine lv_iconst (v := (0 : Int32)) C.1 C.2.1 dL_law_8 (by decide) ?_
  refine lv_istore_n (lv' := [(2, .int (0 : Int32)), (1, .ref (ad 0)), (0, .ref b)]) C.1 C.2.1 dL_law_9 rfl hl (by decide) rfl (fun ls hl => ?_)
  exact law_loop (tt := fun k => [t0, t1, t2, t3].getD k 0) hL C ⟨hAC, hinC, hX, hbl, hN, hT0, hT1, hT2, hT3⟩ hlocks 24 0 (by decide) hC0 rI 0 0 _ _ H locs ls INV_0 (Nat.le_refl 0) (Nat.le_refl _) (Nat.le_refl _) hPC hS (lv_sub hl [2, 1, 0] rfl)
-- ===== YOUR PART ENDS =====
set_option maxHeartbeats 4000000 in
theorem lw_walk (l : Launch) (hflags : l.flags = flags0) (b : Addr) (xs : List Int32) : MetFree l x (headSpec (Jvm.Cond.code x code maxLocals ret :: tables_1) room_1) (lw_P b xs) (fun _ _ _ _ _ => True) lw_Q := by
  refine MetFree.of_bodyS (code := code) (maxLocals := maxLocals) (ret := ret) (by decide) ?_ ?_
  · intro args s m h hn
    obtain ⟨meth, c, h1, h2, h3, h4, h5, h6, -, -⟩ := Cond.code_spec hn (atoms_spec (ws := Jvm.Cond.code x code maxLocals ret :: tables_1) h _ List.mem_cons_self)
    exact ⟨meth, c, h1, h2, h3, h4, h5, h6⟩
  · intro p e s m args below meth c s₁ B hml0 hP _
    obtain ⟨rfl, hx, hbd, hgv⟩ := hP
    obtain ⟨scr, harrAt, hlist, hof, hsmall⟩ := hx
    obtain ⟨hcb, hkn, -, -⟩ := State.arrayAt?_spec harrAt
    have hown : s.vm.findClass R_law = some m.cls := findClass_of_methodNamed B.named
    have hts0 : ∀ c ∈ (Jvm.Cond.code x code maxLocals ret :: tables_1), c.before #[Value.ref b] s = true := atoms_spec (ws := Jvm.Cond.code x code maxLocals ret :: tables_1) B.pre
    have hts : ∀ w ∈ lw_tbl, w.before #[Value.ref b] s = true := k2_hts_sels lw_privs (fun w hw => hts0 w (List.mem_cons_of_mem _ hw)) lw_privs_ok
    have hml : c.maxLocals = 17 := B.maxLocals_eq (hts0 _ List.mem_cons_self)
    have X₀ : Stand p l e room_1 s m #[Value.ref b] below meth c s₁ [] 0 0 := Stand.of_body B
    have hh0 : s₁.heap = s.heap := by rw [B.state]; rfl
    have hsz : scr.slots.size = xs.length := by rw [← Array.length_toList, hlist, List.length_map]
    have hval : ∀ j : Nat, j < xs.length → scr.slots[j]? = some (.int (xs.getD j 0)) := fun j hj => by
      rw [← Array.getElem?_toList, hlist]
      simp [hj]
    have hbl : b < s.heap.size := (Array.getElem?_eq_some_iff.mp hcb).1
    have hX : va_X b xs.length (fun j => xs.getD j 0) s s.heap := ⟨scr, hcb, hof, hkn, hsz, hval⟩
    have K : W p l e room_1 s m #[Value.ref b] below meth c s₁.heap [] 0 0 (lw_Z below #[Value.ref b] s) (entryFrame m ([Value.ref b] : List Value).toArray 17) := by
      rw [hh0]
      exact whole_start l hflags hbd ⟨B.exec, B.bytes, B.returns, hml, hown, hts, hX, hbl, B.notSynchronized, hgv⟩
    obtain ⟨t, a1, o, b1, b2, b3⟩ := K s₁ rfl X₀
    exact ⟨t, o, a1, b1, b2, b3⟩
theorem lw_pre_spec {args : Array Value} {s : State} (h : (Jvm.Cond.and given_1 narrow_1).before args s = true) (hr : rest_1_c.before args s = true) : ∃ (b : Addr) (xs : List Int32), lw_P b xs args s := by
  have hs := flat_of_before _ h
  have hq := flat_of_before _ hr
  have hc : (Cond.count 1).before args s = true := hs _ (by decide +kernel)
  have harr : (Cond.arrayOf (.arg 0) .int).before args s = true := hs _ (by decide +kernel)
  have hle : (Cond.le (.length (.arg 0)) (.int 260)).before args s = true := hs _ (by decide +kernel)
  have hlen : (Cond.isInt (.length (.arg 0))).before args s = true := hq _ (by decide +kernel)
  have hall : (Cond.all (.arg 0) (.isInt (.elem (.arg 0) (.index 0)))).before args s = true := hq _ (by decide +kernel)
  obtain ⟨b, xs, hb, hx⟩ := State.ints_of_pre rfl harr hlen hall
  have hsm : xs.length < 2 ^ 31 := hx.choose_spec.2.2.2
  have hev : (Term.length (.arg 0)).eval args s none [] s = some (.int xs.length.toInt32) := hx.length_eval hb
  have hv := Cond.le_ints hev (show (Term.int 260).eval args s none [] s = some (.int 260) from rfl)
  have hd : xs.length.toInt32 ≤ 260 := by
    simpa [Cond.before, Cond.holds, hv] using hle
  have hN : xs.length ≤ 260 := (Int32.ofNat_le_ofNat hsm (by decide)).mp (show Int32.ofNat xs.length ≤ Int32.ofNat 260 from hd)
  exact ⟨b, xs, Cond.one_arg hc (show args[0]? = some (.ref b) from hb), hx, hN, h⟩
theorem lw_comes (l : Launch) (hflags : l.flags = flags0) : Comes l x (Jvm.Cond.code x code maxLocals ret :: tables_1) room_1 (fun tb e args s => Calls_1 tb e args s ∧ rest_1 tb e args s ∧ Pre_1 tb e args s)
    (fun _ _ args s o t => lw_Q args s o t) := by
  intro p e ha hc hk s m args below hf hfit hheap happ hpre
  obtain ⟨b, xs, hP⟩ := lw_pre_spec hpre.2.2 hpre.2.1
  obtain ⟨k, o, h1, h2, h3, hQ⟩ := lw_walk l hflags b xs p e ha hc hk s m args below hf ((Spec.applies_iff_loose hf).mp happ).1 hP trivial
  exact ⟨k, o, h1, h2, h3, hQ⟩
theorem lw_frame {s t : State} {o : Outcome} {args : Array Value} (h : Framed s o t [] 600000 7302250) :
    Framed s o t (fieldLocs frame_1_writes args s ++ arrayLocs frame_1_arrays args s ++ staticLocs frame_1_statics s) 600000 7302250 := h
theorem lw_limb (L : Cond) (hL : ∀ (args : Array Value) (s t : State), L.after args s (.returned (some (.int 1))) t = true) :
    ArmFor flags0 classFile x code maxLocals ret World_1 tables_1 room_1 Calls_1 rest_1 Pre_1
      (fun tb e a s o t => postC L tb e a s o t ∧ Framed s o t (fieldLocs frame_1_writes a s ++ arrayLocs frame_1_arrays a s ++ staticLocs frame_1_statics s) 600000 7302250) := by
  intro l hflags _ _ p e ha hc hk s m args below hf hfit hheap happ hpre
  obtain ⟨k, o, h1, h2, h3, rfl, hF⟩ := lw_comes l hflags p e ha hc hk s m args below hf hfit hheap happ hpre
  exact ⟨k, _, h1, h2, h3, hL args s _, lw_frame hF⟩
theorem i_vc : Claimed_1_1 ∧ Claimed_1_2 := ⟨lw_limb limb_1_1 (fun args s t => by simp [limb_1_1, Cond.after, Cond.holds, Cond.value]), lw_limb limb_1_2 (fun args s t => Cond.after_iff.mpr (by
  first | (rw [show limb_1_2 = Cond.eq .result (.int 1) from rfl, Cond.eq_ints (x := 1) (y := 1) rfl rfl]; simp; done) | (simp [limb_1_2, Cond.value, Term.eval]; done)))⟩

