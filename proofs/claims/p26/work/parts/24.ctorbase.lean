/-! CONSTRUCTORS: the world is Wp ++ L, L what this object has so far (itself first) -/
theorem pfx_get {α : Type} {W L : List α} {j : Nat} {x : α} (h : L[j]? = some x) : (W ++ L)[W.length + j]? = some x := by
  rw [List.getElem?_append_right (Nat.le_add_right _ _), Nat.add_sub_cancel_left]
  exact h
theorem pfx_set {α : Type} {W L : List α} {j : Nat} {x : α} : (W ++ L).set (W.length + j) x = W ++ L.set j x := by
  rw [List.set_append_right _ _ (Nat.le_add_right _ _), Nat.add_sub_cancel_left]
theorem ra_eq {U : State} {cA cB : ClassId} {ty : FieldType} (h1 : va_RA U cA ty) (h2 : va_RA U cB ty) : cA = cB := by
  cases ty with
  | object C =>
    obtain ⟨_, _, _, _, _, e1⟩ := h1
    obtain ⟨_, _, _, _, _, e2⟩ := h2
    exact Option.some.inj (e1.symm.trans e2)
  | _ => exact Option.some.inj ((show U.vm.findClass _ = some cA from h1).symm.trans (show U.vm.findClass _ = some cB from h2))
/-- the links between nest mates that constructors use, and the classes of rows of objects -/
def NX (U : State) : Prop := (va_Nw (.methodLinkNest RX7 11 yX5_init RX7) U ∧ va_Nw (.methodLinkNest RX7 33 yX0_init RX7) U ∧ va_Nw (.methodLinkNest RX7 43 yX1_init RX7) U ∧ va_Nw (.methodLinkNest RX7 50 yX4_init RX7) U ∧ va_Nw (.methodLinkNest RX1 11 yX6_init RX7) U ∧ va_Nw (.methodLinkNest RX3 11 yX6_init RX7) U ∧ va_Nw (.methodLinkNest RX4 11 yX3_init RX7) U) ∧ va_AO RX2 U ∧ va_AO RX3 U ∧ va_AO RX5 U ∧ va_AO RX6 U
theorem NX_w {s U : State} (hW : s.WarmedH U.vm) (h : NX s) : NX U := by
  obtain ⟨⟨n0, n1, n2, n3, n4, n5, n6⟩, a0, a1, a2, a3⟩ := h
  exact ⟨⟨va_Nw.warmM hW n0, va_Nw.warmM hW n1, va_Nw.warmM hW n2, va_Nw.warmM hW n3, va_Nw.warmM hW n4, va_Nw.warmM hW n5, va_Nw.warmM hW n6⟩, va_AO.moved hW.alike a0, va_AO.moved hW.alike a1, va_AO.moved hW.alike a2, va_AO.moved hW.alike a3⟩
theorem NX_c {U : State} {g : JFrame} {mk : MethodId} {a : Array Value} (h : NX U) : NX (U.calling g mk a) := by
  obtain ⟨⟨n0, n1, n2, n3, n4, n5, n6⟩, a0, a1, a2, a3⟩ := h
  exact ⟨⟨va_Nw.same (u := U) (U := U.calling g mk a) rfl rfl n0, va_Nw.same (u := U) (U := U.calling g mk a) rfl rfl n1, va_Nw.same (u := U) (U := U.calling g mk a) rfl rfl n2, va_Nw.same (u := U) (U := U.calling g mk a) rfl rfl n3, va_Nw.same (u := U) (U := U.calling g mk a) rfl rfl n4, va_Nw.same (u := U) (U := U.calling g mk a) rfl rfl n5, va_Nw.same (u := U) (U := U.calling g mk a) rfl rfl n6⟩, va_AO.moved (u := U) (U := U.calling g mk a) (Vm.Alike.refl U.vm) a0, va_AO.moved (u := U) (U := U.calling g mk a) (Vm.Alike.refl U.vm) a1, va_AO.moved (u := U) (U := U.calling g mk a) (Vm.Alike.refl U.vm) a2, va_AO.moved (u := U) (U := U.calling g mk a) (Vm.Alike.refl U.vm) a3⟩
/-- a constructor's start and end -/
def KB (D : va_G) (ids : Nat → ClassId) (ws : va_W) (sz : Nat) (U : State) : Prop := U.heap.size = sz ∧ va_P D vwCl ws U.heap ∧ va_K D vwCl (tysOf ids) U ∧ va_D (fun _ => True) ws ∧ NX U
def KQ (D : va_G) (G : (Nat → Nat) → va_W) (A : Nat → Prop) : Array Value → State → Outcome → State → Prop := fun _ st oc t => oc = .returned none ∧ (∃ u : Nat → Nat, va_P D vwCl (G u) t.heap ∧ va_D A (G u)) ∧ va_F A st t
section KROWS
variable {p : Program} {l : Launch} {e : Env} {R : Room} {s : State} {m : MethodId} {args : Array Value} {below : List Frame} {meth : Method} {c : Code} {H : Heap} {locs : List Loc} {cells slots : Nat} {Q : State → Prop}
variable {cc : ByteArray} {nL : Nat} {ret : Option FieldType} {own : String} {pc : Nat} {ls : Array Slot} {rest st0 : List Value} {D : va_G} {ids : Nat → ClassId} {Wp L : va_W} {A : Nat → Prop}
theorem kp_get (C : CX p s m args meth c cc nL ret own D ids) (hP : va_P D vwCl (Wp ++ L) H) {ci N index a : Nat} {fs : List Value} {RC : String} {TC : u_T} (j : Nat) (he : L[j]? = some (a, .inr (ci, fs))) (hc : vwCl[ci]? = some (RC, TC, N)) (hin : ∀ w ∈ u_ws RC TC N, w ∈ W0) (k : Nat) (hk : k < N) {v : Value} (hv : fs[k]? = some v) (hlink : Cond.fieldLink own index (TC k).1 (TC k).2.1 (TC k).2.2.1 ∈ W0) (hdg : decode cc pc = .ok (.getfield index, 3))
    (kk : W p l e R s m args below meth c H locs cells slots Q (F0 m (pc + 3) ls (v :: rest))) : W p l e R s m args below meth c H locs cells slots Q (F0 m pc ls (.ref a :: rest)) := by
  obtain ⟨hx, hb, -, -, -, hown, hts, hK⟩ := C
  exact va_get hx hb hts hin hown hK hP (Wp.length + j) (pfx_get he) hc k hk (hts _ hlink) (fun _ z => z) hv hdg kk
theorem kp_put (C : CX p s m args meth c cc nL ret own D ids) (hP : va_P D vwCl (Wp ++ L) H) (hD : va_D A (Wp ++ L)) (hS : va_S A s.heap H locs) {ci N index a : Nat} {fs : List Value} {RC : String} {TC : u_T} (j : Nat) (he : L[j]? = some (a, .inr (ci, fs))) (hc : vwCl[ci]? = some (RC, TC, N)) (hin : ∀ w ∈ u_ws RC TC N, w ∈ W0) (ty0 : Nat → FieldType) (hty : ∀ k, k < N → parseFieldDescriptor (TC k).2.2.1 = some (ty0 k)) (hnm : ∀ a, a < N → ∀ b, b < N → a ≠ b → (TC a).2.1 ≠ (TC b).2.1) (k : Nat) (hk : k < N) (hlink : Cond.fieldLink own index (TC k).1 (TC k).2.1 (TC k).2.2.1 ∈ W0) (hfin : (TC k).2.2.2 = false) {ty : FieldType} {v : Value} (hd : parseFieldDescriptor (TC k).2.2.1 = some ty) (hn : narrow ty v = v) (hfit : fits ty v = true) (hl : k < fs.length) (hdg : decode cc pc = .ok (.putfield index, 3))
    (kk : ∀ (H1 : Heap) (locs1 : List Loc), va_P D vwCl (Wp ++ L.set j (a, .inr (ci, fs.set k v))) H1 → va_D A (Wp ++ L.set j (a, .inr (ci, fs.set k v))) → va_S A s.heap H1 locs1 → W p l e R s m args below meth c H1 locs1 cells slots Q (F0 m (pc + 3) ls rest)) : W p l e R s m args below meth c H locs cells slots Q (F0 m pc ls (v :: .ref a :: rest)) := by
  obtain ⟨hx, hb, -, -, -, hown, hts, hK⟩ := C
  exact va_put hx hb hts hin ty0 hty hnm hown hK hP hD hS (Wp.length + j) (pfx_get he) hc k hk (hts _ hlink) (fun _ z => z) hfin hd hn hfit hl hdg (fun H1 locs1 hP1 hD1 hS1 => kk H1 locs1 (by rw [pfx_set] at hP1; exact hP1) (by rw [pfx_set] at hD1; exact hD1) hS1)
theorem kp_putF (C : CX p s m args meth c cc nL ret own D ids) (hP : va_P D vwCl (Wp ++ L) H) (hD : va_D A (Wp ++ L)) (hS : va_S A s.heap H locs) {ci N index a : Nat} {fs : List Value} {RC : String} {TC : u_T} (j : Nat) (he : L[j]? = some (a, .inr (ci, fs))) (hc : vwCl[ci]? = some (RC, TC, N)) (hin : ∀ w ∈ u_ws RC TC N, w ∈ W0) (ty0 : Nat → FieldType) (hty : ∀ k, k < N → parseFieldDescriptor (TC k).2.2.1 = some (ty0 k)) (hnm : ∀ a, a < N → ∀ b, b < N → a ≠ b → (TC a).2.1 ≠ (TC b).2.1) (k : Nat) (hk : k < N) (hlink : Cond.fieldLink own index (TC k).1 (TC k).2.1 (TC k).2.2.1 ∈ W0) (hfin : (TC k).2.2.2 = true) (hin2 : meth.name = "<init>") (hdecl : (TC k).1 = own) {ty : FieldType} {v : Value} (hd : parseFieldDescriptor (TC k).2.2.1 = some ty) (hn : narrow ty v = v) (hfit : fits ty v = true) (hl : k < fs.length) (hdg : decode cc pc = .ok (.putfield index, 3))
    (kk : ∀ (H1 : Heap) (locs1 : List Loc), va_P D vwCl (Wp ++ L.set j (a, .inr (ci, fs.set k v))) H1 → va_D A (Wp ++ L.set j (a, .inr (ci, fs.set k v))) → va_S A s.heap H1 locs1 → W p l e R s m args below meth c H1 locs1 cells slots Q (F0 m (pc + 3) ls rest)) : W p l e R s m args below meth c H locs cells slots Q (F0 m pc ls (v :: .ref a :: rest)) := by
  obtain ⟨hx, hb, -, -, -, hown, hts, hK⟩ := C
  exact va_putF hx hb hts hin ty0 hty hnm hown hK hP hD hS (Wp.length + j) (pfx_get he) hc k hk (hts _ hlink) (fun _ z => z) hfin hin2 hdecl hd hn hfit hl hdg (fun H1 locs1 hP1 hD1 hS1 => kk H1 locs1 (by rw [pfx_set] at hP1; exact hP1) (by rw [pfx_set] at hD1; exact hD1) hS1)
theorem kp_new (C : CX p s m args meth c cc nL ret own D ids) (hP : va_P D vwCl (Wp ++ L) H) (hD : va_D A (Wp ++ L)) (hS : va_S A s.heap H locs) (hA : ∀ q : Nat, s.heap.size ≤ q → A q) {ci N index : Nat} {RC : String} {TC : u_T} (hc : vwCl[ci]? = some (RC, TC, N)) (hin : ∀ w ∈ u_ws RC TC N, w ∈ W0) (ty : Nat → FieldType) (hty : ∀ k, k < N → parseFieldDescriptor (TC k).2.2.1 = some (ty k)) (q1 : Cond.classLink own index RC ∈ W0) (q2 : Cond.instantiable RC N ∈ W0) (q3 : Cond.initialized RC ∈ W0) {fs : List Value} (hfs : ∀ j, j < N → defaultValue (ty j) = vp_V fs j) (hcells : cells + 1 ≤ R.cells) (hslots : slots + N ≤ R.slots) (hdg : decode cc pc = .ok (.new index, 3))
    (kk : ∀ (q : Nat) (H1 : Heap), va_P D vwCl (Wp ++ (L ++ [(q, .inr (ci, fs))])) H1 → va_D A (Wp ++ (L ++ [(q, .inr (ci, fs))])) → va_S A s.heap H1 locs → W p l e R s m args below meth c H1 locs (cells + 1) (slots + N) Q (F0 m (pc + 3) ls (.ref q :: rest))) : W p l e R s m args below meth c H locs cells slots Q (F0 m pc ls rest) := by
  obtain ⟨hx, hb, -, -, -, hown, hts, hK⟩ := C
  exact va_new hx hb hts hin ty hty hown (hts _ q1) (hts _ q2) (hts _ q3) hK hP hD hS hA hc hfs hcells hslots hdg (fun q H1 hP1 hD1 hS1 => kk q H1 (by rw [List.append_assoc] at hP1; exact hP1) (by rw [List.append_assoc] at hD1; exact hD1) hS1)
theorem kp_newa (C : CX p s m args meth c cc nL ret own D ids) (hP : va_P D vwCl (Wp ++ L) H) (hD : va_D A (Wp ++ L)) (hS : va_S A s.heap H locs) (hA : ∀ q : Nat, s.heap.size ≤ q → A q) (t : Nat) {ty : FieldType} (ht : (tysOf ids)[t]? = some (ids t, ty)) {atype : ArrayType} (q1 : Cond.arrayClass (newarray.typeOf atype) ∈ W0) (hty : newarray.typeOf atype = ty) {n : Int32} {N' : Nat} {a0 : vp_A} (ha : ∀ cA : ClassId, vp_cell cA a0 = arrV cA N' (fun _ => defaultValue ty)) (hn : ¬ n < 0) (hN : n.toNatClampNeg = N') (hbytes : N' * componentBytes ty ≤ 536870912) (hcells : cells + 1 ≤ R.cells) (hslots : slots + N' ≤ R.slots) (hdg : decode cc pc = .ok (.newarray atype, 2))
    (kk : ∀ (q : Nat) (H1 : Heap), va_P D vwCl (Wp ++ (L ++ [(q, .inl (ids t, a0))])) H1 → va_D A (Wp ++ (L ++ [(q, .inl (ids t, a0))])) → va_S A s.heap H1 locs → W p l e R s m args below meth c H1 locs (cells + 1) (slots + N') Q (F0 m (pc + 2) ls (.ref q :: rest))) : W p l e R s m args below meth c H locs cells slots Q (F0 m pc ls (.int n :: rest)) := by
  obtain ⟨hx, hb, -, -, -, hown, hts, hK⟩ := C
  refine va_newa hx hb (hts _ q1) hty hK hP hD hS hA ha hn hN hbytes hcells hslots hdg (fun q cA H1 hK1 hP1 hD1 hS1 => ?_)
  have e1 : cA = ids t := ra_eq (hK1.2 6 (cA, ty) rfl).2 (hK.2 t _ ht).2
  subst e1
  exact kk q H1 (by rw [List.append_assoc] at hP1; exact hP1) (by rw [List.append_assoc] at hD1; exact hD1) hS1
theorem kp_newq (C : CX p s m args meth c cc nL ret own D ids) (hP : va_P D vwCl (Wp ++ L) H) (hD : va_D A (Wp ++ L)) (hS : va_S A s.heap H locs) (hA : ∀ q : Nat, s.heap.size ≤ q → A q) (t : Nat) {CN : String} {index : Nat} (ht : (tysOf ids)[t]? = some (ids t, .object CN)) (q1 : Cond.classLink own index CN ∈ W0) (hov : va_AO CN s) {n : Int32} {N' : Nat} (hn : ¬ n < 0) (hN : n.toNatClampNeg = N') (hbytes : N' * 4 ≤ 536870912) (hcells : cells + 1 ≤ R.cells) (hslots : slots + N' ≤ R.slots) (hdg : decode cc pc = .ok (.anewarray index, 3))
    (kk : ∀ (q : Nat) (H1 : Heap), va_P D vwCl (Wp ++ (L ++ [(q, .inl (ids t, N', .inr (.inr (.inr (.inr (fun _ => none))))))])) H1 → va_D A (Wp ++ (L ++ [(q, .inl (ids t, N', .inr (.inr (.inr (.inr (fun _ => none))))))])) → va_S A s.heap H1 locs → W p l e R s m args below meth c H1 locs (cells + 1) (slots + N') Q (F0 m (pc + 3) ls (.ref q :: rest))) : W p l e R s m args below meth c H locs cells slots Q (F0 m pc ls (.int n :: rest)) := by
  obtain ⟨hx, hb, -, -, -, hown, hts, hK⟩ := C
  refine va_newq hx hb hown (hts _ q1) hov hK hP hD hS hA hn hN hbytes hcells hslots hdg (fun q cA H1 hK1 hP1 hD1 hS1 => ?_)
  have e1 : cA = ids t := ra_eq (hK1.2 6 (cA, .object CN) rfl).2 (hK.2 t _ ht).2
  subst e1
  exact kk q H1 (by rw [List.append_assoc] at hP1; exact hP1) (by rw [List.append_assoc] at hD1; exact hD1) hS1
theorem kp_aast (C : CX p s m args meth c cc nL ret own D ids) (hP : va_P D vwCl (Wp ++ L) H) (hD : va_D A (Wp ++ L)) (hS : va_S A s.heap H locs) (t : Nat) {r : vw_C} (ht : (tysOf ids)[t]? = some (ids t, .object r.1)) {a n v ci : Nat} {vs : List Value} {f : Nat → Option Nat} (j jv : Nat) (ha : L[j]? = some (a, .inl (ids t, n, .inr (.inr (.inr (.inr f)))))) (hv : L[jv]? = some (v, .inr (ci, vs))) (hc : vwCl[ci]? = some r) {i : Int32} (hin : vp_in i n) (hdg : decode cc pc = .ok (.aastore, 1))
    (kk : ∀ (H1 : Heap) (locs1 : List Loc), va_P D vwCl (Wp ++ L.set j (a, .inl (ids t, n, .inr (.inr (.inr (.inr (va_up f i.toNatClampNeg (some v)))))))) H1 → va_D A (Wp ++ L.set j (a, .inl (ids t, n, .inr (.inr (.inr (.inr (va_up f i.toNatClampNeg (some v)))))))) → va_S A s.heap H1 locs1 → W p l e R s m args below meth c H1 locs1 cells slots Q (F0 m (pc + 1) ls rest)) : W p l e R s m args below meth c H locs cells slots Q (F0 m pc ls (.ref v :: .int i :: .ref a :: rest)) := by
  obtain ⟨hx, hb, -, -, -, hown, hts, hK⟩ := C
  exact va_astq hx hb hK hP hD hS (Wp.length + j) t (Wp.length + jv) ci (pfx_get ha) ht (pfx_get hv) hc hin hdg (fun H1 locs1 hP1 hD1 hS1 => kk H1 locs1 (by rw [pfx_set] at hP1; exact hP1) (by rw [pfx_set] at hD1; exact hD1) hS1)
theorem kp_iast (C : CX p s m args meth c cc nL ret own D ids) (hP : va_P D vwCl (Wp ++ L) H) (hD : va_D A (Wp ++ L)) (hS : va_S A s.heap H locs) {a n : Nat} {f : Nat → Int32} (j : Nat) (ha : L[j]? = some (a, .inl (ids 1, n, .inl f))) {i x : Int32} (hin : vp_in i n) (hdg : decode cc pc = .ok (.iastore, 1))
    (kk : ∀ (H1 : Heap) (locs1 : List Loc), va_P D vwCl (Wp ++ L.set j (a, .inl (ids 1, n, .inl (upd f i.toNatClampNeg x)))) H1 → va_D A (Wp ++ L.set j (a, .inl (ids 1, n, .inl (upd f i.toNatClampNeg x)))) → va_S A s.heap H1 locs1 → W p l e R s m args below meth c H1 locs1 cells slots Q (F0 m (pc + 1) ls rest)) : W p l e R s m args below meth c H locs cells slots Q (F0 m pc ls (.int x :: .int i :: .ref a :: rest)) := by
  obtain ⟨hx, hb, -, -, -, hown, hts, hK⟩ := C
  exact va_iast hx hb hK hP hD hS (Wp.length + j) 1 (pfx_get ha) rfl hin hdg (fun H1 locs1 hP1 hD1 hS1 => kk H1 locs1 (by rw [pfx_set] at hP1; exact hP1) (by rw [pfx_set] at hD1; exact hD1) hS1)
theorem kp_obj (C : CX p s m args meth c cc nL ret own D ids) {idx a : Nat} (q1 : Cond.methodLink own idx Lib.objectInit ∈ W0) (q2 : Cond.instanceMethod Lib.objectInit ∈ W0) (q3 : Cond.code Lib.objectInit ⟨#[0xb1]⟩ 1 none ∈ W0) (hsz : ls.size = nL) (hf : 1 ≤ R.frames) (hlo : 12 ≤ R.locals) (hdg : decode cc pc = .ok (.invokespecial idx, 3))
    (kk : W p l e R s m args below meth c H locs cells slots Q (F0 m (pc + 3) ls [])) : W p l e R s m args below meth c H locs cells slots Q (F0 m pc ls [.ref a]) := by
  obtain ⟨hx, hb, hml, -, -, hown, hts, hK⟩ := C
  exact W.objInit hx hb hown (hts _ q1) (hts _ q2) (hts _ q3) rfl (hsz.trans hml.symm) rfl hdg hf (by simpa [JFrame.monitorRoom] using hlo) kk
theorem KB_blind {As : List Value} {ws : va_W} {sz : Nat} : FrameBlind (va_Pc As (KB D ids ws sz)) := by
  intro a U g mk q
  obtain ⟨q0, q1, q2, q3, q4, q5⟩ := q
  exact ⟨q0, q1, q2, va_K.moved (u := U) (U := U.calling g mk a) (Vm.Alike.refl U.vm) q3, q4, NX_c q5⟩
theorem KB_pre {As : List Value} (C : CX p s m args meth c cc nL ret own D ids) (hX : NX s) {ws : va_W} (hP : va_P D vwCl ws H) (hD : va_D A ws) : ∀ U : State, U.heap = H → s.WarmedH U.vm → va_Pc As (KB D ids ws H.size) As.toArray U := by
  obtain ⟨hx, hb, -, hr, hlocks, hown, hts, hK⟩ := C
  intro U hU hW
  exact ⟨rfl, by rw [hU], by rw [hU]; exact hP, va_K.moved hW.alike hK, hD.weaken (fun _ _ _ _ => trivial), NX_w hW hX⟩
theorem kp_back {a : Array Value} {ws : va_W} {G : (Nat → Nat) → va_W} {mc ms : Nat} (hr : va_Run p l e R s m args below meth c H locs cells slots mc ms (F0 m pc ls st0) rest (KQ D G (va_A ws H.size) a) (va_A ws H.size)) (hD : va_D A ws) (hS : va_S A s.heap H locs) (hA : ∀ q : Nat, s.heap.size ≤ q → A q)
    (kk : ∀ (u : Nat → Nat) (H1 : Heap) (locs1 : List Loc), va_P D vwCl (G u) H1 → va_D A (G u) → va_S A s.heap H1 locs1 → W p l e R s m args below meth c H1 locs1 (cells + mc) (slots + ms) Q (F0 m (pc + 3) ls rest)) : W p l e R s m args below meth c H locs cells slots Q (F0 m pc ls st0) := by
  have hF : ∀ q : Nat, va_A ws H.size q → A q := fun q hq => hq.elim (fun ⟨k, e, he⟩ => hD.2 k (q, e) he) (fun z => hA q (Nat.le_trans hS.1 z))
  intro T hT X
  obtain ⟨v, st₀, t, T', Lo, h0, X', hL, e1, e2, ⟨hv, ⟨u, hp, hd⟩, hz, hk⟩, st⟩ := hr T hT X
  cases hv
  rw [h0] at hz hk
  obtain ⟨t2, a1, b1⟩ := kk u T'.heap (locs ++ Lo) (by rw [e1]; exact hp) (hd.weaken (fun _ q _ h => hF q.1 h))
    ⟨Nat.le_trans hS.1 (by rw [e1]; exact hz), fun q g1 g2 => by rw [e1, hk q (Nat.lt_of_lt_of_le g1 hS.1) (fun z => g2 (hF q z))]; exact hS.2.1 q g1 g2, fun q hq => by
      rcases List.mem_append.mp hq with g | g
      · exact hS.2.2 q g
      · exact hF _ (hL q g)⟩ T' rfl X'
  exact ⟨t2, st t2 a1, b1⟩
theorem kp_callI {y : MethodName} {bytes : ByteArray} {maxL index b : Nat} {rm : Room} {As : List Value} {ws : va_W} {G : (Nat → Nat) → va_W} {mc ms : Nat} (C : CX p s m args meth c cc nL ret own D ids) (hX : NX s)
    (hM : Met l y (ws_ y bytes maxL none) rm (va_Pc (.ref b :: As) (KB D ids ws H.size)) (KQ D G (va_A ws H.size)) mc ms (va_A ws H.size))
    (q1 : Cond.methodLink own index y ∈ W0) (q2 : Cond.instanceMethod y ∈ W0) (q4 : Cond.initialized y.cls ∈ W0) (q5 : Cond.code y bytes maxL none ∈ W0) (hy : y.name = "<init>")
    (hrm : rm.cells = mc ∧ rm.slots = ms) (hd : y.cls ≠ "java/lang/invoke/MethodHandle" ∧ y.cls ≠ "java/lang/invoke/VarHandle" ∧ (parseMethodDescriptor y.desc).map (fun d => d.parameters.length) = some As.length) (hR : rm.frames + 1 ≤ R.frames ∧ 8 + (maxL + 11) + rm.locals ≤ R.locals) (hcs : cells + mc ≤ R.cells ∧ slots + ms ≤ R.slots)
    (hP : va_P D vwCl ws H) (hD : va_D A ws) (hS : va_S A s.heap H locs) (hA : ∀ q : Nat, s.heap.size ≤ q → A q) (hsz : ls.size = nL) (hcat : (rest.map fun v => v.category).sum ≤ 8) (hst : st0 = As.reverse ++ .ref b :: rest) (hdg : decode cc pc = .ok (.invokespecial index, 3))
    (kk : ∀ (u : Nat → Nat) (H1 : Heap) (locs1 : List Loc), va_P D vwCl (G u) H1 → va_D A (G u) → va_S A s.heap H1 locs1 → W p l e R s m args below meth c H1 locs1 (cells + mc) (slots + ms) Q (F0 m (pc + 3) ls rest)) : W p l e R s m args below meth c H locs cells slots Q (F0 m pc ls st0) := by
  have C0 := C
  obtain ⟨hx, hb, hml, hr, hlocks, hown, hts, hK⟩ := C
  refine kp_back (va_runI (b := b) (As := As) (rest := rest) (n := As.length) ⟨hx, hb, hml, hown, hts⟩ hM ⟨callB_of As.length hts (ws_in q5 (fun _ z => z)) rfl hrm.1 hrm.2 (hts _ q4) (hts _ q1) hd hR, hy, hts _ q2⟩ ⟨KB_blind, KB_pre C0 hX hP hD⟩ rfl rfl hsz hst (lv_room hcat) hdg hcs) hD hS hA kk
theorem kp_callN {y : MethodName} {host : String} {bytes : ByteArray} {maxL index b : Nat} {rm : Room} {As : List Value} {ws : va_W} {G : (Nat → Nat) → va_W} {mc ms : Nat} (C : CX p s m args meth c cc nL ret own D ids) (hX : NX s) (hN : va_Nw (.methodLinkNest own index y host) s)
    (hM : Met l y (ws_ y bytes maxL none) rm (va_Pc (.ref b :: As) (KB D ids ws H.size)) (KQ D G (va_A ws H.size)) mc ms (va_A ws H.size))
    (q2 : Cond.instanceMethod y ∈ W0) (q4 : Cond.initialized y.cls ∈ W0) (q5 : Cond.code y bytes maxL none ∈ W0) (hy : y.name = "<init>")
    (hrm : rm.cells = mc ∧ rm.slots = ms) (hd : y.cls ≠ "java/lang/invoke/MethodHandle" ∧ y.cls ≠ "java/lang/invoke/VarHandle" ∧ (parseMethodDescriptor y.desc).map (fun d => d.parameters.length) = some As.length) (hR : rm.frames + 1 ≤ R.frames ∧ 8 + (maxL + 11) + rm.locals ≤ R.locals) (hcs : cells + mc ≤ R.cells ∧ slots + ms ≤ R.slots)
    (hP : va_P D vwCl ws H) (hD : va_D A ws) (hS : va_S A s.heap H locs) (hA : ∀ q : Nat, s.heap.size ≤ q → A q) (hsz : ls.size = nL) (hcat : (rest.map fun v => v.category).sum ≤ 8) (hst : st0 = As.reverse ++ .ref b :: rest) (hdg : decode cc pc = .ok (.invokespecial index, 3))
    (kk : ∀ (u : Nat → Nat) (H1 : Heap) (locs1 : List Loc), va_P D vwCl (G u) H1 → va_D A (G u) → va_S A s.heap H1 locs1 → W p l e R s m args below meth c H1 locs1 (cells + mc) (slots + ms) Q (F0 m (pc + 3) ls rest)) : W p l e R s m args below meth c H locs cells slots Q (F0 m pc ls st0) := by
  have C0 := C
  obtain ⟨hx, hb, hml, hr, hlocks, hown, hts, hK⟩ := C
  refine kp_back (va_runIN (b := b) (As := As) (rest := rest) (n := As.length) ⟨hx, hb, hml, hown, hts⟩ hM ⟨va_cnB As.length hts (ws_in q5 (fun _ z => z)) rfl hrm.1 hrm.2 hN (hts _ q4) hd hR, hy, hts _ q2⟩ ⟨KB_blind, KB_pre C0 hX hP hD⟩ rfl rfl hsz hst (lv_room hcat) hdg hcs) hD hS hA kk
theorem kp_vret (C : CX p s m args meth c cc nL none own D ids) {G : (Nat → Nat) → va_W} (u : Nat → Nat) (hP : va_P D vwCl (G u) H) (hD : va_D A (G u)) (hS : va_S A s.heap H locs) (hdg : decode cc pc = .ok (.return_, 1)) : W p l e R s m args below meth c H locs cells slots (MQ below (KQ D G A) args s cells slots A) (F0 m pc ls []) := by
  obtain ⟨hx, hb, -, hr, hlocks, hown, hts, hK⟩ := C
  exact W.vret hx hb hr (fun t ht _ => ⟨rfl, ⟨u, by rw [ht]; exact hP, hD⟩, hS.F ht⟩) hS.2.2 hdg
end KROWS
theorem kp_met {l : Launch} {y : MethodName} {own : String} {bytes : ByteArray} {maxL : Nat} {rm : Room} {b : Nat} {As : List Value} {D : va_G} {ids : Nat → ClassId} {ws : va_W} {G : (Nat → Nat) → va_W} {sz mc ms : Nat} {lv : List (Nat × Value)} (hy : plainName y.cls = true) (hyn : y.name = "<init>") (hown : y.cls = own) (hsl : (lg_sl (.ref b :: As)).length ≤ maxL) (hlv : lv_args 0 (.ref b :: As) = lv)
    (body : ∀ (p : Program) (e : Env) (s : State) (m : MethodId) (args : Array Value) (below : List Frame) (meth : Method) (c : Code) (A : Nat → Prop) (H : Heap) (ls : Array Slot), CX p s m args meth c bytes maxL none own D ids → NX s → meth.name = "<init>" → (∀ q : Nat, s.heap.size ≤ q → A q) → va_P D vwCl ws H → va_D A ws → va_S A s.heap H [] → lv_has ls maxL lv → W p l e rm s m args below meth c H [] 0 0 (MQ below (KQ D G A) args s mc ms A) (F0 m 0 ls [])) :
    Met l y (ws_ y bytes maxL none) rm (va_Pc (.ref b :: As) (KB D ids ws sz)) (KQ D G (va_A ws sz)) mc ms (va_A ws sz) := by
  refine Met.ofW (cc := bytes) (maxL := maxL) (ret := none) hy rfl ?_
  intro p e s m args below meth c s₁ B hml hv
  obtain ⟨rfl, hsz, hP, hK, hD0, hX⟩ := hv
  have hts := atoms_spec (ws := ws_ y bytes maxL none) B.pre
  have hfc : s.vm.findClass own = some m.cls := by rw [← hown]; exact findClass_of_methodNamed B.named
  have hin : meth.name = "<init>" := ((name_of_methodNamed B.named B.method).1).trans hyn
  subst hsz
  have hD := hD0.self (sz := s.heap.size)
  have hl := lv_entry (.ref b :: As) (n := maxL) hsl
  rw [lg_entry_eq]
  generalize (lg_sl (.ref b :: As) ++ List.replicate (maxL - (lg_sl (.ref b :: As)).length) Slot.unset).toArray = ls at hl ⊢
  rw [hlv] at hl
  exact body p e s m (.ref b :: As).toArray below meth c (va_A ws s.heap.size) s.heap ls ⟨B.exec, B.bytes, hml, B.returns, B.notSynchronized, hfc, fun w hw => hts w (List.mem_cons_of_mem _ hw), hK⟩ hX hin (fun q h => Or.inr h) hP hD va_S.rf hl
