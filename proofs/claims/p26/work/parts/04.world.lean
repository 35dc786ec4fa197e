/-! ONE WORLD FOR ALL METHODS THAT MAKE NOTHING: n cells at the addresses ad 0 .. ad (n-1), what the cell k holds is cE k (h k), h : cell -> slot -> int -/
abbrev Hp : Type := Nat → Nat → Int32
def hs (h : Hp) (k j : Nat) (v : Int32) : Hp := fun a b => if a = k ∧ b = j then v else h a b
theorem hs_row (h : Hp) (k j : Nat) (v : Int32) : hs h k j v k = upd (h k) j v := by
  funext b
  simp [hs, upd]
theorem hs_ne (h : Hp) (k j : Nat) (v : Int32) {a : Nat} (ha : a ≠ k) : hs h k j v a = h a := by
  funext b
  simp [hs, ha]
def adOk (ad : Nat → Nat) (n : Nat) : Prop := ∀ i j : Nat, i < n → j < n → ad i = ad j → i = j
def inW (ad : Nat → Nat) (n : Nat) : Nat → Prop := fun q => ∃ k : Nat, k < n ∧ ad k = q
def wl (ad : Nat → Nat) (n : Nat) (g : Nat → va_E) : va_W := (List.range n).map (fun k => (ad k, g k))
theorem wl_get {ad : Nat → Nat} {n k : Nat} {g : Nat → va_E} (hk : k < n) : (wl ad n g)[k]? = some (ad k, g k) := by
  unfold wl
  rw [List.getElem?_map, List.getElem?_range hk]
  rfl
theorem wl_len {ad : Nat → Nat} {n : Nat} {g : Nat → va_E} : (wl ad n g).length = n := by simp [wl]
theorem wl_inv {ad : Nat → Nat} {n k : Nat} {g : Nat → va_E} {q : Nat × va_E} (h : (wl ad n g)[k]? = some q) : k < n ∧ q = (ad k, g k) := by
  have hk : k < n := by
    have h1 := (List.getElem?_eq_some_iff.mp h).1
    rw [wl_len] at h1
    exact h1
  rw [wl_get hk] at h
  exact ⟨hk, (Option.some.inj h).symm⟩
theorem wl_D {ad : Nat → Nat} {n : Nat} {g : Nat → va_E} (hA : adOk ad n) : va_D (inW ad n) (wl ad n g) := by
  refine ⟨fun i j p q hi hj hpq => ?_, fun k q hk => ?_⟩
  · obtain ⟨h1, rfl⟩ := wl_inv hi
    obtain ⟨h2, rfl⟩ := wl_inv hj
    exact hA i j h1 h2 hpq
  · obtain ⟨h1, rfl⟩ := wl_inv hk
    exact ⟨k, h1, rfl⟩
theorem wl_set {ad : Nat → Nat} {n k : Nat} {g g' : Nat → va_E} {e : va_E} (hk : k < n) (he : g' k = e) (ho : ∀ j : Nat, j ≠ k → g' j = g j) : (wl ad n g).set k (ad k, e) = wl ad n g' := by
  apply List.ext_getElem?
  intro i
  by_cases hi : i < n
  · by_cases hik : i = k
    · subst hik
      rw [List.getElem?_set_self (by rw [wl_len]; exact hk), wl_get hk, he]
    · rw [List.getElem?_set_ne (Ne.symm hik), wl_get hi, wl_get hi, ho i hik]
  · rw [List.getElem?_eq_none (by rw [List.length_set, wl_len]; exact Nat.not_lt.mp hi), List.getElem?_eq_none (by rw [wl_len]; exact Nat.not_lt.mp hi)]
/-- the cells hold h -/
def wp (D : va_G) (cE : Nat → (Nat → Int32) → va_E) (ad : Nat → Nat) (n : Nat) (h : Hp) (H : Heap) : Prop := va_P D vwCl (wl ad n (fun k => cE k (h k))) H
theorem wp_set {D : va_G} {cE : Nat → (Nat → Int32) → va_E} {ad : Nat → Nat} {n : Nat} {h : Hp} {H : Heap} {k j : Nat} {v : Int32} {e : va_E} (hk : k < n) (he : cE k (upd (h k) j v) = e) (hP : va_P D vwCl ((wl ad n (fun k => cE k (h k))).set k (ad k, e)) H) : wp D cE ad n (hs h k j v) H := by
  unfold wp
  rw [wl_set (g' := fun a => cE a (hs h k j v a)) hk (by show cE k (hs h k j v k) = e; rw [hs_row, he]) (fun a ha => by show cE a (hs h k j v a) = cE a (h a); rw [hs_ne h k j v ha])] at hP
  exact hP
/-- an object: some slots are references that stay, the others ints -/
def obv (rf : Nat → Option Nat) (r : Nat → Int32) (j : Nat) : Value := match rf j with
  | some a => .ref a
  | none => .int (r j)
def obf (rf : Nat → Option Nat) (N : Nat) (r : Nat → Int32) : List Value := (List.range N).map (obv rf r)
def ob (ci : Nat) (rf : Nat → Option Nat) (N : Nat) (r : Nat → Int32) : va_E := .inr (ci, obf rf N r)
theorem obf_len {rf : Nat → Option Nat} {N : Nat} {r : Nat → Int32} : (obf rf N r).length = N := by simp [obf]
theorem obf_get {rf : Nat → Option Nat} {N j : Nat} {r : Nat → Int32} (hj : j < N) : (obf rf N r)[j]? = some (obv rf r j) := by
  unfold obf
  rw [List.getElem?_map, List.getElem?_range hj]
  rfl
theorem obf_set {rf : Nat → Option Nat} {N j : Nat} {r : Nat → Int32} {v : Int32} (hj : j < N) (hr : rf j = none) : (obf rf N r).set j (.int v) = obf rf N (upd r j v) := by
  apply List.ext_getElem?
  intro i
  by_cases hi : i < N
  · by_cases hij : i = j
    · subst hij
      rw [List.getElem?_set_self (by rw [obf_len]; exact hj), obf_get hj]
      simp [obv, hr, upd]
    · rw [List.getElem?_set_ne (Ne.symm hij), obf_get hi, obf_get hi]
      simp [obv, upd, hij]
  · rw [List.getElem?_eq_none (by rw [List.length_set, obf_len]; exact Nat.not_lt.mp hi), List.getElem?_eq_none (by rw [obf_len]; exact Nat.not_lt.mp hi)]
/-- the words that all methods share: those of the tables that outlast a call -/
def W0 : List Cond := lw_tbl.filter goodWord
theorem W0_in {w : Cond} (h : w ∈ W0) : w ∈ lw_tbl := (List.mem_filter.mp h).1
theorem W0_good {w : Cond} (h : w ∈ W0) : goodWord w = true := (List.mem_filter.mp h).2
theorem w0_mk {w : Cond} (i : Nat) (h : lw_tbl[i]? = some w) (hg : goodWord w = true) : w ∈ W0 := List.mem_filter.mpr ⟨List.mem_of_getElem? h, hg⟩
theorem w0_sub {ws : List Cond} (ps : List Nat) (hp : ws = ps.filterMap (fun i => lw_tbl[i]?)) (h : ws.all goodWord = true) : ∀ w ∈ ws, w ∈ W0 := by
  intro w hw
  have hg := List.all_eq_true.mp h w hw
  rw [hp] at hw
  obtain ⟨i, -, hi⟩ := List.mem_filterMap.mp hw
  exact w0_mk i hi hg
def tysOf (ids : Nat → ClassId) : List (ClassId × FieldType) := [(ids 0, .char), (ids 1, .int), (ids 2, .object RX2), (ids 3, .object RX3), (ids 4, .object RX5), (ids 5, .object RX6)]
/-- what stands through a whole method -/
def CX (p : Program) (s : State) (m : MethodId) (args : Array Value) (meth : Method) (c : Code) (cc : ByteArray) (nL : Nat) (ret : Option FieldType) (own : String) (D : va_G) (ids : Nat → ClassId) : Prop :=
  p.tables.exec = Jvm.exec ∧ c.code = cc ∧ c.maxLocals = nL ∧ meth.sig.returnType = ret ∧ meth.locks = false ∧ s.vm.findClass own = some m.cls ∧ (∀ w ∈ W0, w.before args s = true) ∧ va_K D vwCl (tysOf ids) s
def ws_ (y : MethodName) (b : ByteArray) (maxL : Nat) (ret : Option FieldType) : List Cond := .code y b maxL ret :: W0
theorem ws_in {Ts : List Cond} {y : MethodName} {b : ByteArray} {maxL : Nat} {ret : Option FieldType} (h : Cond.code y b maxL ret ∈ W0) (hT : ∀ w ∈ W0, w ∈ Ts) : GoodIn Ts (ws_ y b maxL ret) := by
  intro w hw
  have hm : w ∈ W0 := (List.mem_cons.mp hw).elim (fun e => by rw [e]; exact h) id
  exact ⟨hT w hm, good_of_word (W0_good hm)⟩
/-- what a method finds, and what it leaves: Ex is what else stands that nobody changes -/
def WB (D : va_G) (ids : Nat → ClassId) (cE : Nat → (Nat → Int32) → va_E) (ad : Nat → Nat) (n : Nat) (Ex : State → Heap → Prop) (h : Hp) (U : State) : Prop := wp D cE ad n h U.heap ∧ va_K D vwCl (tysOf ids) U ∧ Ex U U.heap
def QW (D : va_G) (cE : Nat → (Nat → Int32) → va_E) (ad : Nat → Nat) (n : Nat) (rv : Option Value) (h : Hp) : Array Value → State → Outcome → State → Prop := fun _ st oc t => oc = .returned rv ∧ wp D cE ad n h t.heap ∧ va_F (inW ad n) st t
/-- Ex goes with the state -/
def ExOk (ad : Nat → Nat) (n : Nat) (Ex : State → Heap → Prop) : Prop :=
  (∀ (s U : State) (H : Heap), s.WarmedH U.vm → Ex s H → Ex U H) ∧ (∀ (U : State) (g : JFrame) (mk : MethodId) (a : Array Value) (H : Heap), Ex U H → Ex (U.calling g mk a) H) ∧ (∀ (s : State) (H0 H : Heap) (locs : List Loc), va_S (inW ad n) H0 H locs → Ex s H0 → Ex s H)
theorem g_t {c : Prop} [Decidable c] {α : Type} {a b r : α} (hc : c) (h : (if c then a else b) = r) : a = r := by rw [if_pos hc] at h; exact h
theorem g_f {c : Prop} [Decidable c] {α : Type} {a b r : α} (hc : ¬ c) (h : (if c then a else b) = r) : b = r := by rw [if_neg hc] at h; exact h
theorem g_if {c : Prop} [Decidable c] {α : Type} {a : Option α} {r : α} (h : (if c then a else none) = some r) : c ∧ a = some r := by
  by_cases hc : c
  · rw [if_pos hc] at h; exact ⟨hc, h⟩
  · rw [if_neg hc] at h; cases h
theorem g_b {α β : Type} {o : Option α} {k : α → Option β} {r : β} (h : o.bind k = some r) : ∃ q, o = some q ∧ k q = some r := by
  cases o with
  | none => cases h
  | some q => exact ⟨q, rfl, h⟩
def inb (i : Int32) (n : Nat) : Bool := decide (0 ≤ i.toInt ∧ i.toInt < (n : Int))
theorem inb_in {i : Int32} {n : Nat} (h : inb i n = true) : vp_in i n := vp_in_iff.mpr (of_decide_eq_true h)
def isb (v : Int32) : Bool := decide (v = 0 ∨ v = 1)
theorem isb_n {v : Int32} (h : isb v = true) : narrow .boolean (.int v) = .int v ∧ fits .boolean (.int v) = true := by
  rcases (of_decide_eq_true h : v = 0 ∨ v = 1) with rfl | rfl
  · exact ⟨rfl, rfl⟩
  · exact ⟨rfl, rfl⟩
section UROWS
variable {p : Program} {l : Launch} {e : Env} {R : Room} {s : State} {m : MethodId} {args : Array Value} {below : List Frame} {meth : Method} {c : Code} {H : Heap} {locs : List Loc} {cells slots : Nat} {Q : State → Prop}
variable {cc : ByteArray} {nL : Nat} {ret : Option FieldType} {own : String} {pc : Nat} {ls : Array Slot} {rest st0 : List Value} {D : va_G} {ids : Nat → ClassId} {cE : Nat → (Nat → Int32) → va_E} {ad : Nat → Nat} {n : Nat} {Ex : State → Heap → Prop} {h h1 : Hp}
theorem u_get (C : CX p s m args meth c cc nL ret own D ids) (hP : wp D cE ad n h H) {k ci N index : Nat} {rf : Nat → Option Nat} {RC : String} {TC : u_T} (hk : k < n) (he : ∀ r, cE k r = ob ci rf N r) (hc : vwCl[ci]? = some (RC, TC, N)) (hin : ∀ w ∈ u_ws RC TC N, w ∈ W0) (j : Nat) (hj : j < N) {v : Value} (hv : obv rf (h k) j = v) (hlink : Cond.fieldLink own index (TC j).1 (TC j).2.1 (TC j).2.2.1 ∈ W0) (hdg : decode cc pc = .ok (.getfield index, 3))
    (kk : W p l e R s m args below meth c H locs cells slots Q (F0 m (pc + 3) ls (v :: rest))) : W p l e R s m args below meth c H locs cells slots Q (F0 m pc ls (.ref (ad k) :: rest)) := by
  obtain ⟨hx, hb, -, -, -, hown, hts, hK⟩ := C
  exact va_get hx hb hts hin hown hK hP k (by rw [wl_get hk, he]; rfl) hc j hj (hts _ hlink) (fun _ z => z) (by rw [obf_get hj, hv]) hdg kk
theorem u_put (hA : adOk ad n) (C : CX p s m args meth c cc nL ret own D ids) (hP : wp D cE ad n h H) (hS : va_S (inW ad n) s.heap H locs) {k ci N index : Nat} {rf : Nat → Option Nat} {RC : String} {TC : u_T} (hk : k < n) (he : ∀ r, cE k r = ob ci rf N r) (hc : vwCl[ci]? = some (RC, TC, N)) (hin : ∀ w ∈ u_ws RC TC N, w ∈ W0) (ty0 : Nat → FieldType) (hty : ∀ k, k < N → parseFieldDescriptor (TC k).2.2.1 = some (ty0 k)) (hnm : ∀ a, a < N → ∀ b, b < N → a ≠ b → (TC a).2.1 ≠ (TC b).2.1) (j : Nat) (hj : j < N) (hrf : rf j = none) (hlink : Cond.fieldLink own index (TC j).1 (TC j).2.1 (TC j).2.2.1 ∈ W0) (hfin : (TC j).2.2.2 = false) {ty : FieldType} {v : Int32} (hd : parseFieldDescriptor (TC j).2.2.1 = some ty) (hn : narrow ty (.int v) = .int v) (hfit : fits ty (.int v) = true) (hdg : decode cc pc = .ok (.putfield index, 3))
    (kk : ∀ (H1 : Heap) (locs1 : List Loc), wp D cE ad n (hs h k j v) H1 → va_S (inW ad n) s.heap H1 locs1 → W p l e R s m args below meth c H1 locs1 cells slots Q (F0 m (pc + 3) ls rest)) : W p l e R s m args below meth c H locs cells slots Q (F0 m pc ls (.int v :: .ref (ad k) :: rest)) := by
  obtain ⟨hx, hb, -, -, -, hown, hts, hK⟩ := C
  exact va_put hx hb hts hin ty0 hty hnm hown hK hP (wl_D hA) hS k (by rw [wl_get hk, he]; rfl) hc j hj (hts _ hlink) (fun _ z => z) hfin hd hn hfit (by rw [obf_len]; exact hj) hdg (fun H1 locs1 hP1 _ hS1 => kk H1 locs1 (wp_set hk (by rw [he, ob, ← obf_set hj hrf]) hP1) hS1)
theorem u_iald (C : CX p s m args meth c cc nL ret own D ids) (hP : wp D cE ad n h H) {k N : Nat} (hk : k < n) (he : ∀ r, cE k r = .inl (ids 1, N, .inl r)) {i : Int32} (hin : inb i N = true) (hdg : decode cc pc = .ok (.iaload, 1))
    (kk : W p l e R s m args below meth c H locs cells slots Q (F0 m (pc + 1) ls (.int (h k i.toNatClampNeg) :: rest))) : W p l e R s m args below meth c H locs cells slots Q (F0 m pc ls (.int i :: .ref (ad k) :: rest)) := by
  obtain ⟨hx, hb, -, -, -, hown, hts, hK⟩ := C
  exact va_iald hx hb hK hP k 1 (by rw [wl_get hk, he]) rfl (inb_in hin) hdg kk
theorem u_iast (hA : adOk ad n) (C : CX p s m args meth c cc nL ret own D ids) (hP : wp D cE ad n h H) (hS : va_S (inW ad n) s.heap H locs) {k N : Nat} (hk : k < n) (he : ∀ r, cE k r = .inl (ids 1, N, .inl r)) {i x : Int32} (hin : inb i N = true) (hdg : decode cc pc = .ok (.iastore, 1))
    (kk : ∀ (H1 : Heap) (locs1 : List Loc), wp D cE ad n (hs h k i.toNatClampNeg x) H1 → va_S (inW ad n) s.heap H1 locs1 → W p l e R s m args below meth c H1 locs1 cells slots Q (F0 m (pc + 1) ls rest)) : W p l e R s m args below meth c H locs cells slots Q (F0 m pc ls (.int x :: .int i :: .ref (ad k) :: rest)) := by
  obtain ⟨hx, hb, -, -, -, hown, hts, hK⟩ := C
  exact va_iast hx hb hK hP (wl_D hA) hS k 1 (by rw [wl_get hk, he]) rfl (inb_in hin) hdg (fun H1 locs1 hP1 _ hS1 => kk H1 locs1 (wp_set hk (he _) hP1) hS1)
theorem u_cald (C : CX p s m args meth c cc nL ret own D ids) (hP : wp D cE ad n h H) {k N : Nat} (hk : k < n) (he : ∀ r, cE k r = .inl (ids 0, N, .inl r)) {i : Int32} (hin : inb i N = true) (hdg : decode cc pc = .ok (.caload, 1))
    (kk : W p l e R s m args below meth c H locs cells slots Q (F0 m (pc + 1) ls (.int (h k i.toNatClampNeg) :: rest))) : W p l e R s m args below meth c H locs cells slots Q (F0 m pc ls (.int i :: .ref (ad k) :: rest)) := by
  obtain ⟨hx, hb, -, -, -, hown, hts, hK⟩ := C
  exact va_cald hx hb hK hP k 0 (by rw [wl_get hk, he]) rfl (inb_in hin) hdg kk
theorem u_cast (hA : adOk ad n) (C : CX p s m args meth c cc nL ret own D ids) (hP : wp D cE ad n h H) (hS : va_S (inW ad n) s.heap H locs) {k N : Nat} (hk : k < n) (he : ∀ r, cE k r = .inl (ids 0, N, .inl r)) {i x : Int32} (hin : inb i N = true) (hdg : decode cc pc = .ok (.castore, 1))
    (kk : ∀ (H1 : Heap) (locs1 : List Loc), wp D cE ad n (hs h k i.toNatClampNeg (vp_nar .char x)) H1 → va_S (inW ad n) s.heap H1 locs1 → W p l e R s m args below meth c H1 locs1 cells slots Q (F0 m (pc + 1) ls rest)) : W p l e R s m args below meth c H locs cells slots Q (F0 m pc ls (.int x :: .int i :: .ref (ad k) :: rest)) := by
  obtain ⟨hx, hb, -, -, -, hown, hts, hK⟩ := C
  exact va_cast hx hb hK hP (wl_D hA) hS k 0 (by rw [wl_get hk, he]) rfl (inb_in hin) hdg (fun H1 locs1 hP1 _ hS1 => kk H1 locs1 (wp_set hk (he _) hP1) hS1)
theorem u_aald (C : CX p s m args meth c cc nL ret own D ids) (hP : wp D cE ad n h H) {k N : Nat} (t : Nat) {f : (Nat → Int32) → Nat → Option Nat} {CN : String} (ht : (tysOf ids)[t]? = some (ids t, .object CN)) (hk : k < n) (he : ∀ r, cE k r = .inl (ids t, N, .inr (.inr (.inr (.inr (f r)))))) {i : Int32} (hin : inb i N = true) {x : Nat} (hv : f (h k) i.toNatClampNeg = some x) (hdg : decode cc pc = .ok (.aaload, 1))
    (kk : W p l e R s m args below meth c H locs cells slots Q (F0 m (pc + 1) ls (.ref x :: rest))) : W p l e R s m args below meth c H locs cells slots Q (F0 m pc ls (.int i :: .ref (ad k) :: rest)) := by
  obtain ⟨hx, hb, -, -, -, hown, hts, hK⟩ := C
  exact va_aldq hx hb hK hP k t (by rw [wl_get hk, he]) ht (inb_in hin) hdg (by rw [hv]; exact kk)
theorem u_aast (hA : adOk ad n) (C : CX p s m args meth c cc nL ret own D ids) (hP : wp D cE ad n h H) (hS : va_S (inW ad n) s.heap H locs) {k N : Nat} (t : Nat) {f : (Nat → Int32) → Nat → Option Nat} {r : vw_C} (ht : (tysOf ids)[t]? = some (ids t, .object r.1)) (hk : k < n) (he : ∀ r, cE k r = .inl (ids t, N, .inr (.inr (.inr (.inr (f r)))))) {x ci : Nat} {vs : List Value} (hxn : x < n) (hxe : cE x (h x) = .inr (ci, vs)) (hc : vwCl[ci]? = some r) {i u : Int32} (hin : inb i N = true) (hf : f (upd (h k) i.toNatClampNeg u) = va_up (f (h k)) i.toNatClampNeg (some (ad x))) (hdg : decode cc pc = .ok (.aastore, 1))
    (kk : ∀ (H1 : Heap) (locs1 : List Loc), wp D cE ad n (hs h k i.toNatClampNeg u) H1 → va_S (inW ad n) s.heap H1 locs1 → W p l e R s m args below meth c H1 locs1 cells slots Q (F0 m (pc + 1) ls rest)) : W p l e R s m args below meth c H locs cells slots Q (F0 m pc ls (.ref (ad x) :: .int i :: .ref (ad k) :: rest)) := by
  obtain ⟨hx, hb, -, -, -, hown, hts, hK⟩ := C
  exact va_astq hx hb hK hP (wl_D hA) hS k t x ci (by rw [wl_get hk, he]) ht (by rw [wl_get hxn, hxe]) hc (inb_in hin) hdg (fun H1 locs1 hP1 _ hS1 => kk H1 locs1 (wp_set hk (by rw [he, hf]) hP1) hS1)
theorem u_alen (C : CX p s m args meth c cc nL ret own D ids) (hP : wp D cE ad n h H) {k : Nat} (t : Nat) {x : vp_A} {ty : FieldType} (ht : (tysOf ids)[t]? = some (ids t, ty)) (hk : k < n) (he : cE k (h k) = .inl (ids t, x)) {v : Int32} (hv : Int32.ofNat x.1 = v) (hdg : decode cc pc = .ok (.arraylength, 1))
    (kk : W p l e R s m args below meth c H locs cells slots Q (F0 m (pc + 1) ls (.int v :: rest))) : W p l e R s m args below meth c H locs cells slots Q (F0 m pc ls (.ref (ad k) :: rest)) := by
  obtain ⟨hx, hb, -, -, -, hown, hts, hK⟩ := C
  exact va_alen hx hb hK hP k t (by rw [wl_get hk, he]) ht hv hdg kk
theorem u_iret (C : CX p s m args meth c cc nL (some .int) own D ids) (hP : wp D cE ad n h H) (hS : va_S (inW ad n) s.heap H locs) {v : Int32} (hdg : decode cc pc = .ok (.ireturn, 1)) : W p l e R s m args below meth c H locs cells slots (MQ below (QW D cE ad n (some (.int v)) h) args s cells slots (inW ad n)) (F0 m pc ls [.int v]) := by
  obtain ⟨hx, hb, -, hr, hlocks, hown, hts, hK⟩ := C
  exact W.iret hx hb hr (fun t ht _ => ⟨rfl, by rw [ht]; exact hP, hS.F ht⟩) hS.2.2 hdg
theorem u_zret (C : CX p s m args meth c cc nL (some .boolean) own D ids) (hP : wp D cE ad n h H) (hS : va_S (inW ad n) s.heap H locs) {v : Int32} (hv : isb v = true) (hdg : decode cc pc = .ok (.ireturn, 1)) : W p l e R s m args below meth c H locs cells slots (MQ below (QW D cE ad n (some (.int v)) h) args s cells slots (inW ad n)) (F0 m pc ls [.int v]) := by
  obtain ⟨hx, hb, -, hr, hlocks, hown, hts, hK⟩ := C
  exact W.zret hx hb hr (isb_n hv).1 (fun t ht _ => ⟨rfl, by rw [ht]; exact hP, hS.F ht⟩) hS.2.2 hdg
theorem u_vret (C : CX p s m args meth c cc nL none own D ids) (hP : wp D cE ad n h H) (hS : va_S (inW ad n) s.heap H locs) (hdg : decode cc pc = .ok (.return_, 1)) : W p l e R s m args below meth c H locs cells slots (MQ below (QW D cE ad n none h) args s cells slots (inW ad n)) (F0 m pc ls []) := by
  obtain ⟨hx, hb, -, hr, hlocks, hown, hts, hK⟩ := C
  exact W.vret hx hb hr (fun t ht _ => ⟨rfl, by rw [ht]; exact hP, hS.F ht⟩) hS.2.2 hdg
theorem u_aret {nm : String} (C : CX p s m args meth c cc nL (some (.object nm)) own D ids) (hP : wp D cE ad n h H) (hS : va_S (inW ad n) s.heap H locs) {a : Nat} (hdg : decode cc pc = .ok (.areturn, 1)) : W p l e R s m args below meth c H locs cells slots (MQ below (QW D cE ad n (some (.ref a)) h) args s cells slots (inW ad n)) (F0 m pc ls [.ref a]) := by
  obtain ⟨hx, hb, -, hr, hlocks, hown, hts, hK⟩ := C
  exact W.aret hx hb hr (Or.inl ⟨_, rfl⟩) (Or.inr ⟨_, rfl⟩) (fun t ht _ => ⟨rfl, by rw [ht]; exact hP, hS.F ht⟩) hS.2.2 hdg
/-- a call's end -/
theorem u_back {rv : Option Value} {a : Array Value} (hr : va_Run p l e R s m args below meth c H locs 0 0 0 0 (F0 m pc ls st0) rest (QW D cE ad n rv h1 a) (inW ad n)) (hS : va_S (inW ad n) s.heap H locs)
    (kk : ∀ (H1 : Heap) (locs1 : List Loc), wp D cE ad n h1 H1 → va_S (inW ad n) s.heap H1 locs1 → W p l e R s m args below meth c H1 locs1 0 0 Q (F0 m (pc + 3) ls (rv.toList ++ rest))) : W p l e R s m args below meth c H locs 0 0 Q (F0 m pc ls st0) := by
  intro T hT X
  obtain ⟨v, st₀, t, T', L, h0, X', hL, e1, e2, ⟨hv, hp, hz, hk⟩, st⟩ := hr T hT X
  cases hv
  rw [h0] at hz hk
  obtain ⟨t2, a1, b1⟩ := kk T'.heap (locs ++ L) (by rw [e1]; exact hp)
    ⟨Nat.le_trans hS.1 (by rw [e1]; exact hz), fun q g1 g2 => by rw [e1, hk q (Nat.lt_of_lt_of_le g1 hS.1) g2]; exact hS.2.1 q g1 g2, fun q hq => by
      rcases List.mem_append.mp hq with g | g
      · exact hS.2.2 q g
      · exact hL q g⟩ T' rfl X'
  exact ⟨t2, st t2 a1, b1⟩
theorem WB_blind {As : List Value} (hEx : ExOk ad n Ex) : FrameBlind (va_Pc As (WB D ids cE ad n Ex h)) := by
  intro a U g mk q
  obtain ⟨q0, q1, q2, q3⟩ := q
  exact ⟨q0, q1, va_K.moved (u := U) (U := U.calling g mk a) (Vm.Alike.refl U.vm) q2, hEx.2.1 _ _ _ _ _ q3⟩
theorem WB_pre {As : List Value} (C : CX p s m args meth c cc nL ret own D ids) (hEx : ExOk ad n Ex) (hX : Ex s s.heap) (hP : wp D cE ad n h H) (hS : va_S (inW ad n) s.heap H locs) : ∀ U : State, U.heap = H → s.WarmedH U.vm → va_Pc As (WB D ids cE ad n Ex h) As.toArray U := by
  obtain ⟨hx, hb, -, hr, hlocks, hown, hts, hK⟩ := C
  intro U hU hW
  exact ⟨rfl, by rw [hU]; exact hP, va_K.moved hW.alike hK, by rw [hU]; exact hEx.1 s U H hW (hEx.2.2 s s.heap H locs hS hX)⟩
theorem u_callV {y : MethodName} {bytes : ByteArray} {maxL index k ci : Nat} {rt : Option FieldType} {rm : Room} {As vs : List Value} {rv : Option Value} {r : vw_C} (C : CX p s m args meth c cc nL ret own D ids) (hEx : ExOk ad n Ex) (hX : Ex s s.heap)
    (hM : Met l y (ws_ y bytes maxL rt) rm (va_Pc (.ref (ad k) :: As) (WB D ids cE ad n Ex h)) (QW D cE ad n rv h1) 0 0 (inW ad n))
    (q1 : Cond.methodLink own index y ∈ W0) (q2 : Cond.instanceMethod y ∈ W0) (q3 : Cond.selects r.1 y y ∈ W0) (q4 : Cond.initialized y.cls ∈ W0) (q5 : Cond.code y bytes maxL rt ∈ W0)
    (hrm : rm.cells = 0 ∧ rm.slots = 0) (hd : y.cls ≠ "java/lang/invoke/MethodHandle" ∧ y.cls ≠ "java/lang/invoke/VarHandle" ∧ (parseMethodDescriptor y.desc).map (fun d => d.parameters.length) = some As.length) (hR : rm.frames + 1 ≤ R.frames ∧ 8 + (maxL + 11) + rm.locals ≤ R.locals)
    (hk : k < n) (he : cE k (h k) = .inr (ci, vs)) (hc : vwCl[ci]? = some r) (hP : wp D cE ad n h H) (hS : va_S (inW ad n) s.heap H locs) (hsz : ls.size = nL) (hcat : (rest.map fun v => v.category).sum ≤ 8) (hst : st0 = As.reverse ++ .ref (ad k) :: rest) (hdg : decode cc pc = .ok (.invokevirtual index, 3))
    (kk : ∀ (H1 : Heap) (locs1 : List Loc), wp D cE ad n h1 H1 → va_S (inW ad n) s.heap H1 locs1 → W p l e R s m args below meth c H1 locs1 0 0 Q (F0 m (pc + 3) ls (rv.toList ++ rest))) : W p l e R s m args below meth c H locs 0 0 Q (F0 m pc ls st0) := by
  have C0 := C
  obtain ⟨hx, hb, hml, hr, hlocks, hown, hts, hK⟩ := C
  refine u_back (va_runV (C := r.1) (b := ad k) (As := As) (rest := rest) (n := As.length) ⟨hx, hb, hml, hown, hts⟩ hM ⟨callB_of As.length hts (ws_in q5 (fun _ z => z)) rfl hrm.1 hrm.2 (hts _ q4) (hts _ q1) hd hR, hts _ q2, hts _ q3⟩ ⟨WB_blind hEx, va_recv hK hP (q0 := k) hc (by rw [wl_get hk, he]), WB_pre C0 hEx hX hP hS⟩ rfl rfl hsz hst (lv_room hcat) hdg ⟨Nat.zero_le _, Nat.zero_le _⟩) hS kk
theorem u_callS {y : MethodName} {bytes : ByteArray} {maxL index : Nat} {rt : Option FieldType} {rm : Room} {As : List Value} {rv : Option Value} (C : CX p s m args meth c cc nL ret own D ids) (hEx : ExOk ad n Ex) (hX : Ex s s.heap)
    (hM : Met l y (ws_ y bytes maxL rt) rm (va_Pc As (WB D ids cE ad n Ex h)) (QW D cE ad n rv h1) 0 0 (inW ad n))
    (q1 : Cond.methodLink own index y ∈ W0) (q2 : Cond.static y ∈ W0) (q4 : Cond.initialized y.cls ∈ W0) (q5 : Cond.code y bytes maxL rt ∈ W0)
    (hrm : rm.cells = 0 ∧ rm.slots = 0) (hd : y.cls ≠ "java/lang/invoke/MethodHandle" ∧ y.cls ≠ "java/lang/invoke/VarHandle" ∧ (parseMethodDescriptor y.desc).map (fun d => d.parameters.length) = some As.length) (hR : rm.frames + 1 ≤ R.frames ∧ 8 + (maxL + 11) + rm.locals ≤ R.locals)
    (hP : wp D cE ad n h H) (hS : va_S (inW ad n) s.heap H locs) (hsz : ls.size = nL) (hcat : (rest.map fun v => v.category).sum ≤ 8) (hst : st0 = As.reverse ++ rest) (hdg : decode cc pc = .ok (.invokestatic index, 3))
    (kk : ∀ (H1 : Heap) (locs1 : List Loc), wp D cE ad n h1 H1 → va_S (inW ad n) s.heap H1 locs1 → W p l e R s m args below meth c H1 locs1 0 0 Q (F0 m (pc + 3) ls (rv.toList ++ rest))) : W p l e R s m args below meth c H locs 0 0 Q (F0 m pc ls st0) := by
  have C0 := C
  obtain ⟨hx, hb, hml, hr, hlocks, hown, hts, hK⟩ := C
  refine u_back (va_runS (As := As) (rest := rest) (n := As.length) ⟨hx, hb, hml, hown, hts⟩ hM ⟨callB_of As.length hts (ws_in q5 (fun _ z => z)) rfl hrm.1 hrm.2 (hts _ q4) (hts _ q1) hd hR, hts _ q2⟩ ⟨WB_blind hEx, WB_pre C0 hEx hX hP hS⟩ rfl rfl hsz hst (lv_room hcat) hdg ⟨Nat.zero_le _, Nat.zero_le _⟩) hS kk
theorem u_callN {y : MethodName} {host : String} {bytes : ByteArray} {maxL index : Nat} {rt : Option FieldType} {rm : Room} {As : List Value} {rv : Option Value} (C : CX p s m args meth c cc nL ret own D ids) (hEx : ExOk ad n Ex) (hX : Ex s s.heap) (hN : va_Nw (.methodLinkNest own index y host) s)
    (hM : Met l y (ws_ y bytes maxL rt) rm (va_Pc As (WB D ids cE ad n Ex h)) (QW D cE ad n rv h1) 0 0 (inW ad n))
    (q2 : Cond.static y ∈ W0) (q4 : Cond.initialized y.cls ∈ W0) (q5 : Cond.code y bytes maxL rt ∈ W0)
    (hrm : rm.cells = 0 ∧ rm.slots = 0) (hd : y.cls ≠ "java/lang/invoke/MethodHandle" ∧ y.cls ≠ "java/lang/invoke/VarHandle" ∧ (parseMethodDescriptor y.desc).map (fun d => d.parameters.length) = some As.length) (hR : rm.frames + 1 ≤ R.frames ∧ 8 + (maxL + 11) + rm.locals ≤ R.locals)
    (hP : wp D cE ad n h H) (hS : va_S (inW ad n) s.heap H locs) (hsz : ls.size = nL) (hcat : (rest.map fun v => v.category).sum ≤ 8) (hst : st0 = As.reverse ++ rest) (hdg : decode cc pc = .ok (.invokestatic index, 3))
    (kk : ∀ (H1 : Heap) (locs1 : List Loc), wp D cE ad n h1 H1 → va_S (inW ad n) s.heap H1 locs1 → W p l e R s m args below meth c H1 locs1 0 0 Q (F0 m (pc + 3) ls (rv.toList ++ rest))) : W p l e R s m args below meth c H locs 0 0 Q (F0 m pc ls st0) := by
  have C0 := C
  obtain ⟨hx, hb, hml, hr, hlocks, hown, hts, hK⟩ := C
  refine u_back (va_runSN (As := As) (rest := rest) (n := As.length) ⟨hx, hb, hml, hown, hts⟩ hM ⟨va_cnB As.length hts (ws_in q5 (fun _ z => z)) rfl hrm.1 hrm.2 hN (hts _ q4) hd hR, hts _ q2, trivial⟩ ⟨WB_blind hEx, WB_pre C0 hEx hX hP hS⟩ rfl rfl hsz hst (lv_room hcat) hdg ⟨Nat.zero_le _, Nat.zero_le _⟩) hS kk
end UROWS
/-- a method's walk gives its contract -/
theorem u_met {l : Launch} {y : MethodName} {own : String} {bytes : ByteArray} {maxL : Nat} {rt : Option FieldType} {rm : Room} {As : List Value} {rv : Option Value} {D : va_G} {ids : Nat → ClassId} {cE : Nat → (Nat → Int32) → va_E} {ad : Nat → Nat} {n : Nat} {Ex : State → Heap → Prop} {h h1 : Hp} {lv : List (Nat × Value)} (hy : plainName y.cls = true) (hown : y.cls = own) (hsl : (lg_sl As).length ≤ maxL) (hlv : lv_args 0 As = lv)
    (body : ∀ (p : Program) (e : Env) (s : State) (m : MethodId) (args : Array Value) (below : List Frame) (meth : Method) (c : Code) (H : Heap) (ls : Array Slot), CX p s m args meth c bytes maxL rt own D ids → Ex s s.heap → wp D cE ad n h H → va_S (inW ad n) s.heap H [] → lv_has ls maxL lv → W p l e rm s m args below meth c H [] 0 0 (MQ below (QW D cE ad n rv h1) args s 0 0 (inW ad n)) (F0 m 0 ls [])) :
    Met l y (ws_ y bytes maxL rt) rm (va_Pc As (WB D ids cE ad n Ex h)) (QW D cE ad n rv h1) 0 0 (inW ad n) := by
  refine Met.ofW (cc := bytes) (maxL := maxL) (ret := rt) hy rfl ?_
  intro p e s m args below meth c s₁ B hml hv
  obtain ⟨rfl, hP, hK, hX⟩ := hv
  have hts := atoms_spec (ws := ws_ y bytes maxL rt) B.pre
  have hfc : s.vm.findClass own = some m.cls := by rw [← hown]; exact findClass_of_methodNamed B.named
  have hl := lv_entry As (n := maxL) hsl
  rw [lg_entry_eq]
  generalize (lg_sl As ++ List.replicate (maxL - (lg_sl As).length) Slot.unset).toArray = ls at hl ⊢
  rw [hlv] at hl
  exact body p e s m As.toArray below meth c s.heap ls ⟨B.exec, B.bytes, hml, B.returns, B.notSynchronized, hfc, fun w hw => hts w (List.mem_cons_of_mem _ hw), hK⟩ hX hP va_S.rf hl
