theorem lq_489 : Cond.constant RL 7 (2751653) ∈ W0 := w0_mk 489 (by decide +kernel) rfl
theorem lq_441 : Cond.methodLink RL 9 yX7_count ∈ W0 := w0_mk 441 (by decide +kernel) rfl
theorem lq_442 : Cond.instanceMethod yX7_count ∈ W0 := w0_mk 442 (by decide +kernel) rfl
theorem lq_443 : Cond.selects RX7 yX7_count yX7_count ∈ W0 := w0_mk 443 (by decide +kernel) rfl
theorem lq_8 : Cond.initialized RX7 ∈ W0 := w0_mk 8 (by decide +kernel) rfl
theorem lq_444 : Cond.code yX7_count cX7_count 2 (some .int) ∈ W0 := w0_mk 444 (by decide +kernel) rfl
theorem lq_403 : Cond.methodLink RL 15 yX7_captainOf ∈ W0 := w0_mk 403 (by decide +kernel) rfl
theorem lq_404 : Cond.instanceMethod yX7_captainOf ∈ W0 := w0_mk 404 (by decide +kernel) rfl
theorem lq_405 : Cond.selects RX7 yX7_captainOf yX7_captainOf ∈ W0 := w0_mk 405 (by decide +kernel) rfl
theorem lq_406 : Cond.code yX7_captainOf cX7_captainOf 3 (some .int) ∈ W0 := w0_mk 406 (by decide +kernel) rfl
theorem lq_168 : Cond.arrayClass .int ∈ W0 := w0_mk 168 (by decide +kernel) rfl
theorem lq_482 : Cond.methodLink RL 86 yX7_bestHour ∈ W0 := w0_mk 482 (by decide +kernel) rfl
theorem lq_483 : Cond.instanceMethod yX7_bestHour ∈ W0 := w0_mk 483 (by decide +kernel) rfl
theorem lq_484 : Cond.selects RX7 yX7_bestHour yX7_bestHour ∈ W0 := w0_mk 484 (by decide +kernel) rfl
theorem lq_485 : Cond.code yX7_bestHour cX7_bestHour 8 (some .int) ∈ W0 := w0_mk 485 (by decide +kernel) rfl
theorem lq_272 : Cond.methodLink RL 37 yX7_captain ∈ W0 := w0_mk 272 (by decide +kernel) rfl
theorem lq_273 : Cond.instanceMethod yX7_captain ∈ W0 := w0_mk 273 (by decide +kernel) rfl
theorem lq_274 : Cond.selects RX7 yX7_captain yX7_captain ∈ W0 := w0_mk 274 (by decide +kernel) rfl
theorem lq_275 : Cond.code yX7_captain cX7_captain 5 (some .int) ∈ W0 := w0_mk 275 (by decide +kernel) rfl
theorem lq_473 : Cond.methodLink RL 83 yX7_ifSailed ∈ W0 := w0_mk 473 (by decide +kernel) rfl
theorem lq_474 : Cond.instanceMethod yX7_ifSailed ∈ W0 := w0_mk 474 (by decide +kernel) rfl
theorem lq_475 : Cond.selects RX7 yX7_ifSailed yX7_ifSailed ∈ W0 := w0_mk 475 (by decide +kernel) rfl
theorem lq_476 : Cond.code yX7_ifSailed cX7_ifSailed 2 (some .int) ∈ W0 := w0_mk 476 (by decide +kernel) rfl
theorem lq_309 : Cond.methodLink RL 50 yX7_sail ∈ W0 := w0_mk 309 (by decide +kernel) rfl
theorem lq_310 : Cond.instanceMethod yX7_sail ∈ W0 := w0_mk 310 (by decide +kernel) rfl
theorem lq_311 : Cond.selects RX7 yX7_sail yX7_sail ∈ W0 := w0_mk 311 (by decide +kernel) rfl
theorem lq_312 : Cond.code yX7_sail cX7_sail 4 (some .int) ∈ W0 := w0_mk 312 (by decide +kernel) rfl
theorem lq_511 : Cond.methodLink RL 74 yL_printed ∈ W0 := w0_mk 511 (by decide +kernel) rfl
theorem lq_512 : Cond.static yL_printed ∈ W0 := w0_mk 512 (by decide +kernel) rfl
theorem lq_7 : Cond.initialized RL ∈ W0 := w0_mk 7 (by decide +kernel) rfl
theorem lq_513 : Cond.code yL_printed cL_printed 7 (some .boolean) ∈ W0 := w0_mk 513 (by decide +kernel) rfl
theorem lq_528 : Cond.methodLink RL 77 yL_accounts ∈ W0 := w0_mk 528 (by decide +kernel) rfl
theorem lq_529 : Cond.static yL_accounts ∈ W0 := w0_mk 529 (by decide +kernel) rfl
theorem lq_530 : Cond.code yL_accounts cL_accounts 7 (some .boolean) ∈ W0 := w0_mk 530 (by decide +kernel) rfl
theorem lq_500 : Cond.methodLink RL 80 yL_tides ∈ W0 := w0_mk 500 (by decide +kernel) rfl
theorem lq_501 : Cond.static yL_tides ∈ W0 := w0_mk 501 (by decide +kernel) rfl
theorem lq_502 : Cond.code yL_tides cL_tides 5 (some .boolean) ∈ W0 := w0_mk 502 (by decide +kernel) rfl
theorem lq_497 : Cond.methodLink RL 66 yL_same ∈ W0 := w0_mk 497 (by decide +kernel) rfl
theorem lq_498 : Cond.static yL_same ∈ W0 := w0_mk 498 (by decide +kernel) rfl
theorem lq_499 : Cond.code yL_same cL_same 3 (some .boolean) ∈ W0 := w0_mk 499 (by decide +kernel) rfl
theorem lq_490 : Cond.methodLink RL 32 yL_low ∈ W0 := w0_mk 490 (by decide +kernel) rfl
theorem lq_491 : Cond.static yL_low ∈ W0 := w0_mk 491 (by decide +kernel) rfl
theorem lq_492 : Cond.code yL_low cL_low 2 (some .int) ∈ W0 := w0_mk 492 (by decide +kernel) rfl
theorem lq_399 : Cond.methodLink RL 70 yX7_undo ∈ W0 := w0_mk 399 (by decide +kernel) rfl
theorem lq_400 : Cond.instanceMethod yX7_undo ∈ W0 := w0_mk 400 (by decide +kernel) rfl
theorem lq_401 : Cond.selects RX7 yX7_undo yX7_undo ∈ W0 := w0_mk 401 (by decide +kernel) rfl
theorem lq_402 : Cond.code yX7_undo cX7_undo 2 (some .int) ∈ W0 := w0_mk 402 (by decide +kernel) rfl
theorem lq_494 : Cond.methodLink RL 58 yL_tell ∈ W0 := w0_mk 494 (by decide +kernel) rfl
theorem lq_495 : Cond.static yL_tell ∈ W0 := w0_mk 495 (by decide +kernel) rfl
theorem lq_496 : Cond.code yL_tell cL_tell 4 (some (.array .int)) ∈ W0 := w0_mk 496 (by decide +kernel) rfl
theorem lq_531 : Cond.methodLink RL 62 yL_act ∈ W0 := w0_mk 531 (by decide +kernel) rfl
theorem lq_532 : Cond.static yL_act ∈ W0 := w0_mk 532 (by decide +kernel) rfl
theorem lq_533 : Cond.code yL_act cL_act 5 (some .int) ∈ W0 := w0_mk 533 (by decide +kernel) rfl
theorem lq_486 : Cond.methodLink RL 54 yL_cell ∈ W0 := w0_mk 486 (by decide +kernel) rfl
theorem lq_487 : Cond.static yL_cell ∈ W0 := w0_mk 487 (by decide +kernel) rfl
theorem lq_488 : Cond.code yL_cell cL_cell 2 (some .int) ∈ W0 := w0_mk 488 (by decide +kernel) rfl
theorem lq_432 : Cond.methodLink RL 29 yX7_uses ∈ W0 := w0_mk 432 (by decide +kernel) rfl
theorem lq_433 : Cond.instanceMethod yX7_uses ∈ W0 := w0_mk 433 (by decide +kernel) rfl
theorem lq_434 : Cond.selects RX7 yX7_uses yX7_uses ∈ W0 := w0_mk 434 (by decide +kernel) rfl
theorem lq_435 : Cond.code yX7_uses cX7_uses 3 (some .int) ∈ W0 := w0_mk 435 (by decide +kernel) rfl
theorem lq_18 : Cond.classLink RL 10 RX7 ∈ W0 := w0_mk 18 (by decide +kernel) rfl
theorem lq_19 : Cond.instantiable RX7 9 ∈ W0 := w0_mk 19 (by decide +kernel) rfl
theorem lq_20 : Cond.methodLink RL 53 yX7_init ∈ W0 := w0_mk 20 (by decide +kernel) rfl
theorem lq_21 : Cond.instanceMethod yX7_init ∈ W0 := w0_mk 21 (by decide +kernel) rfl
theorem lq_22 : Cond.code yX7_init cX7_init 1 none ∈ W0 := w0_mk 22 (by decide +kernel) rfl
/-! THE CLAIM OUT OF ONE WALK OF THE LAW'S BODY. Your part is whole_start (and what it stands on); all else here is the same for every law, but numbers. -/
def R_law : String := "CaptainTidesLaw"
def lw_P (b : Addr) (xs : List Int32) (args : Array Value) (s : State) : Prop := args = #[.ref b] ∧ s.IntsAt b xs ∧ xs.length ≤ 260 ∧ (Jvm.Cond.and given_1 narrow_1).before args s = true
def lw_Q (_ : Array Value) (s : State) (o : Outcome) (t : State) : Prop := o = .returned (some (.int 1)) ∧ Framed s o t [] 600000 7302250
def lw_Z (below : List Frame) (a : Array Value) (s : State) : State → Prop := fun t => ∃ o, t.status = .running ∧ Ended t below o ∧ lw_Q a s o t
/-- the law's own end, with 1 on the stack, nothing written that was there before, its room as the claim has it -/
theorem lw_ret {p : Program} {l : Launch} {e : Env} {s : State} {m : MethodId} {below : List Frame} {meth : Method} {c : Code} {b : Nat} (hx : p.tables.exec = Jvm.exec) (hb : c.code = code) (hr : meth.sig.returnType = ret) (hlocks : meth.locks = false) {pc : Nat} {H : Heap} {ls : Array Slot} (hdg : decode code pc = .ok (.ireturn, 1)) : W p l e room_1 s m #[Value.ref b] below meth c H [] 600000 7302250 (lw_Z below #[Value.ref b] s) (F0 m pc ls [.int 1]) := by
  intro T hT X
  obtain ⟨fs, hret, hrun, hended, hW, hframe⟩ := X.leave (v := some (.int 1)) (hlocks := hlocks) (fun h => by rw [hr] at h; cases h)
  have hmeth' : T.vm.method? m = some meth := X.method'
  refine ⟨T.setFrames fs, ?_, .returned (some (.int 1)), hrun, hended, rfl, ⟨_, rfl⟩, hW, hframe⟩
  jvm_step X.here [X.here.top, hx, hb, hdg, hmeth', hr, ret, narrow_b1]
  (try refine ⟨rfl, ?_⟩); (try refine ⟨rfl, ?_⟩)
  first | (intro acts; rw [hret _ acts rfl rfl rfl]) | rw [hret _ _ rfl rfl rfl]
  exact Steps.refl _
/-- what holds at the law's entry: the machine, the code, the tables' words (any of lw_tbl by 'hts w (by decide +kernel)'), the script of L ints xs at the cell b, what the Statement gives of the start (any of its parts by flat_of_before) -/
def lw_At (p : Program) (s : State) (m : MethodId) (meth : Method) (c : Code) (b L : Nat) (xs : Nat → Int32) : Prop :=
  p.tables.exec = Jvm.exec ∧ c.code = code ∧ meth.sig.returnType = ret ∧ c.maxLocals = 17 ∧ s.vm.findClass R_law = some m.cls ∧ (∀ w ∈ lw_tbl, w.before #[Value.ref b] s = true) ∧ va_X b L xs s s.heap ∧ b < s.heap.size ∧ meth.locks = false ∧ (Jvm.Cond.and given_1 narrow_1).before #[Value.ref b] s = true
/-! THE LAW'S GROUND: the class's cells beside rows of 48 ints -/
def tabG (A : Nat → Prop) (C nm : String) (t N : Nat) (f : Nat → Int32) (U : State) (H : Heap) : Prop := va_Z C nm "[I" (.ref t) A U H ∧ va_T .int t N (fun j => .int (f j)) A U H
def lawG (ad tt : Nat → Nat) (b L : Nat) (xs : Nat → Int32) (s : State) : Prop :=
  adOk ad 59 ∧ (∀ q, inW ad 59 q → s.heap.size ≤ q) ∧ va_X b L xs s s.heap ∧ b < s.heap.size ∧ nestT s ∧
  tabG (fun q : Nat => s.heap.size ≤ q) RX7 "LEAST_OF_CAPTAIN" (tt 0) 4 sL0 s s.heap ∧ tabG (fun q : Nat => s.heap.size ≤ q) RX7 "GREATEST_OF_CAPTAIN" (tt 1) 4 sG0 s s.heap ∧ tabG (fun q : Nat => s.heap.size ≤ q) RX7 "LEAST_OF_SETTING" (tt 2) 2 sL1 s s.heap ∧ tabG (fun q : Nat => s.heap.size ≤ q) RX7 "GREATEST_OF_SETTING" (tt 3) 2 sG1 s s.heap
theorem tabG_at {ad : Nat → Nat} {s U : State} {H : Heap} {locs : List Loc} {C nm : String} {t N : Nat} {f : Nat → Int32} (hA : ∀ q, inW ad 59 q → s.heap.size ≤ q) (hS : va_S (fun q : Nat => s.heap.size ≤ q) s.heap H locs) (hW : s.vm.Alike U.vm) (h : tabG (fun q : Nat => s.heap.size ≤ q) C nm t N f s s.heap) : tabT ad C nm t N f U H :=
  ⟨(((h.1.kept hS.2.1).narrow hA).moved hW), (((h.2.kept hS.2.1).narrow hA).moved hW)⟩
theorem nest_w {s U : State} (hW : s.WarmedH U.vm) (h : nestT s) : nestT U := by
  obtain ⟨n0, n1⟩ := h
  exact ⟨va_Nw.warmM hW n0, va_Nw.warmM hW n1⟩
theorem lawEx {ad tt : Nat → Nat} {b L : Nat} {xs : Nat → Int32} {s : State} {H : Heap} {locs : List Loc} (G : lawG ad tt b L xs s) (hS : va_S (fun q : Nat => s.heap.size ≤ q) s.heap H locs) : ∀ U : State, U.heap = H → s.WarmedH U.vm → ExC tt ad U U.heap := by
  obtain ⟨hA, hg, hX, hbl, hN, t0, t1, t2, t3⟩ := G
  intro U hU hW
  rw [hU]
  have hV : s.vm.Alike U.vm := hW.alike
  exact ⟨nest_w hW hN, tabG_at hg hS hV t0, tabG_at hg hS hV t1, tabG_at hg hS hV t2, tabG_at hg hS hV t3⟩
theorem wp_keep {D : va_G} {cE : Nat → (Nat → Int32) → va_E} {ad : Nat → Nat} {n : Nat} {h : Hp} {H H1 : Heap} {A : Nat → Prop} (hP : wp D cE ad n h H) (hd : ∀ q, inW ad n q → ¬ A q) (hk : ∀ q : Nat, q < H.size → ¬ A q → H1[q]? = H[q]?) : wp D cE ad n h H1 := by
  refine va_P.kept hP (fun k q hq => ?_)
  have hlt := (hP k q hq).lt
  obtain ⟨hkn, rfl⟩ := wl_inv hq
  exact hk _ hlt (hd _ ⟨k, hkn, rfl⟩)
theorem wp_lt {D : va_G} {cE : Nat → (Nat → Int32) → va_E} {ad : Nat → Nat} {n : Nat} {h : Hp} {H : Heap} (hP : wp D cE ad n h H) {q : Nat} (hq : inW ad n q) : q < H.size := by
  obtain ⟨k, hk, rfl⟩ := hq
  exact (hP k _ (wl_get hk)).lt
theorem va_P_l {D : va_G} {cl : List vw_C} {w1 w2 : va_W} {H : Heap} (h : va_P D cl (w1 ++ w2) H) : va_P D cl w1 H := fun k q hk => h k q (by rw [List.getElem?_append_left (List.getElem?_eq_some_iff.mp hk).1]; exact hk)
theorem va_P_r {D : va_G} {cl : List vw_C} {w1 w2 : va_W} {H : Heap} (h : va_P D cl (w1 ++ w2) H) : va_P D cl w2 H := fun k q hk => h (w1.length + k) q (pfx_get hk)
theorem va_P_app {D : va_G} {cl : List vw_C} {w1 w2 : va_W} {H : Heap} (h1 : va_P D cl w1 H) (h2 : va_P D cl w2 H) : va_P D cl (w1 ++ w2) H := fun k q hk => by
  rcases Nat.lt_or_ge k w1.length with z | z
  · rw [List.getElem?_append_left z] at hk
    exact h1 k q hk
  · rw [List.getElem?_append_right z] at hk
    exact h2 _ q hk
/-- a row of 48 ints -/
def AW (D : va_G) (ids : Nat → ClassId) (a : Nat) (f : Nat → Int32) (H : Heap) : Prop := va_P D vwCl [(a, .inl (ids 1, 48, .inl f))] H
theorem AW_lt {D : va_G} {ids : Nat → ClassId} {a : Nat} {f : Nat → Int32} {H : Heap} (hW : AW D ids a f H) : a < H.size := (hW 0 _ rfl).lt
theorem AW_keep {D : va_G} {ids : Nat → ClassId} {a : Nat} {f : Nat → Int32} {H H1 : Heap} {A : Nat → Prop} (hW : AW D ids a f H) (hn : ¬ A a) (hk : ∀ q : Nat, q < H.size → ¬ A q → H1[q]? = H[q]?) : AW D ids a f H1 := by
  refine va_P.kept hW (fun k q hq => ?_)
  have hl : k < 1 := (List.getElem?_eq_some_iff.mp hq).1
  have h0 : k = 0 := by omega
  subst h0
  cases hq
  exact hk _ (AW_lt hW) hn
theorem D_app {A : Nat → Prop} {ad : Nat → Nat} {a : Nat} {g : Nat → va_E} {e : va_E} (hA : adOk ad 59) (hin : ∀ q, inW ad 59 q → A q) (hne : ¬ inW ad 59 a) (ha : A a) : va_D A (wl ad 59 g ++ [(a, e)]) := by
  have sp : ∀ (k : Nat) (q : Nat × va_E), (wl ad 59 g ++ [(a, e)])[k]? = some q → (k < 59 ∧ q.1 = ad k) ∨ (k = 59 ∧ q.1 = a) := fun k q hk => by
    rcases Nat.lt_or_ge k 59 with z | z
    · rw [List.getElem?_append_left (by rw [wl_len]; exact z)] at hk
      obtain ⟨-, rfl⟩ := wl_inv hk
      exact Or.inl ⟨z, rfl⟩
    · rw [List.getElem?_append_right (by rw [wl_len]; exact z), wl_len] at hk
      have h1 : k - 59 < 1 := (List.getElem?_eq_some_iff.mp hk).1
      have h2 : k = 59 := by omega
      subst h2
      cases hk
      exact Or.inr ⟨rfl, rfl⟩
  refine ⟨fun i j p q hi hj hpq => ?_, fun k q hk => ?_⟩
  · rcases sp i p hi with ⟨i1, i2⟩ | ⟨i1, i2⟩ <;> rcases sp j q hj with ⟨j1, j2⟩ | ⟨j1, j2⟩
    · exact hA i j i1 j1 (by rw [← i2, ← j2, hpq])
    · exact absurd ⟨i, i1, by rw [← i2, hpq, j2]⟩ hne
    · exact absurd ⟨j, j1, by rw [← j2, ← hpq, i2]⟩ hne
    · rw [i1, j1]
  · rcases sp k q hk with ⟨k1, k2⟩ | ⟨k1, k2⟩
    · rw [k2]
      exact hin _ ⟨k, k1, rfl⟩
    · rw [k2]
      exact ha
theorem exC_k {tt ad : Nat → Nat} {s : State} {H0 H : Heap} (hk : ∀ q : Nat, q < H0.size → ¬ inW ad 59 q → H[q]? = H0[q]?) (h : ExC tt ad s H0) : ExC tt ad s H := by
  obtain ⟨hn, h1, h2, h3, h4⟩ := h
  exact ⟨hn, ⟨h1.1.kept hk, h1.2.kept hk⟩, ⟨h2.1.kept hk, h2.2.kept hk⟩, ⟨h3.1.kept hk, h3.2.kept hk⟩, ⟨h4.1.kept hk, h4.2.kept hk⟩⟩
/-- the script, that nobody writes -/
def ExX (b L : Nat) (xs : Nat → Int32) : State → Heap → Prop := fun U H => va_X b L xs U H
theorem va_X_lt {b L : Nat} {xs : Nat → Int32} {U : State} {H : Heap} (h : va_X b L xs U H) : b < H.size := by
  obtain ⟨scr, h1, -⟩ := h
  exact (Array.getElem?_eq_some_iff.mp h1).1
theorem inW_0 {ad : Nat → Nat} {q : Nat} : ¬ inW ad 0 q := fun ⟨k, hk, _⟩ => absurd hk (Nat.not_lt_zero k)
theorem exX_ok {ad : Nat → Nat} {b L : Nat} {xs : Nat → Int32} : ExOk ad 0 (ExX b L xs) := ⟨fun _ _ _ hW h => va_X.moved hW.alike h, fun U _ _ _ _ h => va_X.moved (u := U) (Vm.Alike.refl U.vm) h, fun _ _ _ _ hS h => va_X.kept h (hS.2.1 b (va_X_lt h) inW_0)⟩
theorem wp_0 {D : va_G} {cE : Nat → (Nat → Int32) → va_E} {ad : Nat → Nat} {h : Hp} {H : Heap} : wp D cE ad 0 h H := fun k q hk => absurd (wl_inv hk).1 (Nat.not_lt_zero k)
/-- the world that tell begins with; what it makes -/
def TB (D : va_G) (ids : Nat → ClassId) (ad tt : Nat → Nat) (h : Hp) (sz : Nat) (U : State) : Prop := U.heap.size = sz ∧ WB D ids (cEC ids ad) ad 59 (ExC tt ad) h U
def TA (ad : Nat → Nat) (sz : Nat) : Nat → Prop := fun q => inW ad 59 q ∨ sz ≤ q
def TQ (D : va_G) (ids : Nat → ClassId) (ad : Nat → Nat) (r : Nat → Int32) (h0 : Hp) (sz : Nat) : Array Value → State → Outcome → State → Prop := fun _ st oc t => ∃ (a : Nat) (h1 : Hp) (f : Nat → Int32), oc = .returned (some (.ref a)) ∧ sz ≤ a ∧ RD h0 h1 ∧ (∀ k, k < 45 → f k = TL r k) ∧ wp D (cEC ids ad) ad 59 h1 t.heap ∧ AW D ids a f t.heap ∧ va_F (TA ad sz) st t
theorem TB_blind {As : List Value} {D : va_G} {ids : Nat → ClassId} {ad tt : Nat → Nat} {h : Hp} {sz : Nat} (hEx : ExOk ad 59 (ExC tt ad)) : FrameBlind (va_Pc As (TB D ids ad tt h sz)) := by
  intro a U g mk q
  obtain ⟨q0, qs, q1, q2, q3⟩ := q
  exact ⟨q0, qs, q1, va_K.moved (u := U) (U := U.calling g mk a) (Vm.Alike.refl U.vm) q2, hEx.2.1 _ _ _ _ _ q3⟩
section LROWS
variable {p : Program} {l : Launch} {e : Env} {R : Room} {s : State} {m : MethodId} {args : Array Value} {below : List Frame} {meth : Method} {c : Code} {H : Heap} {locs : List Loc} {cells slots : Nat} {Q : State → Prop}
variable {cc : ByteArray} {nL : Nat} {ret : Option FieldType} {own : String} {pc : Nat} {ls : Array Slot} {rest st0 : List Value} {D : va_G} {ids : Nat → ClassId} {cE : Nat → (Nat → Int32) → va_E} {ad tt : Nat → Nat} {n : Nat} {Ex : State → Heap → Prop} {h h1 : Hp} {A : Nat → Prop}
/-- a static method's call, where the caller may change more -/
theorem u_callSF {y : MethodName} {bytes : ByteArray} {maxL index : Nat} {rt : Option FieldType} {rm : Room} {As : List Value} {rv : Option Value} (C : CX p s m args meth c cc nL ret own D ids) (hEx : ExOk ad n Ex)
    (hM : Met l y (ws_ y bytes maxL rt) rm (va_Pc As (WB D ids cE ad n Ex h)) (QW D cE ad n rv h1) 0 0 (inW ad n))
    (q1 : Cond.methodLink own index y ∈ W0) (q2 : Cond.static y ∈ W0) (q4 : Cond.initialized y.cls ∈ W0) (q5 : Cond.code y bytes maxL rt ∈ W0)
    (hrm : rm.cells = 0 ∧ rm.slots = 0) (hd : y.cls ≠ "java/lang/invoke/MethodHandle" ∧ y.cls ≠ "java/lang/invoke/VarHandle" ∧ (parseMethodDescriptor y.desc).map (fun d => d.parameters.length) = some As.length) (hR : rm.frames + 1 ≤ R.frames ∧ 8 + (maxL + 11) + rm.locals ≤ R.locals) (hcs : cells ≤ R.cells ∧ slots ≤ R.slots)
    (hP : wp D cE ad n h H) (hS : va_S A s.heap H locs) (hAw : ∀ q, inW ad n q → A q) (hX : ∀ U : State, U.heap = H → s.WarmedH U.vm → Ex U U.heap) (hsz : ls.size = nL) (hcat : (rest.map fun v => v.category).sum ≤ 8) (hst : st0 = As.reverse ++ rest) (hdg : decode cc pc = .ok (.invokestatic index, 3))
    (kk : ∀ (H1 : Heap) (locs1 : List Loc), wp D cE ad n h1 H1 → (∀ q : Nat, q < H.size → ¬ inW ad n q → H1[q]? = H[q]?) → va_S A s.heap H1 locs1 → W p l e R s m args below meth c H1 locs1 cells slots Q (F0 m (pc + 3) ls (rv.toList ++ rest))) : W p l e R s m args below meth c H locs cells slots Q (F0 m pc ls st0) := by
  have C0 := C
  obtain ⟨hx, hb, hml, hr, hlocks, hown, hts, hK⟩ := C
  refine u_backG (va_runS (As := As) (rest := rest) (n := As.length) ⟨hx, hb, hml, hown, hts⟩ hM ⟨callB_of As.length hts (ws_in q5 (fun _ z => z)) rfl hrm.1 hrm.2 (hts _ q4) (hts _ q1) hd hR, hts _ q2⟩ ⟨WB_blind hEx, WB_preG C0 hX hP⟩ rfl rfl hsz hst (lv_room hcat) hdg hcs) hS hAw kk
theorem TB_pre {As : List Value} (C : CX p s m args meth c cc nL ret own D ids) (hX : ∀ U : State, U.heap = H → s.WarmedH U.vm → ExC tt ad U U.heap) (hP : wp D (cEC ids ad) ad 59 h H) : ∀ U : State, U.heap = H → s.WarmedH U.vm → va_Pc As (TB D ids ad tt h H.size) As.toArray U := by
  intro U hU hW
  obtain ⟨a, b⟩ := WB_preG (As := As) C hX hP U hU hW
  exact ⟨a, by rw [hU], b⟩
/-- tell is called -/
theorem t_call {rm : Room} {r : Nat → Int32} {index : Nat} (C : CX p s m args meth c cc nL ret own D ids) (hEx : ExOk ad 59 (ExC tt ad))
    (hM : Met l yL_tell (ws_ yL_tell cL_tell 4 (some (.array .int))) rm (va_Pc [.ref (ad 0)] (TB D ids ad tt h H.size)) (TQ D ids ad r h H.size) 1 48 (TA ad H.size))
    (q1 : Cond.methodLink own index yL_tell ∈ W0) (q2 : Cond.static yL_tell ∈ W0) (q4 : Cond.initialized yL_tell.cls ∈ W0) (q5 : Cond.code yL_tell cL_tell 4 (some (.array .int)) ∈ W0)
    (hrm : rm.cells = 1 ∧ rm.slots = 48) (hd : yL_tell.cls ≠ "java/lang/invoke/MethodHandle" ∧ yL_tell.cls ≠ "java/lang/invoke/VarHandle" ∧ (parseMethodDescriptor yL_tell.desc).map (fun d => d.parameters.length) = some 1) (hR : rm.frames + 1 ≤ R.frames ∧ 8 + (4 + 11) + rm.locals ≤ R.locals) (hcs : cells + 1 ≤ R.cells ∧ slots + 48 ≤ R.slots)
    (hP : wp D (cEC ids ad) ad 59 h H) (hS : va_S A s.heap H locs) (hAw : ∀ q, inW ad 59 q → A q) (hA : ∀ q : Nat, s.heap.size ≤ q → A q) (hX : ∀ U : State, U.heap = H → s.WarmedH U.vm → ExC tt ad U U.heap) (hsz : ls.size = nL) (hcat : (rest.map fun v => v.category).sum ≤ 8) (hdg : decode cc pc = .ok (.invokestatic index, 3))
    (kk : ∀ (a : Nat) (h1 : Hp) (f : Nat → Int32) (H1 : Heap) (locs1 : List Loc), H.size ≤ a → ¬ inW ad 59 a → RD h h1 → (∀ k, k < 45 → f k = TL r k) → wp D (cEC ids ad) ad 59 h1 H1 → AW D ids a f H1 → (∀ q : Nat, q < H.size → ¬ inW ad 59 q → H1[q]? = H[q]?) → va_S A s.heap H1 locs1 → W p l e R s m args below meth c H1 locs1 (cells + 1) (slots + 48) Q (F0 m (pc + 3) ls (.ref a :: rest))) : W p l e R s m args below meth c H locs cells slots Q (F0 m pc ls (.ref (ad 0) :: rest)) := by
  have C0 := C
  obtain ⟨hx, hb, hml, hr, hlocks, hown, hts, hK⟩ := C
  have hr : va_Run p l e R s m args below meth c H locs cells slots 1 48 (F0 m pc ls (.ref (ad 0) :: rest)) rest (TQ D ids ad r h H.size [Value.ref (ad 0)].toArray) (TA ad H.size) := va_runS (As := [.ref (ad 0)]) (rest := rest) (n := 1) ⟨hx, hb, hml, hown, hts⟩ hM ⟨callB_of 1 hts (ws_in q5 (fun _ z => z)) rfl hrm.1 hrm.2 (hts _ q4) (hts _ q1) hd hR, hts _ q2⟩ ⟨TB_blind hEx, TB_pre C0 hX hP⟩ rfl rfl hsz rfl (lv_room hcat) hdg hcs
  have hF : ∀ q : Nat, TA ad H.size q → A q := fun q hq => hq.elim (fun z => hAw q z) (fun z => hA q (Nat.le_trans hS.1 z))
  intro T hT X
  obtain ⟨v, st₀, t, T', Lo, h0, X', hL, e1, e2, ⟨a, h1, f, hv, ha, hrd, hf, hp, hw, hz, hk⟩, st⟩ := hr T hT X
  cases hv
  rw [h0] at hz hk
  obtain ⟨t2, a1, b1⟩ := kk a h1 f T'.heap (locs ++ Lo) ha (fun z => absurd (wp_lt hP z) (Nat.not_lt.mpr ha)) hrd hf (by rw [e1]; exact hp) (by rw [e1]; exact hw)
    (fun q g1 g2 => by rw [e1]; exact hk q g1 (fun z => z.elim g2 (fun y => absurd g1 (Nat.not_lt.mpr y))))
    ⟨Nat.le_trans hS.1 (by rw [e1]; exact hz), fun q g1 g2 => by rw [e1, hk q (Nat.lt_of_lt_of_le g1 hS.1) (fun z => g2 (hF q z))]; exact hS.2.1 q g1 g2, fun q hq => by
      rcases List.mem_append.mp hq with g | g
      · exact hS.2.2 q g
      · exact hF _ (hL q g)⟩ T' rfl X'
  exact ⟨t2, st t2 a1, b1⟩
/-- an int is put into a row of 48 ints -/
theorem tl_iast (hA : adOk ad 59) (C : CX p s m args meth c cc nL ret own D ids) {a : Nat} {f : Nat → Int32} (hna : ¬ inW ad 59 a) (haA : A a) (hAw : ∀ q, inW ad 59 q → A q) (hP : wp D (cEC ids ad) ad 59 h H) (hW : AW D ids a f H) (hS : va_S A s.heap H locs) {i x : Int32} (hin : vp_in i 48) (hdg : decode cc pc = .ok (.iastore, 1))
    (kk : ∀ (H1 : Heap) (locs1 : List Loc), wp D (cEC ids ad) ad 59 h H1 → AW D ids a (upd f i.toNatClampNeg x) H1 → va_S A s.heap H1 locs1 → W p l e R s m args below meth c H1 locs1 cells slots Q (F0 m (pc + 1) ls rest)) : W p l e R s m args below meth c H locs cells slots Q (F0 m pc ls (.int x :: .int i :: .ref a :: rest)) :=
  kp_iast C (Wp := wl ad 59 (fun k => cEC ids ad k (h k))) (L := [(a, .inl (ids 1, 48, .inl f))]) (va_P_app hP hW) (D_app hA hAw hna haA) hS 0 rfl hin hdg (fun H1 locs1 hP1 _ hS1 => kk H1 locs1 (va_P_l hP1) (va_P_r hP1) hS1)
def ad2 (a b : Nat) : Nat → Nat := fun k => match k with
  | 0 => a
  | _ => b
def hp2 (f g : Nat → Int32) : Hp := fun k => match k with
  | 0 => f
  | _ => g
theorem ad2_in {a b q : Nat} (h : inW (ad2 a b) 2 q) : q = a ∨ q = b := by
  obtain ⟨k, hk, rfl⟩ := h
  rcases (show k = 0 ∨ k = 1 by omega) with rfl | rfl
  · exact Or.inl rfl
  · exact Or.inr rfl
theorem ad2_ok {a b : Nat} (h : a ≠ b) : adOk (ad2 a b) 2 := fun i j hi hj e => by
  rcases (show i = 0 ∨ i = 1 by omega) with rfl | rfl <;> rcases (show j = 0 ∨ j = 1 by omega) with rfl | rfl
  · rfl
  · exact absurd e h
  · exact absurd (Eq.symm e) h
  · rfl
/-- same is called, on rows that are the same as far as it looks -/
theorem s_call {index a b : Nat} {f g : Nat → Int32} (C : CX p s m args meth c cc nL ret own D ids) (hab : a ≠ b) (ef : ∀ k, k < 45 → f k = g k)
    (q1 : Cond.methodLink own index yL_same ∈ W0) (q2 : Cond.static yL_same ∈ W0) (q4 : Cond.initialized yL_same.cls ∈ W0) (q5 : Cond.code yL_same cL_same 3 (some .boolean) ∈ W0)
    (hR : rm_L_same.frames + 1 ≤ R.frames ∧ 8 + (3 + 11) + rm_L_same.locals ≤ R.locals) (hcs : cells ≤ R.cells ∧ slots ≤ R.slots)
    (hWa : AW D ids a f H) (hWb : AW D ids b g H) (hS : va_S A s.heap H locs) (haA : A a) (hbA : A b) (hsz : ls.size = nL) (hcat : (rest.map fun v => v.category).sum ≤ 8) (hdg : decode cc pc = .ok (.invokestatic index, 3))
    (kk : ∀ (H1 : Heap) (locs1 : List Loc), AW D ids a f H1 → AW D ids b g H1 → (∀ q : Nat, q < H.size → ¬ (q = a ∨ q = b) → H1[q]? = H[q]?) → va_S A s.heap H1 locs1 → W p l e R s m args below meth c H1 locs1 cells slots Q (F0 m (pc + 3) ls (.int (1 : Int32) :: rest))) : W p l e R s m args below meth c H locs cells slots Q (F0 m pc ls (.ref b :: .ref a :: rest)) := by
  have hf : f_L_same (hp2 f g) = some ((1 : Int32), hp2 f g) := L_same (h := hp2 f g) ef
  have hP : wp D (cEA ids) (ad2 a b) 2 (hp2 f g) H := va_P_app hWa hWb
  exact u_callSF (As := [.ref (ad2 a b 0), .ref (ad2 a b 1)]) (rv := some (.int (1 : Int32))) C exA_ok (c_L_same l D ids (ad2 a b) (ad2_ok hab) hf) q1 q2 q4 q5 ⟨rfl, rfl⟩ (by refine ⟨by decide +kernel, by decide +kernel, ?_⟩; show _ = some 2; decide +kernel) hR hcs hP hS (fun q hq => (ad2_in hq).elim (fun z => by rw [z]; exact haA) (fun z => by rw [z]; exact hbA)) (fun _ _ _ => trivial) hsz hcat rfl hdg (fun H1 locs1 hP1 hk1 hS1 => kk H1 locs1 (va_P_l (w1 := [(a, .inl (ids 1, 48, .inl f))]) (w2 := [(b, .inl (ids 1, 48, .inl g))]) hP1) (va_P_r (w1 := [(a, .inl (ids 1, 48, .inl f))]) (w2 := [(b, .inl (ids 1, 48, .inl g))]) hP1) (fun q g1 g2 => hk1 q g1 (fun z => g2 (ad2_in z))) hS1)
end LROWS
/-- tell's walk gives its contract -/
theorem t_met {l : Launch} {y : MethodName} {own : String} {bytes : ByteArray} {maxL : Nat} {rt : Option FieldType} {rm : Room} {As : List Value} {D : va_G} {ids : Nat → ClassId} {ad tt : Nat → Nat} {h : Hp} {lv : List (Nat × Value)} {Qc : Array Value → State → Outcome → State → Prop} {mc ms sz : Nat} {free : Nat → Prop} (hy : plainName y.cls = true) (hown : y.cls = own) (hsl : (lg_sl As).length ≤ maxL) (hlv : lv_args 0 As = lv)
    (body : ∀ (p : Program) (e : Env) (s : State) (m : MethodId) (args : Array Value) (below : List Frame) (meth : Method) (c : Code) (H : Heap) (ls : Array Slot), CX p s m args meth c bytes maxL rt own D ids → ExC tt ad s s.heap → s.heap.size = sz → wp D (cEC ids ad) ad 59 h H → va_S free s.heap H [] → lv_has ls maxL lv → W p l e rm s m args below meth c H [] 0 0 (MQ below Qc args s mc ms free) (F0 m 0 ls [])) :
    Met l y (ws_ y bytes maxL rt) rm (va_Pc As (TB D ids ad tt h sz)) Qc mc ms free := by
  refine Met.ofW (cc := bytes) (maxL := maxL) (ret := rt) hy rfl ?_
  intro p e s m args below meth c s₁ B hml hv
  obtain ⟨rfl, hsz, hP, hK, hX⟩ := hv
  have hts := atoms_spec (ws := ws_ y bytes maxL rt) B.pre
  have hfc : s.vm.findClass own = some m.cls := by rw [← hown]; exact findClass_of_methodNamed B.named
  have hl := lv_entry As (n := maxL) hsl
  rw [lg_entry_eq]
  generalize (lg_sl As ++ List.replicate (maxL - (lg_sl As).length) Slot.unset).toArray = ls at hl ⊢
  rw [hlv] at hl
  exact body p e s m As.toArray below meth c s.heap ls ⟨B.exec, B.bytes, hml, B.returns, B.notSynchronized, hfc, fun w hw => hts w (List.mem_cons_of_mem _ hw), hK⟩ hX hsz hP va_S.rf hl
