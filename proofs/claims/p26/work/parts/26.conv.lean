/-- what the fresh object's cells hold -/
def hC0 : Hp := fun k =>
  if k < 36 then
    if k = 0 then fun _ => 0
    else if k % 5 = 1 then fun j => if j = 1 then 1 else if j = 2 then 3 else if j = 4 then 1 else 0
    else if k % 5 = 2 then fun _ => 0
    else if k % 5 = 3 then fun j => if j = 1 then 2 else if j = 2 then 6 else 0
    else if k % 5 = 4 then fun j => if j = 0 then 4 else if j = 1 then 2 else if j = 2 then 6 else if j = 3 then 1 else 0
    else fun j => if j = 0 then 8 else if j = 1 then 2 else if j = 2 then 6 else 0
  else if k = 36 then fun j => nI j
  else fun _ => 0
theorem at_refs {D : va_G} {cl : List vw_C} {a cA n : Nat} {f f' : Nat → Option Nat} {H : Heap} (h : va_at D cl (a, .inl (cA, n, .inr (.inr (.inr (.inr f))))) H) (e : ∀ i, i < n → f i = f' i) : va_at D cl (a, .inl (cA, n, .inr (.inr (.inr (.inr f'))))) H := by
  have h1 : H[a]? = some (vp_cell cA (n, .inr (.inr (.inr (.inr f))))) := h
  show H[a]? = some (vp_cell cA (n, .inr (.inr (.inr (.inr f')))))
  rw [h1, vp_cell_q, vp_cell_q]
  unfold arrV
  congr 3
  funext j
  show va_rf (f j.val) = va_rf (f' j.val)
  rw [e j.val j.isLt]
def adC0 (h0 : Nat) (u : Nat → Nat) : Nat → Nat := fun k => [h0, u 0, u 1, u 2, u 3, u 4, u 5, u 6, u 7, u 8, u 9, u 11, u 12, u 13, u 14, u 15, u 16, u 17, u 18, u 19, u 20, u 21, u 22, u 23, u 24, u 25, u 26, u 27, u 28, u 29, u 30, u 33, u 34, u 35, u 36, u 37, u 10, u 31, u 32, u 38, u 39, u 46, u 40, u 41, u 42, u 43, u 44, u 45, u 47, u 48, u 49, u 50, u 51, u 52, u 53, u 54, u 55, u 56, u 57].getD k 0
def plC0 : List Nat := [0, 1, 2, 3, 4, 5, 6, 7, 8, 9, 10, 12, 13, 14, 15, 16, 17, 18, 19, 20, 21, 22, 23, 24, 25, 26, 27, 28, 29, 30, 31, 34, 35, 36, 37, 38, 11, 32, 33, 39, 40, 47, 41, 42, 43, 44, 45, 46, 48, 49, 50, 51, 52, 53, 54, 55, 56, 57, 58]
theorem plC0_lt : ∀ k, k < 59 → plC0.getD k 0 < 59 := by decide
theorem plC0_inj : ∀ i, i < 59 → ∀ j, j < 59 → plC0.getD i 0 = plC0.getD j 0 → i = j := by decide +kernel
theorem plC0_at (ids : Nat → ClassId) (h0 : Nat) (u : Nat → Nat) : ∀ k, k < 59 → ((LKX7 ids h0 u)[plC0.getD k 0]?).map (fun q => q.1) = some (adC0 h0 u k) := by
  intro k hk
  match k, hk with
  | 0, _ => rfl
  | 1, _ => rfl
  | 2, _ => rfl
  | 3, _ => rfl
  | 4, _ => rfl
  | 5, _ => rfl
  | 6, _ => rfl
  | 7, _ => rfl
  | 8, _ => rfl
  | 9, _ => rfl
  | 10, _ => rfl
  | 11, _ => rfl
  | 12, _ => rfl
  | 13, _ => rfl
  | 14, _ => rfl
  | 15, _ => rfl
  | 16, _ => rfl
  | 17, _ => rfl
  | 18, _ => rfl
  | 19, _ => rfl
  | 20, _ => rfl
  | 21, _ => rfl
  | 22, _ => rfl
  | 23, _ => rfl
  | 24, _ => rfl
  | 25, _ => rfl
  | 26, _ => rfl
  | 27, _ => rfl
  | 28, _ => rfl
  | 29, _ => rfl
  | 30, _ => rfl
  | 31, _ => rfl
  | 32, _ => rfl
  | 33, _ => rfl
  | 34, _ => rfl
  | 35, _ => rfl
  | 36, _ => rfl
  | 37, _ => rfl
  | 38, _ => rfl
  | 39, _ => rfl
  | 40, _ => rfl
  | 41, _ => rfl
  | 42, _ => rfl
  | 43, _ => rfl
  | 44, _ => rfl
  | 45, _ => rfl
  | 46, _ => rfl
  | 47, _ => rfl
  | 48, _ => rfl
  | 49, _ => rfl
  | 50, _ => rfl
  | 51, _ => rfl
  | 52, _ => rfl
  | 53, _ => rfl
  | 54, _ => rfl
  | 55, _ => rfl
  | 56, _ => rfl
  | 57, _ => rfl
  | 58, _ => rfl
  | k + 59, hk => omega
set_option maxHeartbeats 4000000 in
set_option maxRecDepth 100000 in
theorem conv_C {D : va_G} {ids : Nat → ClassId} {h0 : Nat} {u : Nat → Nat} {H : Heap} {A : Nat → Prop} (hP : va_P D vwCl (LKX7 ids h0 u) H) (hD : va_D A (LKX7 ids h0 u)) : adC0 h0 u 0 = h0 ∧ wp D (cEC ids (adC0 h0 u)) (adC0 h0 u) 59 hC0 H ∧ adOk (adC0 h0 u) 59 ∧ ∀ k, k < 59 → A (adC0 h0 u k) := by
  have hat : ∀ k, k < 59 → ∃ q, (LKX7 ids h0 u)[plC0.getD k 0]? = some q ∧ q.1 = adC0 h0 u k := fun k hk => by
    have h1 := plC0_at ids h0 u k hk
    cases hq : (LKX7 ids h0 u)[plC0.getD k 0]? with
    | none => rw [hq] at h1; cases h1
    | some q => rw [hq] at h1; exact ⟨q, rfl, Option.some.inj h1⟩
  refine ⟨rfl, fun k q hk => ?_, fun i j hi hj e => ?_, fun k hk => ?_⟩
  · obtain ⟨hk, rfl⟩ := wl_inv hk
    match k, hk with
    | 0, _ => exact hP 0 _ rfl
    | 1, _ => exact hP 1 _ rfl
    | 2, _ => exact at_refs (hP 2 _ rfl) (fun i hi => by rcases (show i = 0 ∨ i = 1 ∨ i = 2 by omega) with rfl | rfl | rfl <;> rfl)
    | 3, _ => exact hP 3 _ rfl
    | 4, _ => exact hP 4 _ rfl
    | 5, _ => exact hP 5 _ rfl
    | 6, _ => exact hP 6 _ rfl
    | 7, _ => exact at_refs (hP 7 _ rfl) (fun i hi => by rcases (show i = 0 ∨ i = 1 ∨ i = 2 by omega) with rfl | rfl | rfl <;> rfl)
    | 8, _ => exact hP 8 _ rfl
    | 9, _ => exact hP 9 _ rfl
    | 10, _ => exact hP 10 _ rfl
    | 11, _ => exact hP 12 _ rfl
    | 12, _ => exact at_refs (hP 13 _ rfl) (fun i hi => by rcases (show i = 0 ∨ i = 1 ∨ i = 2 by omega) with rfl | rfl | rfl <;> rfl)
    | 13, _ => exact hP 14 _ rfl
    | 14, _ => exact hP 15 _ rfl
    | 15, _ => exact hP 16 _ rfl
    | 16, _ => exact hP 17 _ rfl
    | 17, _ => exact at_refs (hP 18 _ rfl) (fun i hi => by rcases (show i = 0 ∨ i = 1 ∨ i = 2 by omega) with rfl | rfl | rfl <;> rfl)
    | 18, _ => exact hP 19 _ rfl
    | 19, _ => exact hP 20 _ rfl
    | 20, _ => exact hP 21 _ rfl
    | 21, _ => exact hP 22 _ rfl
    | 22, _ => exact at_refs (hP 23 _ rfl) (fun i hi => by rcases (show i = 0 ∨ i = 1 ∨ i = 2 by omega) with rfl | rfl | rfl <;> rfl)
    | 23, _ => exact hP 24 _ rfl
    | 24, _ => exact hP 25 _ rfl
    | 25, _ => exact hP 26 _ rfl
    | 26, _ => exact hP 27 _ rfl
    | 27, _ => exact at_refs (hP 28 _ rfl) (fun i hi => by rcases (show i = 0 ∨ i = 1 ∨ i = 2 by omega) with rfl | rfl | rfl <;> rfl)
    | 28, _ => exact hP 29 _ rfl
    | 29, _ => exact hP 30 _ rfl
    | 30, _ => exact hP 31 _ rfl
    | 31, _ => exact hP 34 _ rfl
    | 32, _ => exact at_refs (hP 35 _ rfl) (fun i hi => by rcases (show i = 0 ∨ i = 1 ∨ i = 2 by omega) with rfl | rfl | rfl <;> rfl)
    | 33, _ => exact hP 36 _ rfl
    | 34, _ => exact hP 37 _ rfl
    | 35, _ => exact hP 38 _ rfl
    | 36, _ => exact at_refs (hP 11 _ rfl) (fun i hi => by rcases (show i = 0 ∨ i = 1 ∨ i = 2 ∨ i = 3 by omega) with rfl | rfl | rfl | rfl <;> rfl)
    | 37, _ => exact hP 32 _ rfl
    | 38, _ => exact hP 33 _ rfl
    | 39, _ => exact hP 39 _ rfl
    | 40, _ => exact at_refs (hP 40 _ rfl) (fun i hi => by rcases (show i = 0 ∨ i = 1 ∨ i = 2 by omega) with rfl | rfl | rfl <;> rfl)
    | 41, _ => exact hP 47 _ rfl
    | 42, _ => exact hP 41 _ rfl
    | 43, _ => exact hP 42 _ rfl
    | 44, _ => exact hP 43 _ rfl
    | 45, _ => exact hP 44 _ rfl
    | 46, _ => exact hP 45 _ rfl
    | 47, _ => exact hP 46 _ rfl
    | 48, _ => exact hP 48 _ rfl
    | 49, _ => exact at_refs (hP 49 _ rfl) (fun i hi => by rcases (show i = 0 ∨ i = 1 ∨ i = 2 by omega) with rfl | rfl | rfl <;> rfl)
    | 50, _ => exact hP 50 _ rfl
    | 51, _ => exact hP 51 _ rfl
    | 52, _ => exact hP 52 _ rfl
    | 53, _ => exact hP 53 _ rfl
    | 54, _ => exact hP 54 _ rfl
    | 55, _ => exact hP 55 _ rfl
    | 56, _ => exact hP 56 _ rfl
    | 57, _ => exact hP 57 _ rfl
    | 58, _ => exact hP 58 _ rfl
    | k + 59, hk => omega
  · obtain ⟨q1, a1, b1⟩ := hat i hi
    obtain ⟨q2, a2, b2⟩ := hat j hj
    exact plC0_inj i hi j hj (hD.1 _ _ q1 q2 a1 a2 (by rw [b1, b2, e]))
  · obtain ⟨q1, a1, b1⟩ := hat k hk
    rw [← b1]
    exact hD.2 _ q1 a1
