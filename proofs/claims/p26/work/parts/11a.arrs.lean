/-! two rows of 48 ints side by side: what same(a, b) reads -/
def cEA (ids : Nat → ClassId) (_ : Nat) (r : Nat → Int32) : va_E := .inl (ids 1, 48, .inl r)
theorem cE_w0 {ids : Nat → ClassId} (r : Nat → Int32) : cEA ids 0 r = .inl (ids 1, 48, .inl r) := rfl
theorem cE_w1 {ids : Nat → ClassId} (r : Nat → Int32) : cEA ids 1 r = .inl (ids 1, 48, .inl r) := rfl
theorem exA_ok {ad : Nat → Nat} : ExOk ad 2 ExM := ⟨fun _ _ _ _ _ => trivial, fun _ _ _ _ _ _ => trivial, fun _ _ _ _ _ _ => trivial⟩
