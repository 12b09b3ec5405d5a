theorem cpI_at {u : pM} {a b sp dp n k : Nat} : mI (cpI u a b sp dp n) b k = cpyF (mI u a) (mI u b) sp dp n k := by
  show (if b = b then va_cpy (mI u a) (mI u b) sp dp n k else mI u b k) = _
  rw [if_pos rfl]
  rfl
