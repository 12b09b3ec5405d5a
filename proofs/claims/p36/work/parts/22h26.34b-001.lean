theorem cpI_ne {u : pM} {a b sp dp n x k : Nat} (h : x ≠ b) : mI (cpI u a b sp dp n) x k = mI u x k := by
  show (if x = b then _ else mI u x k) = _
  rw [if_neg h]
