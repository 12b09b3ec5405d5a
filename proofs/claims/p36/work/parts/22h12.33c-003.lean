theorem IsR.le {n : Int32} {far : Nat → Int32} {m : Nat} {set r r' : Int32} (h : IsR n far m set r) (h' : IsR n far m set r') : r ≤ r' := by
  rcases h'.2.2 with e | ⟨a, b, a1, b1, c, e⟩
  · rw [e]; exact h.1.2
  · rw [e]; exact h.2.1 a b a1 b1 c
