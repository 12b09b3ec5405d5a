theorem shO_in {u : pM} {o : Nat} {s : Int32} (h0 : 0 ≤ s) (h1 : s < mI u o 1) (h7 : s < 7) : shO u o s = R0 (o + 1) s.toNatClampNeg := by
  unfold shO
  rw [if_pos ⟨h0, h1, h7⟩]
