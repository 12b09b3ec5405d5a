theorem InvM.nd {u : pM} (h : InvM u) (h0 : ¬ mI u 76 10 = 0) : 10 ≤ mI u 76 10 ∧ mI u 76 10 ≤ 30 := by
  rcases h.2.1 with z | z
  · exact absurd z.1 h0
  · exact ⟨z.1, z.2.1⟩
