/-! ===== answers that need the square's numbers alone ===== -/
theorem RX.qb {u u1 u2 : pM} (h : RX u) (hM : InvM u) (q1 : Cl qB u u1) (q2 : Mo mB u1 u2) : RX u2 := (h.cl hM q1 (by decide)).mo q1.1 (hM.clx q1) q2 (by decide)
theorem X_walk {u u1 u2 : pM} {x1 x2 a1 a2 : Int32} (h : RX u) (_ : InvC u) (hM : InvM u) (q1 : Cl qB u u1 ∧ walV (mI u (mR u 2 10) 0) x1 x2 = a1) (q2 : Mo mB u1 u2 ∧ walV (mI u1 76 10) x1 x2 = a2) : a1 = a2 ∧ RX u2 := ⟨by rw [← q1.2, ← q2.2, (h.rn q1.1).2.2.1], h.qb hM q1.1 q2.1⟩
