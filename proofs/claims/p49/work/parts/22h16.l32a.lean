/-! ===== the square's numbers on both sides ===== -/
def RN (u v : pM) : Prop := mR u 2 10 ≠ mR u 2 11 ∧ (pl (mR u 2 10) ∧ pl (mR u 2 11)) ∧ mI u (mR u 2 10) 0 = mI v 76 10 ∧ mI u (mR u 2 10) 1 = mI v 76 11
theorem RN.fc {u u' v : pM} (h : RN u v) (hr : ∀ k, mR u' 2 k = mR u 2 k) (e : ∀ k, mI u' (mR u 2 10) k = mI u (mR u 2 10) k) : RN u' v := by
  unfold RN at *
  rw [hr, hr, e, e]
  exact h
theorem RN.fm {u v v' : pM} (h : RN u v) (e : mI v' 76 10 = mI v 76 10 ∧ mI v' 76 11 = mI v 76 11) : RN u v' := by
  unfold RN at *
  rw [e.1, e.2]
  exact h
theorem RN.cl {L : List Nat} {u u1 v : pM} (h : RN u v) (q : Cl L u u1) (h0 : 0 ∉ L) (hL : mR u 2 10 ∉ L) : RN u1 v := h.fc (q.2.2.2 h0) (fun k => q.fp.1 _ _ (by
  have ko := pl_ok h.2.1.1
  rw [cd_k ko (by decide) (by have := lt_2 ko; omega)]
  exact hL))
theorem RN.mo {L : List Nat} {u v v1 : pM} (h : RN u v) (q : Mo L v v1) (hL : 210 ∉ L ∧ 211 ∉ L) : RN u v1 := h.fm ⟨q.fp.1 _ _ hL.1, q.fp.1 _ _ hL.2⟩
/-- the class's cells and references are the same in u and u', the reference's in v and v' -/
theorem RN.cc {u u' v : pM} (h : RN u v) (hr : mR u' = mR u) (e : ∀ n k, n < 76 → mI u' n k = mI u n k) : RN u' v := h.fc (fun k => by rw [hr]) (fun k => e _ _ (by have := lt_2 (pl_ok h.2.1.1); omega))
section RNX
variable {G : pG} {u : pM}
/-- doors: the row apart, whose answer needs many alone -/
def dooV (m x1 : Int32) : Int32 := if 0 ≤ x1 ∧ x1 < 6 then m else -1
end RNX
