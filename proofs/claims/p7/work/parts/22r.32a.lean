/-! ===== the square's numbers on both sides ===== -/
def RN (u v : pM) : Prop := mR u 2 10 ≠ mR u 2 11 ∧ (pl (mR u 2 10) ∧ pl (mR u 2 11)) ∧ mI u (mR u 2 10) 0 = mI v 76 10 ∧ mI u (mR u 2 10) 1 = mI v 76 11
theorem RN.fc {u u' v : pM} (h : RN u v) (hr : ∀ k, mR u' 2 k = mR u 2 k) (e : ∀ k, mI u' (mR u 2 10) k = mI u (mR u 2 10) k) : RN u' v := by
  unfold RN at *
  rw [hr, hr, e, e]
  exact h
theorem RN.fm {u v v' : pM} (h : RN u v) (e : mI v' 76 10 = mI v 76 10 ∧ mI v' 76 11 = mI v 76 11) : RN u v' := by
  unfold RN at *
  rw [e.1, e.2]
  exact h
theorem RN.cl {L : List Nat} {u u1 v : pM} (h : RN u v) (q : Cl L u u1) (h0 : 0 ∉ L) (hL : mR u 2 10 ∉ L) : RN u1 v := h.fc (q.2.2.2 h0) (fun k => q.fp _ _ (by
  have ko := pl_ok h.2.1.1
  rw [cd_k ko (by decide) (by have := lt_2 ko; omega)]
  exact hL))
theorem RN.mo {L : List Nat} {u v v1 : pM} (h : RN u v) (q : Mo L v v1) (hL : 210 ∉ L ∧ 211 ∉ L) : RN u v1 := h.fm ⟨q.fp _ _ hL.1, q.fp _ _ hL.2⟩
/-- the class's cells and references are the same in u and u', the reference's in v and v' -/
theorem RN.cc {u u' v : pM} (h : RN u v) (hr : mR u' = mR u) (e : ∀ n k, n < 76 → mI u' n k = mI u n k) : RN u' v := h.fc (fun k => by rw [hr]) (fun k => e _ _ (by have := lt_2 (pl_ok h.2.1.1); omega))
section RNX
variable {G : pG} {u : pM}
/-- about: whose answer needs many alone -/
def aboV (m x1 x2 : Int32) : Int32 := if (0 ≤ x1 ∧ x1 < m ∧ x1 < 7) ∧ 0 ≤ x2 ∧ x2 ≤ 5 then 1 else -1
theorem d_aboutx {x1 x2 : Int32} (hC : InvC u) : Ws G D_about 0 [(0, .ref 2), (1, .int x1), (2, .int x2)] [] u (RI fun a u' => Cl qB u u' ∧ aboV (mI u (mR u 2 10) 1) x1 x2 = a) := by
  refine sg_D_about_0 (fun _ => ⟨fun a => ⟨fun b => ⟨_, rfl, Cl.rf hC, ?_⟩, fun b => ⟨fun c => kIe h_trait (fun a6 => ⟨_, rfl, (Cq.rf.pI wr_D (by decide)).cl hC, ?_⟩), fun c => ⟨_, rfl, Cl.rf hC, ?_⟩⟩⟩, fun a => ⟨_, rfl, Cl.rf hC, ?_⟩⟩)
  · unfold aboV; rw [if_neg (fun z => absurd b (Int32.not_lt.mpr z.2.1))]
  · unfold aboV; rw [if_pos ⟨a, Int32.not_lt.mp b, c⟩]
  · unfold aboV; rw [if_neg (fun z => c z.2.2)]
  · unfold aboV; rw [if_neg (fun z => a z.1)]
theorem e_aboutx {x1 x2 : Int32} (hM : InvM u) : Ws G m_about 0 [(0, .ref 76), (1, .int x1), (2, .int x2)] [] u (RI fun a u' => Mo mB u u' ∧ aboV (mI u 76 11) x1 x2 = a) := by
  have m7 := hM.m7
  refine sg_m_about_0 ⟨fun a => ⟨fun b => kIe (e_aboutOf hM (by grind) b) (fun _ => ⟨_, rfl, (Mq.rf.pF (by decide)).mo hM, ?_⟩), fun b => ⟨_, rfl, Mo.rf hM, ?_⟩⟩, fun a => ⟨_, rfl, Mo.rf hM, ?_⟩⟩
  · unfold aboV; rw [if_pos ⟨⟨a.1, by grind, by grind⟩, b⟩]
  · unfold aboV; rw [if_neg (fun z => b z.2)]
  · unfold aboV; rw [if_neg (fun z => a ⟨z.1.1, by have := z.1.2.1; grind⟩)]
/-- doors: the row apart, whose answer needs many alone -/
def dooV (m x1 : Int32) : Int32 := if 0 ≤ x1 ∧ x1 < 6 then m else -1
end RNX
