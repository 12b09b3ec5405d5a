section ORD
variable {G : pG} {u : pM} {L : List Nat}
theorem c_isAheadx {o0 : Nat} {x1 x2 : Int32} (k0 : okS o0 2) (h1 : 0 ≤ x1 ∧ x1 < mI u o0 1 ∧ x1 < 7) (h2 : 0 ≤ x2 ∧ x2 < mI u o0 1 ∧ x2 < 7) (a1 : 0 ≤ (shF u o0 x1.toNatClampNeg).2.2.2.1 ∧ (shF u o0 x1.toNatClampNeg).2.2.2.1 ≤ 99) (a2 : 0 ≤ (shF u o0 x2.toNatClampNeg).2.2.2.1 ∧ (shF u o0 x2.toNatClampNeg).2.2.2.1 ≤ 99) : Ws G Pl_isAhead 0 [(0, .ref o0), (1, .int x1), (2, .int x2)] [] u (RI fun a u' => u = u' ∧ (a = 0 ∧ ¬ keyP (shF u o0 x2.toNatClampNeg) < keyP (shF u o0 x1.toNatClampNeg) ∨ ¬ a = 0 ∧ keyP (shF u o0 x2.toNatClampNeg) < keyP (shF u o0 x1.toNatClampNeg))) := by
  refine sg_Pl_isAhead_0 k0 ?_
  rw [shO_in h1.1 h1.2.1 h1.2.2, shO_in h2.1 h2.2.1 h2.2.2]
  unfold keyP
  unfold shF shC at *
  simp only at a1 a2 ⊢
  generalize mI u (R0 (o0 + 1) x1.toNatClampNeg) 0 = p1 at *
  generalize mI u (R0 (o0 + 1) x2.toNatClampNeg) 0 = p2 at *
  generalize mI u (R0 (o0 + 1) x1.toNatClampNeg) 3 = g1 at *
  generalize mI u (R0 (o0 + 1) x2.toNatClampNeg) 3 = g2 at *
  refine ⟨fun a => ⟨fun b => ⟨fun c => ⟨_, rfl, rfl, .inl ⟨rfl, ?_⟩⟩, fun c => ⟨_, rfl, rfl, .inr ⟨by decide, ?_⟩⟩⟩, fun b => ⟨_, rfl, rfl, .inr ⟨by decide, ?_⟩⟩⟩, fun a => ⟨fun b => ⟨_, rfl, rfl, .inl ⟨rfl, ?_⟩⟩, fun b => ⟨fun c => ⟨_, rfl, rfl, .inl ⟨rfl, ?_⟩⟩, fun c => ⟨_, rfl, rfl, .inr ⟨by decide, ?_⟩⟩⟩⟩⟩
  · rw [if_neg a, if_neg b]; grind
  · rw [if_neg a, if_neg b]; grind
  · rw [if_neg a, if_pos b]; grind
  · rw [if_pos a, if_neg b]; grind
  · rw [if_pos a, if_pos b]; grind
  · rw [if_pos a, if_pos b]; grind
end ORD
