section MOD
variable {G : pG} {u w : pM} {L : List Nat}
theorem e_counts {x1 : Int32} (hM : InvM u) : Ws G m_counts 0 [(0, .ref 76), (1, .int x1)] [] u (RI fun _ u' => u = u') := by
  have n30 := hM.n30
  have key : ∀ x (y : Int32), 0 ≤ x → Ws G m_counts 4 [(0, .ref 76), (1, .int x1), (2, .int y), (3, .int x)] [] u (RI fun _ u' => u = u') := by
    refine upI 7 _ (fun x ih y h0 => ?_)
    refine sg_m_counts_4 ⟨fun _ => ⟨fun _ => ⟨_, rfl, rfl⟩, fun _ => ⟨_, rfl, rfl⟩, fun _ => ⟨_, rfl, rfl⟩, fun _ => ⟨_, rfl, rfl⟩, fun _ => kI (e_shutMany n30) (fun _ _ h => ⟨_, rfl, h.1⟩), fun _ => ⟨_, rfl, rfl⟩, fun _ => ⟨_, rfl, rfl⟩⟩, fun c => ?_⟩
    have hI : ∀ y : Int32, Ws G m_counts 4 [(0, .ref 76), (1, .int x1), (2, .int y), (3, .int (x + 1))] [] u (RI fun _ u' => u = u') := fun y => ih c y (by grind)
    have v4 : ¬ 4 ≤ x → vp_in x 4 := fun q => (vin (by grind) (show (_ : Int32) < 4 by grind) (by decide))
    have v6 : ¬ 6 ≤ x → vp_in x 6 := fun q => (vin (by grind) (show (_ : Int32) < 6 by grind) (by decide))
    repeat' first
      | (exact hI _)
      | (exact v4 (by assumption))
      | (exact v6 (by assumption))
      | (refine kIe (e_isSlp hM ⟨h0, Int32.not_le.mp (by assumption)⟩) ?_)
      | ((fail_if_success (refine Ws.str ?_)); intro _)
      | (refine And.intro ?_ ?_)
  exact sg_m_counts_0 (key 0 0 (by decide))
end MOD
