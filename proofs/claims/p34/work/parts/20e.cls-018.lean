section CLS
variable {G : pG} {u w : pM} {L : List Nat}
theorem h_countThere {o0 : Nat} (k0 : okS o0 102) : Ws G D_countThere 0 [(0, .ref o0)] [] u (RI fun _ u' => u = u') := by
  have key : ∀ x (y : Int32), 0 ≤ x → Ws G D_countThere 4 [(0, .ref o0), (1, .int y), (2, .int x)] [] u (RI fun _ u' => u = u') := by
    refine upI (Int32.ofNat (S0 o0).2) _ (fun x ih y h0 => ?_)
    refine sg_D_countThere_4 k0 ⟨fun _ => ⟨_, rfl, rfl⟩, fun c => ?_⟩
    have hv := vin h0 (Int32.not_le.mp c) (S0_lt o0)
    have h1 : 0 ≤ x + 1 := by grind
    exact ⟨hv, hv, fun _ => ih c _ h1, fun _ => ih c _ h1⟩
  exact sg_D_countThere_0 k0 (key 0 0 (by decide))
end CLS
