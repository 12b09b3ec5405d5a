section SQX
variable {G : pG} {u : pM}
theorem e_fault {x1 : Int32} (hM : InvM u) : Ws G m_fault 0 [(0, .ref 76), (1, .int x1)] [] u (RI fun _ u' => Mo mB u u') := by
  refine sg_m_fault_0 (kI e_askedText (fun a v h => ⟨fun c => ?_, fun c => lfM hM h.1⟩))
  obtain ⟨rfl, r0, r5, s0⟩ := h.2 c
  exact kI (y_goesOn ⟨r0, r5⟩ ⟨s0, hM.b81 _⟩) (fun _ w h => ⟨_, rfl, h.1.mo h.2.1 hM⟩)
end SQX
