theorem Cq.mono {L L' : List Nat} {u v : pM} (h : Cq L u v) (hL : ∀ x ∈ L, x ∈ L') : Cq L' u v := ⟨h.1, h.2.1, h.2.2.mono hL⟩
