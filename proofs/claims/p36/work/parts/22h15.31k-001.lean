theorem Cl.mono {L L' : List Nat} {u v : pM} (h : Cl L u v) (hL : ∀ x ∈ L, x ∈ L') : Cl L' u v := ⟨h.1, h.2.1, h.2.2.1.mono hL, fun z => h.2.2.2 (fun y => z (hL _ y))⟩
