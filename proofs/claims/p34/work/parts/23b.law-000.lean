theorem InvM.cl {L : List Nat} {u u' : pM} (h : InvM u) (hc : Cl L u u') : InvM u' := by
  obtain ⟨a, b, c, d, e, f⟩ := h
  have q := hc.2.1
  refine ⟨fun n k => ?_, ?_, ?_, ?_, ?_, ?_⟩
  · by_cases g : 76 ≤ n
    · rw [q n k g]; exact a n k
    · exact ⟨fun z => by omega, fun z => by omega, fun z => by omega, fun z => by omega⟩
  · unfold szK at *; rw [q 76 10 (by decide), q 76 11 (by decide)]; exact b
  · unfold shK at *; rw [q 76 11 (by decide)]; intro s; rw [q 83 _ (by decide), q 83 _ (by decide)]; exact c s
  · rw [q 76 19 (by decide), q 76 10 (by decide)]; exact d
  · unfold kpK at *; rw [q 76 10 (by decide)]; intro k; rw [q 87 _ (by decide), q 87 _ (by decide)]; intro k0 k2; exact ⟨(e k k0 k2).1, fun s => by rw [q 87 _ (by decide)]; exact (e k k0 k2).2 s⟩
  · rw [q 76 28 (by decide)]; exact f
theorem InvC.mo {L : List Nat} {u u' : pM} (h : InvC u) (hm : Mo L u u') : InvC u' := ⟨fun o ho => by rw [hm.2.1 o 1 (by have := lt_6 ho; omega)]; exact h.1 o ho, fun o ho => by rw [hm.2.1 o 0 (by have := lt_2 ho; omega)]; exact h.2 o ho⟩
