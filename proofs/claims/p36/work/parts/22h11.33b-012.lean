theorem isI_tb {x d : Int32} (h0 : 0 ≤ d) (h1 : d < 31) : isI x d ↔ tb x d.toNatClampNeg = true := by
  unfold isI
  rw [← tbx h0 (by grind)]
  exact ⟨fun h => h.2.2, fun h => ⟨h0, h1, h⟩⟩
