/-! ===== errands: parts of parts ===== -/
theorem fo_mono2 {c d : Int32 → Int32} {l : List Int32} {a : Int32} (h : ∀ p ∈ l, c p ≤ d p ∨ a ≤ d p) : fo c l a ≤ fo d l a := by
  have C := fo_le c l a
  rcases (fo_le d l a).2.2 with r | ⟨p, hp, r⟩
  · rw [r]; exact C.1
  · rw [r]
    rcases h p hp with q | q
    · exact Int32.le_trans (C.2.1 p hp) q
    · exact Int32.le_trans C.1 q
