section SQX
variable {G : pG} {u : pM}
theorem sq_eq {n : Int32} {T : Int32 → Int32} {x1 a b : Int32} {F F' : Prop} {S S' : Int32 → List Sh5 → Prop} (h1 : sqQ n T x1 a F S) (h2 : sqQ n T x1 b F' S') : a = b ∧ ((F ∧ F') ∨ ∃ d l, S d l ∧ S' d l) := by
  rcases h1 with ⟨p, e, y⟩ | ⟨p, h1⟩ <;> rcases h2 with ⟨q, f, z⟩ | ⟨q, h2⟩
  · exact ⟨by rw [e, f], .inl ⟨y, z⟩⟩
  · exact absurd q p
  · exact absurd p q
  · rcases h1 with ⟨p, e, y⟩ | ⟨p, h1⟩ <;> rcases h2 with ⟨q, f, z⟩ | ⟨q, h2⟩
    · exact ⟨by rw [e, f], .inl ⟨y, z⟩⟩
    · exact absurd q p
    · exact absurd p q
    · rcases h1 with ⟨p, e, y⟩ | ⟨d, l, p, e, y⟩ <;> rcases h2 with ⟨q, f, z⟩ | ⟨d', l', q, f, z⟩
      · exact ⟨by rw [e, f], .inl ⟨y, z⟩⟩
      · rw [p] at q; cases q
      · rw [p] at q; cases q
      · rw [p] at q; cases q; exact ⟨by rw [e, f], .inr ⟨d, l, y, z⟩⟩
end SQX
