theorem ahP.tr {sh : Nat → Sh5} {a b c : Nat} (h : ahP sh a b) (h2 : ahP sh b c) : ahP sh a c := by
  unfold ahP at *
  rcases h with h | h <;> rcases h2 with h2 | h2
  · exact .inl (Int32.lt_trans h2 h)
  · exact .inl (by rw [h2.1]; exact h)
  · exact .inl (by rw [← h.1]; exact h2)
  · exact .inr ⟨h2.1.trans h.1, by omega⟩
