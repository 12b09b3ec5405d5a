theorem ahP.ir {sh : Nat → Sh5} {a : Nat} (h : ahP sh a a) : False := by
  rcases h with h | h
  · exact absurd h (Int32.not_lt.mpr (Int32.le_refl _))
  · omega
