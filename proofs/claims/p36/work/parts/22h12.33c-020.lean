theorem rg6 {n x5 x6 x7 h l : Int32} (hn : 10 ≤ n ∧ n ≤ 30) (h60 : 0 ≤ x6) (h67 : x6 < x7) (h7 : x7 ≤ n) (h50 : 0 ≤ x5) (h5 : x5 ≤ n) (hb : 0 ≤ h ∧ h ≤ 30) (lb : 0 ≤ l ∧ l ≤ 30) (big : n - l ≤ x7) (r : x6 ≤ h ∨ n - l - h ≤ x5) : n - l - h ≤ (if x5 < x7 - x6 then x7 - x6 else x5) := by
  rcases r with r | r
  · split <;> grind
  · split <;> grind
