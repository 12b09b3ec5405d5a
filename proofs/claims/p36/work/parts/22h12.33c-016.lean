theorem rg2 {n x h l : Int32} (hn : 10 ≤ n ∧ n ≤ 30) (h0 : 0 ≤ x) (h1 : x ≤ n) (hb : 0 ≤ h ∧ h ≤ 30) (lb : 0 ≤ l ∧ l ≤ 30) (q : h + l < n → n - l - h ≤ x) : (if 2 * (n - x) < n then 2 * (n - x) else n) ≤ 2 * (h + l) := by
  by_cases c : h + l < n
  · have := q c
    split <;> grind
  · split <;> grind
