theorem go_eq {kind k step w : Int32} (h0 : 0 ≤ kind ∧ kind ≤ 5) (h1 : kind < 3 → k = 0) (h2 : 3 ≤ kind → 2 ≤ k ∧ k ≤ 9) : goC kind k step w = goV kind step k w := by
  unfold goC goV
  by_cases c1 : kind = 1
  · rw [if_pos c1, if_pos c1]
  rw [if_neg c1, if_neg c1]
  by_cases c3 : kind < 3
  · rw [if_pos (by rw [h1 c3]; decide), if_neg (by grind), if_pos c3]
  have k2 := (h2 (Int32.not_lt.mp c3)).1
  rw [if_neg (fun z => z k2)]
  by_cases c4 : kind = 4
  · rw [if_neg (by grind), if_pos c4, if_pos c4]
  rw [if_neg c4]
  by_cases e3 : kind = 3
  · rw [if_pos e3, if_neg c4, if_neg c3, if_pos e3]
  rw [if_neg e3, if_neg c4, if_pos (by grind), if_neg c3, if_neg e3]
