theorem mayF_cg {F F' : Nat → Int32} {m : Nat} (h : ∀ t, t < m → F' t = F t) : mayF F' m = mayF F m := by
  funext p w
  unfold mayF
  apply decide_eq_decide.mpr
  constructor
  · intro q t ht z; rw [← h t ht]; exact q t ht z
  · intro q t ht z; rw [h t ht]; exact q t ht z
