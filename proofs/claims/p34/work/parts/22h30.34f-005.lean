theorem nn_31 {x : Int32} (h : 0 ≤ x) : cnt x 32 = cnt x 31 := cnt_hi (n := 31) 32 (by decide) (Nat.le_refl _) (fun i a b => by
  have e : i = 31 := by omega
  have m := nn_msb h
  rw [BitVec.msb_eq_getLsbD_last] at m
  rw [e]
  exact m)
