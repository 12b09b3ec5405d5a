def gonK (n m sz x : Int32) (f : Nat → Int32) : Prop := (0 ≤ x ∧ x < 6) ∧ 0 < n ∧ sz = m + 2 ∧ imK n m f
