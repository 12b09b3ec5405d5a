theorem seek_f {n tk dir : Int32} {d : Int32} (h : tb tk d.toNatClampNeg = false) : ∀ f, seekP n tk dir f d = d
  | 0 => rfl
  | f + 1 => by rw [seekP, if_neg (by rw [h]; decide)]
