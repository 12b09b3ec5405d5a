theorem seek_t {n tk dir : Int32} {d : Int32} {f : Nat} (h : tb tk d.toNatClampNeg = true) : seekP n tk dir (f + 1) d = seekP n tk dir f (dAt n (d + dir).toInt64) := by rw [seekP, if_pos h]
