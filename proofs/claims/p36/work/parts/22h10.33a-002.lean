theorem er_up {x b : Int32} (h0 : 0 ≤ x) (c : ¬ b ≤ x) : 0 ≤ x + 1 ∧ x + 1 ≤ b := by
  have h := i32_succ c
  have d0 : (0 : Int32).toInt = 0 := by decide
  have a := Int32.le_iff_toInt_le.mp h0
  have e : ¬ b.toInt ≤ x.toInt := fun z => c (Int32.le_iff_toInt_le.mpr z)
  exact ⟨Int32.le_iff_toInt_le.mpr (by omega), Int32.le_iff_toInt_le.mpr (by omega)⟩
