def b30 (h : Int32) : Prop := 0 ≤ h ∧ h ≤ 30
