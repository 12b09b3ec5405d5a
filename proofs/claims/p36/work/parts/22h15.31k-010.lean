def sqS (u u' : pM) (d : Int32) (l : List Sh5) : Prop := mR u' 2 10 = mR u 2 11 ∧ mR u' 2 11 = mR u 2 10 ∧ mI u' (mR u 2 11) 0 = d ∧ PlL u' (mR u 2 11) l ∧ 10 ≤ d ∧ d ≤ 30 ∧ sqE u' (mR u 2 11) l
