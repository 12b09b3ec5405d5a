def smS (u' : pM) (d : Int32) (l : List Sh5) : Prop := mI u' 76 10 = d ∧ mI u' 76 11 = Int32.ofNat l.length ∧ l.length ≤ 7 ∧ (∀ s, s < l.length → l[s]? = some (mC u' (5 * s))) ∧ smE u' d l
