theorem IsR.eq {n : Int32} {far : Nat → Int32} {m : Nat} {set r r' : Int32} (h : IsR n far m set r) (h' : IsR n far m set r') : r = r' := Int32.le_antisymm (h.le h') (h'.le h)
