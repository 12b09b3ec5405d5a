section CALL
variable {G : pG} {M M' : pY} {kc ks kc' ks' pc : Nat} {l : pLo} {st : List Value} {u : pM} {Q Q' : Option Value → pM → Prop}
/-- System.arraycopy of ints -/
def cpI (u : pM) (a b : Nat) (sp dp n : Nat) : pM := (fun x y => if x = b then va_cpy (mI u a) (mI u b) sp dp n y else mI u x y, mL u, mR u, mS u, mX u)
end CALL
