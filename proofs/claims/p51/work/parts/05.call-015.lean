section CALL
variable {G : pG} {M M' : pY} {kc ks kc' ks' pc : Nat} {l : pLo} {st : List Value} {u : pM} {Q Q' : Option Value → pM → Prop}
abbrev RoomOK (M M' : pY) : Prop := M'.2.2.2.2.1 + 1 ≤ M.2.2.2.2.1 ∧ 8 + (M'.2.2.1 + 11) + M'.2.2.2.2.2 ≤ M.2.2.2.2.2
end CALL
