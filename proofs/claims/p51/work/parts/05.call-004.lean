section CALL
variable {G : pG} {M M' : pY} {kc ks kc' ks' pc : Nat} {l : pLo} {st : List Value} {u : pM} {Q Q' : Option Value → pM → Prop}
abbrev cwd (M : pY) : Cond := .code M.1 M.2.1 M.2.2.1 M.2.2.2.1
end CALL
