section CALL
variable {G : pG} {M M' : pY} {kc ks kc' ks' pc : Nat} {l : pLo} {st : List Value} {u : pM} {Q Q' : Option Value → pM → Prop}
/-- by which link: 0 a plain one, 1 a nest mate's -/
def LK (own : String) (idx : Nat) (M : pY) : Prop := Cond.methodLink own idx M.1 ∈ lw_g ∨ ∃ host, (own, idx, M.1, host) ∈ nbM
end CALL
