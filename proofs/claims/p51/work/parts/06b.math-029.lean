section FMW
variable {G : pG} {M : pY} {kc ks pc : Nat} {l : pLo} {st : List Value} {u : pM} {Q : Option Value → pM → Prop}
/-- what a call of Math needs of its caller -/
abbrev MR (M : pY) (n : Nat) : Prop := 1 ≤ M.2.2.2.2.1 ∧ n ≤ M.2.2.2.2.2
end FMW
