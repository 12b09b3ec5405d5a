section CT
variable {G : pG} {u : pM}
def fSh (u : pM) (o : Nat) : pM := pI (pI (pI (pI (pI u o 0 (0)) o 1 (0)) o 2 (0)) o 3 (0)) o 4 (0)
end CT
