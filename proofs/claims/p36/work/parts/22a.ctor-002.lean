section CT
variable {G : pG} {u : pM}
def fSp (u : pM) (o N : Nat) : pM := pR (pN (pI u o 1 (-1)) (100, N)) o 0 (mX u + 2)
end CT
