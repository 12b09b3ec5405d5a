section CT
variable {G : pG} {u : pM}
def fSn (u : pM) (o : Nat) : pM := pR (pN (pI (pI u o 0 (0)) o 1 (0)) (100, 7)) o 2 (mX u + 2)
end CT
