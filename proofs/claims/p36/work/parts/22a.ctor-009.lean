section CT
variable {G : pG} {u : pM}
def fDi (u : pM) (o : Nat) : pM := pR (pN (pR (pN (pR (pN (pI u o 0 (0)) (100, 12)) o 1 (mX u + 2)) (100, 12)) o 2 (mX u + 3)) (100, 12)) o 3 (mX u + 4)
end CT
