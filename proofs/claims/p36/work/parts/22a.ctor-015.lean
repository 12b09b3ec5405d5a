section CT
variable {G : pG} {u : pM}
def fRd (u : pM) (o : Nat) : pM := pI (pI (pR (fSp (pN u (6, 0)) (mX u + 2) 0) o 0 (mX u + 2)) o 1 (0)) o 2 (0)
end CT
