section CT
variable {G : pG} {u : pM}
def fEr (u : pM) (o : Nat) : pM := pR (pN (pR (pN u (101, 128)) o 0 (mX u + 2)) (101, 128)) o 1 (mX u + 3)
end CT
