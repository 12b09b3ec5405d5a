section CT
variable {G : pG} {u : pM}
theorem ok_fSp {n ci o N : Nat} (h : ok u n ci) : ok (fSp u o N) n ci := ok_pN (u := pI u o 1 (-1)) h
end CT
