section CT
variable {G : pG} {u : pM}
theorem ok_tR {n ci o k r : Nat} (h : ok u n ci) : ok (pR u o k r) n ci := h
end CT
