section CT
variable {G : pG} {u : pM}
theorem ok_tI {n ci o k : Nat} {x : Int32} (h : ok u n ci) : ok (pI u o k x) n ci := h
end CT
