section CT
variable {G : pG} {u : pM}
theorem ok_pN {n ci : Nat} {sh : Nat × Nat} (h : ok u n ci) : ok (pN u sh) n ci := ⟨h.1, Nat.lt_succ_of_lt h.2.1, by have := h.2.1; show (if n = mX u + 2 then sh else mS u n).1 = ci; rw [if_neg (by omega)]; exact h.2.2⟩
end CT
