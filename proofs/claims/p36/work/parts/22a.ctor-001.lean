section CT
variable {G : pG} {u : pM}
theorem ok_new {sh : Nat × Nat} : ok (pN u sh) (mX u + 2) sh.1 := ⟨by omega, Nat.lt_succ_self _, by show (if mX u + 2 = mX u + 2 then sh else mS u (mX u + 2)).1 = sh.1; rw [if_pos rfl]⟩
end CT
