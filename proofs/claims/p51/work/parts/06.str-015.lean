def ek (kd : Nat) : Nat := if kd = 102 then 6 else if kd = 103 then 5 else 4
theorem ra_tab : ∀ n, n < 95 → (102 ≤ (S0 n).1 → n = 3 ∨ n = 4 ∨ n = 9 ∨ n = 23 ∨ n = 37) := by decide +kernel
theorem ra_ok {n kd j : Nat} (h : okS n kd) (hk : 102 ≤ kd) (hj : j < (S0 n).2) : R0 n j ≠ 0 ∧ okS (R0 n j) (ek kd) := by
  obtain ⟨h1, h2, h3⟩ := h
  subst h3
  rcases ra_tab n h2 hk with rfl | rfl | rfl | rfl | rfl
  · exact (show ∀ j, j < 6 → R0 3 j ≠ 0 ∧ okS (R0 3 j) 6 from by decide +kernel) j hj
  · exact (show ∀ j, j < 4 → R0 4 j ≠ 0 ∧ okS (R0 4 j) 6 from by decide +kernel) j hj
  · exact (show ∀ j, j < 3 → R0 9 j ≠ 0 ∧ okS (R0 9 j) 5 from by decide +kernel) j hj
  · exact (show ∀ j, j < 7 → R0 23 j ≠ 0 ∧ okS (R0 23 j) 4 from by decide +kernel) j hj
  · exact (show ∀ j, j < 7 → R0 37 j ≠ 0 ∧ okS (R0 37 j) 4 from by decide +kernel) j hj
