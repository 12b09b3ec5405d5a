theorem of_8_22 : ∀ n, okS n 8 → R0 n 22 = n + 11 := fun n h => (show ∀ n, n < 95 → (2 ≤ n → (S0 n).1 = 8 → R0 n 22 = n + 11) from by decide +kernel) n h.2.1 h.1 h.2.2
theorem os_8_22 {n : Nat} (h : okS n 8) : okS (n + 11) 100 := (show ∀ n, n < 95 → (2 ≤ n → (S0 n).1 = 8 → okS (n + 11) 100) from by decide +kernel) n h.2.1 h.1 h.2.2
theorem ol_8_22 {n : Nat} (h : okS n 8) : (S0 (n + 11)).2 = 30 := (show ∀ n, n < 95 → (2 ≤ n → (S0 n).1 = 8 → (S0 (n + 11)).2 = 30) from by decide +kernel) n h.2.1 h.1 h.2.2
theorem of_8_23 : ∀ n, okS n 8 → R0 n 23 = n + 12 := fun n h => (show ∀ n, n < 95 → (2 ≤ n → (S0 n).1 = 8 → R0 n 23 = n + 12) from by decide +kernel) n h.2.1 h.1 h.2.2
theorem os_8_23 {n : Nat} (h : okS n 8) : okS (n + 12) 100 := (show ∀ n, n < 95 → (2 ≤ n → (S0 n).1 = 8 → okS (n + 12) 100) from by decide +kernel) n h.2.1 h.1 h.2.2
theorem ol_8_23 {n : Nat} (h : okS n 8) : (S0 (n + 12)).2 = 3968 := (show ∀ n, n < 95 → (2 ≤ n → (S0 n).1 = 8 → (S0 (n + 12)).2 = 3968) from by decide +kernel) n h.2.1 h.1 h.2.2
theorem of_8_24 : ∀ n, okS n 8 → R0 n 24 = n + 13 := fun n h => (show ∀ n, n < 95 → (2 ≤ n → (S0 n).1 = 8 → R0 n 24 = n + 13) from by decide +kernel) n h.2.1 h.1 h.2.2
theorem os_8_24 {n : Nat} (h : okS n 8) : okS (n + 13) 100 := (show ∀ n, n < 95 → (2 ≤ n → (S0 n).1 = 8 → okS (n + 13) 100) from by decide +kernel) n h.2.1 h.1 h.2.2
