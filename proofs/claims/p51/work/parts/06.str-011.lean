theorem os_8_17 {n : Nat} (h : okS n 8) : okS (n + 8) 100 := (show ∀ n, n < 95 → (2 ≤ n → (S0 n).1 = 8 → okS (n + 8) 100) from by decide +kernel) n h.2.1 h.1 h.2.2
theorem ol_8_17 {n : Nat} (h : okS n 8) : (S0 (n + 8)).2 = 7 := (show ∀ n, n < 95 → (2 ≤ n → (S0 n).1 = 8 → (S0 (n + 8)).2 = 7) from by decide +kernel) n h.2.1 h.1 h.2.2
theorem of_8_20 : ∀ n, okS n 8 → R0 n 20 = n + 9 := fun n h => (show ∀ n, n < 95 → (2 ≤ n → (S0 n).1 = 8 → R0 n 20 = n + 9) from by decide +kernel) n h.2.1 h.1 h.2.2
theorem os_8_20 {n : Nat} (h : okS n 8) : okS (n + 9) 100 := (show ∀ n, n < 95 → (2 ≤ n → (S0 n).1 = 8 → okS (n + 9) 100) from by decide +kernel) n h.2.1 h.1 h.2.2
theorem ol_8_20 {n : Nat} (h : okS n 8) : (S0 (n + 9)).2 = 7 := (show ∀ n, n < 95 → (2 ≤ n → (S0 n).1 = 8 → (S0 (n + 9)).2 = 7) from by decide +kernel) n h.2.1 h.1 h.2.2
theorem of_8_21 : ∀ n, okS n 8 → R0 n 21 = n + 10 := fun n h => (show ∀ n, n < 95 → (2 ≤ n → (S0 n).1 = 8 → R0 n 21 = n + 10) from by decide +kernel) n h.2.1 h.1 h.2.2
theorem os_8_21 {n : Nat} (h : okS n 8) : okS (n + 10) 100 := (show ∀ n, n < 95 → (2 ≤ n → (S0 n).1 = 8 → okS (n + 10) 100) from by decide +kernel) n h.2.1 h.1 h.2.2
theorem ol_8_21 {n : Nat} (h : okS n 8) : (S0 (n + 10)).2 = 7 := (show ∀ n, n < 95 → (2 ≤ n → (S0 n).1 = 8 → (S0 (n + 10)).2 = 7) from by decide +kernel) n h.2.1 h.1 h.2.2
