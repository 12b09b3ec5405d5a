theorem ol_8_8 {n : Nat} (h : okS n 8) : (S0 (n + 5)).2 = 4 := (show ∀ n, n < 95 → (2 ≤ n → (S0 n).1 = 8 → (S0 (n + 5)).2 = 4) from by decide +kernel) n h.2.1 h.1 h.2.2
theorem of_8_9 : ∀ n, okS n 8 → R0 n 9 = n + 6 := fun n h => (show ∀ n, n < 95 → (2 ≤ n → (S0 n).1 = 8 → R0 n 9 = n + 6) from by decide +kernel) n h.2.1 h.1 h.2.2
theorem os_8_9 {n : Nat} (h : okS n 8) : okS (n + 6) 100 := (show ∀ n, n < 95 → (2 ≤ n → (S0 n).1 = 8 → okS (n + 6) 100) from by decide +kernel) n h.2.1 h.1 h.2.2
theorem ol_8_9 {n : Nat} (h : okS n 8) : (S0 (n + 6)).2 = 400 := (show ∀ n, n < 95 → (2 ≤ n → (S0 n).1 = 8 → (S0 (n + 6)).2 = 400) from by decide +kernel) n h.2.1 h.1 h.2.2
theorem of_8_12 : ∀ n, okS n 8 → R0 n 12 = n + 7 := fun n h => (show ∀ n, n < 95 → (2 ≤ n → (S0 n).1 = 8 → R0 n 12 = n + 7) from by decide +kernel) n h.2.1 h.1 h.2.2
theorem os_8_12 {n : Nat} (h : okS n 8) : okS (n + 7) 100 := (show ∀ n, n < 95 → (2 ≤ n → (S0 n).1 = 8 → okS (n + 7) 100) from by decide +kernel) n h.2.1 h.1 h.2.2
theorem ol_8_12 {n : Nat} (h : okS n 8) : (S0 (n + 7)).2 = 70 := (show ∀ n, n < 95 → (2 ≤ n → (S0 n).1 = 8 → (S0 (n + 7)).2 = 70) from by decide +kernel) n h.2.1 h.1 h.2.2
theorem of_8_17 : ∀ n, okS n 8 → R0 n 17 = n + 8 := fun n h => (show ∀ n, n < 95 → (2 ≤ n → (S0 n).1 = 8 → R0 n 17 = n + 8) from by decide +kernel) n h.2.1 h.1 h.2.2
