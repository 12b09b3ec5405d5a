theorem os_7_9 {n : Nat} (h : okS n 7) : okS (n + 19) 100 := (show ∀ n, n < 95 → (2 ≤ n → (S0 n).1 = 7 → okS (n + 19) 100) from by decide +kernel) n h.2.1 h.1 h.2.2
theorem ol_7_9 {n : Nat} (h : okS n 7) : (S0 (n + 19)).2 = 6 := (show ∀ n, n < 95 → (2 ≤ n → (S0 n).1 = 7 → (S0 (n + 19)).2 = 6) from by decide +kernel) n h.2.1 h.1 h.2.2
theorem of_8_1 : ∀ n, okS n 8 → R0 n 1 = n + 1 := fun n h => (show ∀ n, n < 95 → (2 ≤ n → (S0 n).1 = 8 → R0 n 1 = n + 1) from by decide +kernel) n h.2.1 h.1 h.2.2
theorem os_8_1 {n : Nat} (h : okS n 8) : okS (n + 1) 100 := (show ∀ n, n < 95 → (2 ≤ n → (S0 n).1 = 8 → okS (n + 1) 100) from by decide +kernel) n h.2.1 h.1 h.2.2
theorem ol_8_1 {n : Nat} (h : okS n 8) : (S0 (n + 1)).2 = 6 := (show ∀ n, n < 95 → (2 ≤ n → (S0 n).1 = 8 → (S0 (n + 1)).2 = 6) from by decide +kernel) n h.2.1 h.1 h.2.2
theorem of_8_5 : ∀ n, okS n 8 → R0 n 5 = n + 2 := fun n h => (show ∀ n, n < 95 → (2 ≤ n → (S0 n).1 = 8 → R0 n 5 = n + 2) from by decide +kernel) n h.2.1 h.1 h.2.2
theorem os_8_5 {n : Nat} (h : okS n 8) : okS (n + 2) 100 := (show ∀ n, n < 95 → (2 ≤ n → (S0 n).1 = 8 → okS (n + 2) 100) from by decide +kernel) n h.2.1 h.1 h.2.2
theorem ol_8_5 {n : Nat} (h : okS n 8) : (S0 (n + 2)).2 = 6 := (show ∀ n, n < 95 → (2 ≤ n → (S0 n).1 = 8 → (S0 (n + 2)).2 = 6) from by decide +kernel) n h.2.1 h.1 h.2.2
