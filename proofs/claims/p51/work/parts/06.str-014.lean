theorem os_8_27 {n : Nat} (h : okS n 8) : okS (n + 16) 100 := (show ∀ n, n < 95 → (2 ≤ n → (S0 n).1 = 8 → okS (n + 16) 100) from by decide +kernel) n h.2.1 h.1 h.2.2
theorem ol_8_27 {n : Nat} (h : okS n 8) : (S0 (n + 16)).2 = 36 := (show ∀ n, n < 95 → (2 ≤ n → (S0 n).1 = 8 → (S0 (n + 16)).2 = 36) from by decide +kernel) n h.2.1 h.1 h.2.2
theorem of_8_29 : ∀ n, okS n 8 → R0 n 29 = n + 17 := fun n h => (show ∀ n, n < 95 → (2 ≤ n → (S0 n).1 = 8 → R0 n 29 = n + 17) from by decide +kernel) n h.2.1 h.1 h.2.2
theorem os_8_29 {n : Nat} (h : okS n 8) : okS (n + 17) 100 := (show ∀ n, n < 95 → (2 ≤ n → (S0 n).1 = 8 → okS (n + 17) 100) from by decide +kernel) n h.2.1 h.1 h.2.2
theorem ol_8_29 {n : Nat} (h : okS n 8) : (S0 (n + 17)).2 = 7 := (show ∀ n, n < 95 → (2 ≤ n → (S0 n).1 = 8 → (S0 (n + 17)).2 = 7) from by decide +kernel) n h.2.1 h.1 h.2.2
theorem of_8_30 : ∀ n, okS n 8 → R0 n 30 = n + 18 := fun n h => (show ∀ n, n < 95 → (2 ≤ n → (S0 n).1 = 8 → R0 n 30 = n + 18) from by decide +kernel) n h.2.1 h.1 h.2.2
theorem os_8_30 {n : Nat} (h : okS n 8) : okS (n + 18) 100 := (show ∀ n, n < 95 → (2 ≤ n → (S0 n).1 = 8 → okS (n + 18) 100) from by decide +kernel) n h.2.1 h.1 h.2.2
theorem ol_8_30 {n : Nat} (h : okS n 8) : (S0 (n + 18)).2 = 427 := (show ∀ n, n < 95 → (2 ≤ n → (S0 n).1 = 8 → (S0 (n + 18)).2 = 427) from by decide +kernel) n h.2.1 h.1 h.2.2
