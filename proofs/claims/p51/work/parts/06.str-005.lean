theorem ol_5_2 {n : Nat} (h : okS n 5) : (S0 (n + 1)).2 = 7 := (show ∀ n, n < 95 → (2 ≤ n → (S0 n).1 = 5 → (S0 (n + 1)).2 = 7) from by decide +kernel) n h.2.1 h.1 h.2.2
theorem of_6_0 : ∀ n, okS n 6 → R0 n 0 = n + 1 := fun n h => (show ∀ n, n < 95 → (2 ≤ n → (S0 n).1 = 6 → R0 n 0 = n + 1) from by decide +kernel) n h.2.1 h.1 h.2.2
theorem os_6_0 {n : Nat} (h : okS n 6) : okS (n + 1) 100 := (show ∀ n, n < 95 → (2 ≤ n → (S0 n).1 = 6 → okS (n + 1) 100) from by decide +kernel) n h.2.1 h.1 h.2.2
theorem of_7_0 : ∀ n, okS n 7 → R0 n 0 = n + 1 := fun n h => (show ∀ n, n < 95 → (2 ≤ n → (S0 n).1 = 7 → R0 n 0 = n + 1) from by decide +kernel) n h.2.1 h.1 h.2.2
theorem os_7_0 {n : Nat} (h : okS n 7) : okS (n + 1) 102 := (show ∀ n, n < 95 → (2 ≤ n → (S0 n).1 = 7 → okS (n + 1) 102) from by decide +kernel) n h.2.1 h.1 h.2.2
theorem ol_7_0 {n : Nat} (h : okS n 7) : (S0 (n + 1)).2 = 6 := (show ∀ n, n < 95 → (2 ≤ n → (S0 n).1 = 7 → (S0 (n + 1)).2 = 6) from by decide +kernel) n h.2.1 h.1 h.2.2
theorem of_7_1 : ∀ n, okS n 7 → R0 n 1 = n + 2 := fun n h => (show ∀ n, n < 95 → (2 ≤ n → (S0 n).1 = 7 → R0 n 1 = n + 2) from by decide +kernel) n h.2.1 h.1 h.2.2
theorem os_7_1 {n : Nat} (h : okS n 7) : okS (n + 2) 102 := (show ∀ n, n < 95 → (2 ≤ n → (S0 n).1 = 7 → okS (n + 2) 102) from by decide +kernel) n h.2.1 h.1 h.2.2
