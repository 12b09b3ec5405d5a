theorem of_0_2 : ∀ n, okS n 0 → R0 n 2 = n + 2 := fun n h => (show ∀ n, n < 95 → (2 ≤ n → (S0 n).1 = 0 → R0 n 2 = n + 2) from by decide +kernel) n h.2.1 h.1 h.2.2
theorem os_0_2 {n : Nat} (h : okS n 0) : okS (n + 2) 100 := (show ∀ n, n < 95 → (2 ≤ n → (S0 n).1 = 0 → okS (n + 2) 100) from by decide +kernel) n h.2.1 h.1 h.2.2
theorem ol_0_2 {n : Nat} (h : okS n 0) : (S0 (n + 2)).2 = 12 := (show ∀ n, n < 95 → (2 ≤ n → (S0 n).1 = 0 → (S0 (n + 2)).2 = 12) from by decide +kernel) n h.2.1 h.1 h.2.2
theorem of_0_3 : ∀ n, okS n 0 → R0 n 3 = n + 3 := fun n h => (show ∀ n, n < 95 → (2 ≤ n → (S0 n).1 = 0 → R0 n 3 = n + 3) from by decide +kernel) n h.2.1 h.1 h.2.2
theorem os_0_3 {n : Nat} (h : okS n 0) : okS (n + 3) 100 := (show ∀ n, n < 95 → (2 ≤ n → (S0 n).1 = 0 → okS (n + 3) 100) from by decide +kernel) n h.2.1 h.1 h.2.2
theorem ol_0_3 {n : Nat} (h : okS n 0) : (S0 (n + 3)).2 = 12 := (show ∀ n, n < 95 → (2 ≤ n → (S0 n).1 = 0 → (S0 (n + 3)).2 = 12) from by decide +kernel) n h.2.1 h.1 h.2.2
theorem of_1_0 : ∀ n, okS n 1 → R0 n 0 = n + 1 := fun n h => (show ∀ n, n < 95 → (2 ≤ n → (S0 n).1 = 1 → R0 n 0 = n + 1) from by decide +kernel) n h.2.1 h.1 h.2.2
theorem os_1_0 {n : Nat} (h : okS n 1) : okS (n + 1) 101 := (show ∀ n, n < 95 → (2 ≤ n → (S0 n).1 = 1 → okS (n + 1) 101) from by decide +kernel) n h.2.1 h.1 h.2.2
