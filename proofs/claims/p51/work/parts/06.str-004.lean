theorem os_2_3 {n : Nat} (h : okS n 2) : okS (n + 2) 4 := (show ∀ n, n < 95 → (2 ≤ n → (S0 n).1 = 2 → okS (n + 2) 4) from by decide +kernel) n h.2.1 h.1 h.2.2
theorem of_2_4 : ∀ n, okS n 2 → R0 n 4 = n + 3 := fun n h => (show ∀ n, n < 95 → (2 ≤ n → (S0 n).1 = 2 → R0 n 4 = n + 3) from by decide +kernel) n h.2.1 h.1 h.2.2
theorem os_2_4 {n : Nat} (h : okS n 2) : okS (n + 3) 100 := (show ∀ n, n < 95 → (2 ≤ n → (S0 n).1 = 2 → okS (n + 3) 100) from by decide +kernel) n h.2.1 h.1 h.2.2
theorem ol_2_4 {n : Nat} (h : okS n 2) : (S0 (n + 3)).2 = 7 := (show ∀ n, n < 95 → (2 ≤ n → (S0 n).1 = 2 → (S0 (n + 3)).2 = 7) from by decide +kernel) n h.2.1 h.1 h.2.2
theorem of_2_5 : ∀ n, okS n 2 → R0 n 5 = n + 4 := fun n h => (show ∀ n, n < 95 → (2 ≤ n → (S0 n).1 = 2 → R0 n 5 = n + 4) from by decide +kernel) n h.2.1 h.1 h.2.2
theorem os_2_5 {n : Nat} (h : okS n 2) : okS (n + 4) 3 := (show ∀ n, n < 95 → (2 ≤ n → (S0 n).1 = 2 → okS (n + 4) 3) from by decide +kernel) n h.2.1 h.1 h.2.2
theorem of_5_2 : ∀ n, okS n 5 → R0 n 2 = n + 1 := fun n h => (show ∀ n, n < 95 → (2 ≤ n → (S0 n).1 = 5 → R0 n 2 = n + 1) from by decide +kernel) n h.2.1 h.1 h.2.2
theorem os_5_2 {n : Nat} (h : okS n 5) : okS (n + 1) 100 := (show ∀ n, n < 95 → (2 ≤ n → (S0 n).1 = 5 → okS (n + 1) 100) from by decide +kernel) n h.2.1 h.1 h.2.2
