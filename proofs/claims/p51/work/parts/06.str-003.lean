theorem ol_1_0 {n : Nat} (h : okS n 1) : (S0 (n + 1)).2 = 128 := (show ∀ n, n < 95 → (2 ≤ n → (S0 n).1 = 1 → (S0 (n + 1)).2 = 128) from by decide +kernel) n h.2.1 h.1 h.2.2
theorem of_1_1 : ∀ n, okS n 1 → R0 n 1 = n + 2 := fun n h => (show ∀ n, n < 95 → (2 ≤ n → (S0 n).1 = 1 → R0 n 1 = n + 2) from by decide +kernel) n h.2.1 h.1 h.2.2
theorem os_1_1 {n : Nat} (h : okS n 1) : okS (n + 2) 101 := (show ∀ n, n < 95 → (2 ≤ n → (S0 n).1 = 1 → okS (n + 2) 101) from by decide +kernel) n h.2.1 h.1 h.2.2
theorem ol_1_1 {n : Nat} (h : okS n 1) : (S0 (n + 2)).2 = 128 := (show ∀ n, n < 95 → (2 ≤ n → (S0 n).1 = 1 → (S0 (n + 2)).2 = 128) from by decide +kernel) n h.2.1 h.1 h.2.2
theorem of_2_2 : ∀ n, okS n 2 → R0 n 2 = n + 1 := fun n h => (show ∀ n, n < 95 → (2 ≤ n → (S0 n).1 = 2 → R0 n 2 = n + 1) from by decide +kernel) n h.2.1 h.1 h.2.2
theorem os_2_2 {n : Nat} (h : okS n 2) : okS (n + 1) 104 := (show ∀ n, n < 95 → (2 ≤ n → (S0 n).1 = 2 → okS (n + 1) 104) from by decide +kernel) n h.2.1 h.1 h.2.2
theorem ol_2_2 {n : Nat} (h : okS n 2) : (S0 (n + 1)).2 = 7 := (show ∀ n, n < 95 → (2 ≤ n → (S0 n).1 = 2 → (S0 (n + 1)).2 = 7) from by decide +kernel) n h.2.1 h.1 h.2.2
theorem of_2_3 : ∀ n, okS n 2 → R0 n 3 = n + 2 := fun n h => (show ∀ n, n < 95 → (2 ≤ n → (S0 n).1 = 2 → R0 n 3 = n + 2) from by decide +kernel) n h.2.1 h.1 h.2.2
