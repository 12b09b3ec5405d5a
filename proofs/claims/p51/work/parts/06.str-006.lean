theorem ol_7_1 {n : Nat} (h : okS n 7) : (S0 (n + 2)).2 = 4 := (show ∀ n, n < 95 → (2 ≤ n → (S0 n).1 = 7 → (S0 (n + 2)).2 = 4) from by decide +kernel) n h.2.1 h.1 h.2.2
theorem of_7_2 : ∀ n, okS n 7 → R0 n 2 = n + 3 := fun n h => (show ∀ n, n < 95 → (2 ≤ n → (S0 n).1 = 7 → R0 n 2 = n + 3) from by decide +kernel) n h.2.1 h.1 h.2.2
theorem of_7_3 : ∀ n, okS n 7 → R0 n 3 = n + 5 := fun n h => (show ∀ n, n < 95 → (2 ≤ n → (S0 n).1 = 7 → R0 n 3 = n + 5) from by decide +kernel) n h.2.1 h.1 h.2.2
theorem os_7_3 {n : Nat} (h : okS n 7) : okS (n + 5) 5 := (show ∀ n, n < 95 → (2 ≤ n → (S0 n).1 = 7 → okS (n + 5) 5) from by decide +kernel) n h.2.1 h.1 h.2.2
theorem of_7_4 : ∀ n, okS n 7 → R0 n 4 = n + 7 := fun n h => (show ∀ n, n < 95 → (2 ≤ n → (S0 n).1 = 7 → R0 n 4 = n + 7) from by decide +kernel) n h.2.1 h.1 h.2.2
theorem os_7_4 {n : Nat} (h : okS n 7) : okS (n + 7) 103 := (show ∀ n, n < 95 → (2 ≤ n → (S0 n).1 = 7 → okS (n + 7) 103) from by decide +kernel) n h.2.1 h.1 h.2.2
theorem ol_7_4 {n : Nat} (h : okS n 7) : (S0 (n + 7)).2 = 3 := (show ∀ n, n < 95 → (2 ≤ n → (S0 n).1 = 7 → (S0 (n + 7)).2 = 3) from by decide +kernel) n h.2.1 h.1 h.2.2
theorem of_7_5 : ∀ n, okS n 7 → R0 n 5 = n + 8 := fun n h => (show ∀ n, n < 95 → (2 ≤ n → (S0 n).1 = 7 → R0 n 5 = n + 8) from by decide +kernel) n h.2.1 h.1 h.2.2
