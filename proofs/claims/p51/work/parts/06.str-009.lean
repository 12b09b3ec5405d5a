theorem of_8_6 : ∀ n, okS n 8 → R0 n 6 = n + 3 := fun n h => (show ∀ n, n < 95 → (2 ≤ n → (S0 n).1 = 8 → R0 n 6 = n + 3) from by decide +kernel) n h.2.1 h.1 h.2.2
theorem os_8_6 {n : Nat} (h : okS n 8) : okS (n + 3) 100 := (show ∀ n, n < 95 → (2 ≤ n → (S0 n).1 = 8 → okS (n + 3) 100) from by decide +kernel) n h.2.1 h.1 h.2.2
theorem ol_8_6 {n : Nat} (h : okS n 8) : (S0 (n + 3)).2 = 240 := (show ∀ n, n < 95 → (2 ≤ n → (S0 n).1 = 8 → (S0 (n + 3)).2 = 240) from by decide +kernel) n h.2.1 h.1 h.2.2
theorem of_8_7 : ∀ n, okS n 8 → R0 n 7 = n + 4 := fun n h => (show ∀ n, n < 95 → (2 ≤ n → (S0 n).1 = 8 → R0 n 7 = n + 4) from by decide +kernel) n h.2.1 h.1 h.2.2
theorem os_8_7 {n : Nat} (h : okS n 8) : okS (n + 4) 100 := (show ∀ n, n < 95 → (2 ≤ n → (S0 n).1 = 8 → okS (n + 4) 100) from by decide +kernel) n h.2.1 h.1 h.2.2
theorem ol_8_7 {n : Nat} (h : okS n 8) : (S0 (n + 4)).2 = 40 := (show ∀ n, n < 95 → (2 ≤ n → (S0 n).1 = 8 → (S0 (n + 4)).2 = 40) from by decide +kernel) n h.2.1 h.1 h.2.2
theorem of_8_8 : ∀ n, okS n 8 → R0 n 8 = n + 5 := fun n h => (show ∀ n, n < 95 → (2 ≤ n → (S0 n).1 = 8 → R0 n 8 = n + 5) from by decide +kernel) n h.2.1 h.1 h.2.2
theorem os_8_8 {n : Nat} (h : okS n 8) : okS (n + 5) 100 := (show ∀ n, n < 95 → (2 ≤ n → (S0 n).1 = 8 → okS (n + 5) 100) from by decide +kernel) n h.2.1 h.1 h.2.2
