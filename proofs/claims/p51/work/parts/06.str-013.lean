theorem ol_8_24 {n : Nat} (h : okS n 8) : (S0 (n + 13)).2 = 128 := (show ∀ n, n < 95 → (2 ≤ n → (S0 n).1 = 8 → (S0 (n + 13)).2 = 128) from by decide +kernel) n h.2.1 h.1 h.2.2
theorem of_8_25 : ∀ n, okS n 8 → R0 n 25 = n + 14 := fun n h => (show ∀ n, n < 95 → (2 ≤ n → (S0 n).1 = 8 → R0 n 25 = n + 14) from by decide +kernel) n h.2.1 h.1 h.2.2
theorem os_8_25 {n : Nat} (h : okS n 8) : okS (n + 14) 100 := (show ∀ n, n < 95 → (2 ≤ n → (S0 n).1 = 8 → okS (n + 14) 100) from by decide +kernel) n h.2.1 h.1 h.2.2
theorem ol_8_25 {n : Nat} (h : okS n 8) : (S0 (n + 14)).2 = 128 := (show ∀ n, n < 95 → (2 ≤ n → (S0 n).1 = 8 → (S0 (n + 14)).2 = 128) from by decide +kernel) n h.2.1 h.1 h.2.2
theorem of_8_26 : ∀ n, okS n 8 → R0 n 26 = n + 15 := fun n h => (show ∀ n, n < 95 → (2 ≤ n → (S0 n).1 = 8 → R0 n 26 = n + 15) from by decide +kernel) n h.2.1 h.1 h.2.2
theorem os_8_26 {n : Nat} (h : okS n 8) : okS (n + 15) 100 := (show ∀ n, n < 95 → (2 ≤ n → (S0 n).1 = 8 → okS (n + 15) 100) from by decide +kernel) n h.2.1 h.1 h.2.2
theorem ol_8_26 {n : Nat} (h : okS n 8) : (S0 (n + 15)).2 = 7 := (show ∀ n, n < 95 → (2 ≤ n → (S0 n).1 = 8 → (S0 (n + 15)).2 = 7) from by decide +kernel) n h.2.1 h.1 h.2.2
theorem of_8_27 : ∀ n, okS n 8 → R0 n 27 = n + 16 := fun n h => (show ∀ n, n < 95 → (2 ≤ n → (S0 n).1 = 8 → R0 n 27 = n + 16) from by decide +kernel) n h.2.1 h.1 h.2.2
