theorem os_7_5 {n : Nat} (h : okS n 7) : okS (n + 8) 5 := (show ∀ n, n < 95 → (2 ≤ n → (S0 n).1 = 7 → okS (n + 8) 5) from by decide +kernel) n h.2.1 h.1 h.2.2
theorem of_7_6 : ∀ n, okS n 7 → R0 n 6 = n + 10 := fun n h => (show ∀ n, n < 95 → (2 ≤ n → (S0 n).1 = 7 → R0 n 6 = n + 10) from by decide +kernel) n h.2.1 h.1 h.2.2
theorem os_7_6 {n : Nat} (h : okS n 7) : okS (n + 10) 5 := (show ∀ n, n < 95 → (2 ≤ n → (S0 n).1 = 7 → okS (n + 10) 5) from by decide +kernel) n h.2.1 h.1 h.2.2
theorem of_7_7 : ∀ n, okS n 7 → R0 n 7 = n + 12 := fun n h => (show ∀ n, n < 95 → (2 ≤ n → (S0 n).1 = 7 → R0 n 7 = n + 12) from by decide +kernel) n h.2.1 h.1 h.2.2
theorem os_7_7 {n : Nat} (h : okS n 7) : okS (n + 12) 0 := (show ∀ n, n < 95 → (2 ≤ n → (S0 n).1 = 7 → okS (n + 12) 0) from by decide +kernel) n h.2.1 h.1 h.2.2
theorem of_7_8 : ∀ n, okS n 7 → R0 n 8 = n + 16 := fun n h => (show ∀ n, n < 95 → (2 ≤ n → (S0 n).1 = 7 → R0 n 8 = n + 16) from by decide +kernel) n h.2.1 h.1 h.2.2
theorem os_7_8 {n : Nat} (h : okS n 7) : okS (n + 16) 1 := (show ∀ n, n < 95 → (2 ≤ n → (S0 n).1 = 7 → okS (n + 16) 1) from by decide +kernel) n h.2.1 h.1 h.2.2
theorem of_7_9 : ∀ n, okS n 7 → R0 n 9 = n + 19 := fun n h => (show ∀ n, n < 95 → (2 ≤ n → (S0 n).1 = 7 → R0 n 9 = n + 19) from by decide +kernel) n h.2.1 h.1 h.2.2
