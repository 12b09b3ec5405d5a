theorem pl_ok {n : Nat} (h : pl n) : okS n 2 := by rcases h with rfl | rfl <;> decide
theorem ok_of {u : pM} {n kd : Nat} (hs : Str u) (h : okS n kd) : ok u n kd := ⟨h.1, by rw [hs.1]; exact h.2.1, by rw [hs.2.1 n h.1 h.2.1]; exact h.2.2⟩
theorem len_of {u : pM} {n kd : Nat} (hs : Str u) (h : okS n kd) : (mS u n).2 = (S0 n).2 := by rw [hs.2.1 n h.1 h.2.1]
theorem oka_of {u : pM} {n kd L : Nat} {i : Int32} (hs : Str u) (h : okS n kd) (hL : (S0 n).2 = L) (hi : vp_in i L) : oka u n kd i := ⟨ok_of hs h, by rw [len_of hs h, hL]; exact hi⟩
theorem ix_lt {i : Int32} {n : Nat} (h : vp_in i n) : i.toNatClampNeg < n := Nat.not_le.mp fun q => h (Or.inr q)
theorem of_0_1 : ∀ n, okS n 0 → R0 n 1 = n + 1 := fun n h => (show ∀ n, n < 95 → (2 ≤ n → (S0 n).1 = 0 → R0 n 1 = n + 1) from by decide +kernel) n h.2.1 h.1 h.2.2
theorem os_0_1 {n : Nat} (h : okS n 0) : okS (n + 1) 100 := (show ∀ n, n < 95 → (2 ≤ n → (S0 n).1 = 0 → okS (n + 1) 100) from by decide +kernel) n h.2.1 h.1 h.2.2
theorem ol_0_1 {n : Nat} (h : okS n 0) : (S0 (n + 1)).2 = 12 := (show ∀ n, n < 95 → (2 ≤ n → (S0 n).1 = 0 → (S0 (n + 1)).2 = 12) from by decide +kernel) n h.2.1 h.1 h.2.2
