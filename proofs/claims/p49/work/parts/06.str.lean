def S0t : List (Nat × Nat) := [(0, 0), (0, 0), (7, 0), (102, 6), (102, 4), (6, 0), (100, 0), (5, 0), (100, 7), (103, 3), (5, 0), (100, 7), (5, 0), (100, 7), (0, 0), (100, 12), (100, 12), (100, 12), (1, 0), (101, 128), (101, 128), (100, 6), (2, 0), (104, 7), (4, 0), (100, 7), (3, 0), (6, 0), (100, 0), (4, 0), (4, 0), (4, 0), (4, 0), (4, 0), (4, 0), (4, 0), (2, 0), (104, 7), (4, 0), (100, 7), (3, 0), (6, 0), (100, 0), (4, 0), (4, 0), (4, 0), (4, 0), (4, 0), (4, 0), (4, 0), (6, 0), (100, 40), (6, 0), (100, 40), (6, 0), (100, 40), (6, 0), (100, 40), (6, 0), (100, 40), (6, 0), (100, 40), (6, 0), (100, 100), (6, 0), (100, 100), (6, 0), (100, 100), (6, 0), (100, 100), (5, 0), (100, 7), (5, 0), (100, 7), (5, 0), (100, 7), (8, 0), (100, 6), (100, 6), (100, 240), (100, 40), (100, 4), (100, 400), (100, 70), (100, 7), (100, 7), (100, 7), (100, 30), (100, 3968), (100, 128), (100, 128), (100, 7), (100, 36), (100, 7), (100, 427)]
def R0t : List (List Nat) := [[], [], [3, 4, 5, 7, 9, 10, 12, 14, 18, 21], [50, 52, 54, 56, 58, 60], [62, 64, 66, 68], [6], [], [0, 0, 8], [], [70, 72, 74], [0, 0, 11], [], [0, 0, 13], [], [0, 15, 16, 17], [], [], [], [19, 20], [], [], [], [0, 0, 23, 24, 25, 26], [29, 30, 31, 32, 33, 34, 35], [], [], [], [28], [], [], [], [], [], [], [], [], [0, 0, 37, 38, 39, 40], [43, 44, 45, 46, 47, 48, 49], [], [], [], [42], [], [], [], [], [], [], [], [], [51], [], [53], [], [55], [], [57], [], [59], [], [61], [], [63], [], [65], [], [67], [], [69], [], [0, 0, 71], [], [0, 0, 73], [], [0, 0, 75], [], [0, 77, 0, 0, 0, 78, 79, 80, 81, 82, 0, 0, 83, 0, 0, 0, 0, 84, 0, 0, 85, 86, 87, 88, 89, 90, 91, 92, 0, 93, 94], [], [], [], [], [], [], [], [], [], [], [], [], [], [], [], [], [], []]
def S0 (n : Nat) : Nat × Nat := S0t.getD n (0, 0)
def R0 (n k : Nat) : Nat := (R0t.getD n []).getD k 0
abbrev okS (n kd : Nat) : Prop := 2 ≤ n ∧ n < 95 ∧ (S0 n).1 = kd
abbrev pl (n : Nat) : Prop := n = 22 ∨ n = 36
def Str (u : pM) : Prop := mX u = 93 ∧ (∀ n, 2 ≤ n → n < 95 → mS u n = S0 n) ∧ (∀ n k, R0 n k ≠ 0 → mR u n k = R0 n k) ∧ pl (mR u 2 10) ∧ pl (mR u 2 11) ∧ okS (mR u 26 0) 6 ∧ okS (mR u 40 0) 6
/-- in the world behind the constructors -/
def Ws (G : pG) (M : pY) (pc : Nat) (l : pLo) (st : List Value) (u : pM) (Q : Option Value → pM → Prop) : Prop := Str u → Wp G M 0 0 pc l st u (fun r u' => Str u' ∧ Q r u')
theorem pl_ok {n : Nat} (h : pl n) : okS n 2 := by rcases h with rfl | rfl <;> decide
theorem ok_of {u : pM} {n kd : Nat} (hs : Str u) (h : okS n kd) : ok u n kd := ⟨h.1, by rw [hs.1]; exact h.2.1, by rw [hs.2.1 n h.1 h.2.1]; exact h.2.2⟩
theorem len_of {u : pM} {n kd : Nat} (hs : Str u) (h : okS n kd) : (mS u n).2 = (S0 n).2 := by rw [hs.2.1 n h.1 h.2.1]
theorem oka_of {u : pM} {n kd L : Nat} {i : Int32} (hs : Str u) (h : okS n kd) (hL : (S0 n).2 = L) (hi : vp_in i L) : oka u n kd i := ⟨ok_of hs h, by rw [len_of hs h, hL]; exact hi⟩
theorem ix_lt {i : Int32} {n : Nat} (h : vp_in i n) : i.toNatClampNeg < n := Nat.not_le.mp fun q => h (Or.inr q)
theorem kx_0 {n : Nat} (h : okS n 0) : n ∈ [14] := (show ∀ n, n < 95 → (2 ≤ n → (S0 n).1 = 0 → n ∈ [14]) from by decide +kernel) n h.2.1 h.1 h.2.2
theorem of_0_1 : ∀ n, okS n 0 → R0 n 1 = n + 1 := fun n h => (show ∀ n ∈ [14], R0 n 1 = n + 1 from by decide +kernel) n (kx_0 h)
theorem os_0_1 {n : Nat} (h : okS n 0) : okS (n + 1) 100 := (show ∀ n ∈ [14], okS (n + 1) 100 from by decide +kernel) n (kx_0 h)
theorem ol_0_1 {n : Nat} (h : okS n 0) : (S0 (n + 1)).2 = 12 := (show ∀ n ∈ [14], (S0 (n + 1)).2 = 12 from by decide +kernel) n (kx_0 h)
theorem of_0_2 : ∀ n, okS n 0 → R0 n 2 = n + 2 := fun n h => (show ∀ n ∈ [14], R0 n 2 = n + 2 from by decide +kernel) n (kx_0 h)
theorem os_0_2 {n : Nat} (h : okS n 0) : okS (n + 2) 100 := (show ∀ n ∈ [14], okS (n + 2) 100 from by decide +kernel) n (kx_0 h)
theorem ol_0_2 {n : Nat} (h : okS n 0) : (S0 (n + 2)).2 = 12 := (show ∀ n ∈ [14], (S0 (n + 2)).2 = 12 from by decide +kernel) n (kx_0 h)
theorem of_0_3 : ∀ n, okS n 0 → R0 n 3 = n + 3 := fun n h => (show ∀ n ∈ [14], R0 n 3 = n + 3 from by decide +kernel) n (kx_0 h)
theorem os_0_3 {n : Nat} (h : okS n 0) : okS (n + 3) 100 := (show ∀ n ∈ [14], okS (n + 3) 100 from by decide +kernel) n (kx_0 h)
theorem ol_0_3 {n : Nat} (h : okS n 0) : (S0 (n + 3)).2 = 12 := (show ∀ n ∈ [14], (S0 (n + 3)).2 = 12 from by decide +kernel) n (kx_0 h)
theorem kx_1 {n : Nat} (h : okS n 1) : n ∈ [18] := (show ∀ n, n < 95 → (2 ≤ n → (S0 n).1 = 1 → n ∈ [18]) from by decide +kernel) n h.2.1 h.1 h.2.2
theorem of_1_0 : ∀ n, okS n 1 → R0 n 0 = n + 1 := fun n h => (show ∀ n ∈ [18], R0 n 0 = n + 1 from by decide +kernel) n (kx_1 h)
theorem os_1_0 {n : Nat} (h : okS n 1) : okS (n + 1) 101 := (show ∀ n ∈ [18], okS (n + 1) 101 from by decide +kernel) n (kx_1 h)
theorem ol_1_0 {n : Nat} (h : okS n 1) : (S0 (n + 1)).2 = 128 := (show ∀ n ∈ [18], (S0 (n + 1)).2 = 128 from by decide +kernel) n (kx_1 h)
theorem of_1_1 : ∀ n, okS n 1 → R0 n 1 = n + 2 := fun n h => (show ∀ n ∈ [18], R0 n 1 = n + 2 from by decide +kernel) n (kx_1 h)
theorem os_1_1 {n : Nat} (h : okS n 1) : okS (n + 2) 101 := (show ∀ n ∈ [18], okS (n + 2) 101 from by decide +kernel) n (kx_1 h)
theorem ol_1_1 {n : Nat} (h : okS n 1) : (S0 (n + 2)).2 = 128 := (show ∀ n ∈ [18], (S0 (n + 2)).2 = 128 from by decide +kernel) n (kx_1 h)
theorem kx_2 {n : Nat} (h : okS n 2) : n ∈ [22, 36] := (show ∀ n, n < 95 → (2 ≤ n → (S0 n).1 = 2 → n ∈ [22, 36]) from by decide +kernel) n h.2.1 h.1 h.2.2
theorem of_2_2 : ∀ n, okS n 2 → R0 n 2 = n + 1 := fun n h => (show ∀ n ∈ [22, 36], R0 n 2 = n + 1 from by decide +kernel) n (kx_2 h)
theorem os_2_2 {n : Nat} (h : okS n 2) : okS (n + 1) 104 := (show ∀ n ∈ [22, 36], okS (n + 1) 104 from by decide +kernel) n (kx_2 h)
theorem ol_2_2 {n : Nat} (h : okS n 2) : (S0 (n + 1)).2 = 7 := (show ∀ n ∈ [22, 36], (S0 (n + 1)).2 = 7 from by decide +kernel) n (kx_2 h)
theorem of_2_3 : ∀ n, okS n 2 → R0 n 3 = n + 2 := fun n h => (show ∀ n ∈ [22, 36], R0 n 3 = n + 2 from by decide +kernel) n (kx_2 h)
theorem os_2_3 {n : Nat} (h : okS n 2) : okS (n + 2) 4 := (show ∀ n ∈ [22, 36], okS (n + 2) 4 from by decide +kernel) n (kx_2 h)
theorem of_2_4 : ∀ n, okS n 2 → R0 n 4 = n + 3 := fun n h => (show ∀ n ∈ [22, 36], R0 n 4 = n + 3 from by decide +kernel) n (kx_2 h)
theorem os_2_4 {n : Nat} (h : okS n 2) : okS (n + 3) 100 := (show ∀ n ∈ [22, 36], okS (n + 3) 100 from by decide +kernel) n (kx_2 h)
theorem ol_2_4 {n : Nat} (h : okS n 2) : (S0 (n + 3)).2 = 7 := (show ∀ n ∈ [22, 36], (S0 (n + 3)).2 = 7 from by decide +kernel) n (kx_2 h)
theorem of_2_5 : ∀ n, okS n 2 → R0 n 5 = n + 4 := fun n h => (show ∀ n ∈ [22, 36], R0 n 5 = n + 4 from by decide +kernel) n (kx_2 h)
theorem os_2_5 {n : Nat} (h : okS n 2) : okS (n + 4) 3 := (show ∀ n ∈ [22, 36], okS (n + 4) 3 from by decide +kernel) n (kx_2 h)
theorem kx_5 {n : Nat} (h : okS n 5) : n ∈ [7, 10, 12, 70, 72, 74] := (show ∀ n, n < 95 → (2 ≤ n → (S0 n).1 = 5 → n ∈ [7, 10, 12, 70, 72, 74]) from by decide +kernel) n h.2.1 h.1 h.2.2
theorem of_5_2 : ∀ n, okS n 5 → R0 n 2 = n + 1 := fun n h => (show ∀ n ∈ [7, 10, 12, 70, 72, 74], R0 n 2 = n + 1 from by decide +kernel) n (kx_5 h)
theorem os_5_2 {n : Nat} (h : okS n 5) : okS (n + 1) 100 := (show ∀ n ∈ [7, 10, 12, 70, 72, 74], okS (n + 1) 100 from by decide +kernel) n (kx_5 h)
theorem ol_5_2 {n : Nat} (h : okS n 5) : (S0 (n + 1)).2 = 7 := (show ∀ n ∈ [7, 10, 12, 70, 72, 74], (S0 (n + 1)).2 = 7 from by decide +kernel) n (kx_5 h)
theorem kx_6 {n : Nat} (h : okS n 6) : n ∈ [5, 27, 41, 50, 52, 54, 56, 58, 60, 62, 64, 66, 68] := (show ∀ n, n < 95 → (2 ≤ n → (S0 n).1 = 6 → n ∈ [5, 27, 41, 50, 52, 54, 56, 58, 60, 62, 64, 66, 68]) from by decide +kernel) n h.2.1 h.1 h.2.2
theorem of_6_0 : ∀ n, okS n 6 → R0 n 0 = n + 1 := fun n h => (show ∀ n ∈ [5, 27, 41, 50, 52, 54, 56, 58, 60, 62, 64, 66, 68], R0 n 0 = n + 1 from by decide +kernel) n (kx_6 h)
theorem os_6_0 {n : Nat} (h : okS n 6) : okS (n + 1) 100 := (show ∀ n ∈ [5, 27, 41, 50, 52, 54, 56, 58, 60, 62, 64, 66, 68], okS (n + 1) 100 from by decide +kernel) n (kx_6 h)
theorem kx_7 {n : Nat} (h : okS n 7) : n ∈ [2] := (show ∀ n, n < 95 → (2 ≤ n → (S0 n).1 = 7 → n ∈ [2]) from by decide +kernel) n h.2.1 h.1 h.2.2
theorem of_7_0 : ∀ n, okS n 7 → R0 n 0 = n + 1 := fun n h => (show ∀ n ∈ [2], R0 n 0 = n + 1 from by decide +kernel) n (kx_7 h)
theorem os_7_0 {n : Nat} (h : okS n 7) : okS (n + 1) 102 := (show ∀ n ∈ [2], okS (n + 1) 102 from by decide +kernel) n (kx_7 h)
theorem ol_7_0 {n : Nat} (h : okS n 7) : (S0 (n + 1)).2 = 6 := (show ∀ n ∈ [2], (S0 (n + 1)).2 = 6 from by decide +kernel) n (kx_7 h)
theorem of_7_1 : ∀ n, okS n 7 → R0 n 1 = n + 2 := fun n h => (show ∀ n ∈ [2], R0 n 1 = n + 2 from by decide +kernel) n (kx_7 h)
theorem os_7_1 {n : Nat} (h : okS n 7) : okS (n + 2) 102 := (show ∀ n ∈ [2], okS (n + 2) 102 from by decide +kernel) n (kx_7 h)
theorem ol_7_1 {n : Nat} (h : okS n 7) : (S0 (n + 2)).2 = 4 := (show ∀ n ∈ [2], (S0 (n + 2)).2 = 4 from by decide +kernel) n (kx_7 h)
theorem of_7_2 : ∀ n, okS n 7 → R0 n 2 = n + 3 := fun n h => (show ∀ n ∈ [2], R0 n 2 = n + 3 from by decide +kernel) n (kx_7 h)
theorem of_7_3 : ∀ n, okS n 7 → R0 n 3 = n + 5 := fun n h => (show ∀ n ∈ [2], R0 n 3 = n + 5 from by decide +kernel) n (kx_7 h)
theorem os_7_3 {n : Nat} (h : okS n 7) : okS (n + 5) 5 := (show ∀ n ∈ [2], okS (n + 5) 5 from by decide +kernel) n (kx_7 h)
theorem of_7_4 : ∀ n, okS n 7 → R0 n 4 = n + 7 := fun n h => (show ∀ n ∈ [2], R0 n 4 = n + 7 from by decide +kernel) n (kx_7 h)
theorem os_7_4 {n : Nat} (h : okS n 7) : okS (n + 7) 103 := (show ∀ n ∈ [2], okS (n + 7) 103 from by decide +kernel) n (kx_7 h)
theorem ol_7_4 {n : Nat} (h : okS n 7) : (S0 (n + 7)).2 = 3 := (show ∀ n ∈ [2], (S0 (n + 7)).2 = 3 from by decide +kernel) n (kx_7 h)
theorem of_7_5 : ∀ n, okS n 7 → R0 n 5 = n + 8 := fun n h => (show ∀ n ∈ [2], R0 n 5 = n + 8 from by decide +kernel) n (kx_7 h)
theorem os_7_5 {n : Nat} (h : okS n 7) : okS (n + 8) 5 := (show ∀ n ∈ [2], okS (n + 8) 5 from by decide +kernel) n (kx_7 h)
theorem of_7_6 : ∀ n, okS n 7 → R0 n 6 = n + 10 := fun n h => (show ∀ n ∈ [2], R0 n 6 = n + 10 from by decide +kernel) n (kx_7 h)
theorem os_7_6 {n : Nat} (h : okS n 7) : okS (n + 10) 5 := (show ∀ n ∈ [2], okS (n + 10) 5 from by decide +kernel) n (kx_7 h)
theorem of_7_7 : ∀ n, okS n 7 → R0 n 7 = n + 12 := fun n h => (show ∀ n ∈ [2], R0 n 7 = n + 12 from by decide +kernel) n (kx_7 h)
theorem os_7_7 {n : Nat} (h : okS n 7) : okS (n + 12) 0 := (show ∀ n ∈ [2], okS (n + 12) 0 from by decide +kernel) n (kx_7 h)
theorem of_7_8 : ∀ n, okS n 7 → R0 n 8 = n + 16 := fun n h => (show ∀ n ∈ [2], R0 n 8 = n + 16 from by decide +kernel) n (kx_7 h)
theorem os_7_8 {n : Nat} (h : okS n 7) : okS (n + 16) 1 := (show ∀ n ∈ [2], okS (n + 16) 1 from by decide +kernel) n (kx_7 h)
theorem of_7_9 : ∀ n, okS n 7 → R0 n 9 = n + 19 := fun n h => (show ∀ n ∈ [2], R0 n 9 = n + 19 from by decide +kernel) n (kx_7 h)
theorem os_7_9 {n : Nat} (h : okS n 7) : okS (n + 19) 100 := (show ∀ n ∈ [2], okS (n + 19) 100 from by decide +kernel) n (kx_7 h)
theorem ol_7_9 {n : Nat} (h : okS n 7) : (S0 (n + 19)).2 = 6 := (show ∀ n ∈ [2], (S0 (n + 19)).2 = 6 from by decide +kernel) n (kx_7 h)
theorem kx_8 {n : Nat} (h : okS n 8) : n ∈ [76] := (show ∀ n, n < 95 → (2 ≤ n → (S0 n).1 = 8 → n ∈ [76]) from by decide +kernel) n h.2.1 h.1 h.2.2
theorem of_8_1 : ∀ n, okS n 8 → R0 n 1 = n + 1 := fun n h => (show ∀ n ∈ [76], R0 n 1 = n + 1 from by decide +kernel) n (kx_8 h)
theorem os_8_1 {n : Nat} (h : okS n 8) : okS (n + 1) 100 := (show ∀ n ∈ [76], okS (n + 1) 100 from by decide +kernel) n (kx_8 h)
theorem ol_8_1 {n : Nat} (h : okS n 8) : (S0 (n + 1)).2 = 6 := (show ∀ n ∈ [76], (S0 (n + 1)).2 = 6 from by decide +kernel) n (kx_8 h)
theorem of_8_5 : ∀ n, okS n 8 → R0 n 5 = n + 2 := fun n h => (show ∀ n ∈ [76], R0 n 5 = n + 2 from by decide +kernel) n (kx_8 h)
theorem os_8_5 {n : Nat} (h : okS n 8) : okS (n + 2) 100 := (show ∀ n ∈ [76], okS (n + 2) 100 from by decide +kernel) n (kx_8 h)
theorem ol_8_5 {n : Nat} (h : okS n 8) : (S0 (n + 2)).2 = 6 := (show ∀ n ∈ [76], (S0 (n + 2)).2 = 6 from by decide +kernel) n (kx_8 h)
theorem of_8_6 : ∀ n, okS n 8 → R0 n 6 = n + 3 := fun n h => (show ∀ n ∈ [76], R0 n 6 = n + 3 from by decide +kernel) n (kx_8 h)
theorem os_8_6 {n : Nat} (h : okS n 8) : okS (n + 3) 100 := (show ∀ n ∈ [76], okS (n + 3) 100 from by decide +kernel) n (kx_8 h)
theorem ol_8_6 {n : Nat} (h : okS n 8) : (S0 (n + 3)).2 = 240 := (show ∀ n ∈ [76], (S0 (n + 3)).2 = 240 from by decide +kernel) n (kx_8 h)
theorem of_8_7 : ∀ n, okS n 8 → R0 n 7 = n + 4 := fun n h => (show ∀ n ∈ [76], R0 n 7 = n + 4 from by decide +kernel) n (kx_8 h)
theorem os_8_7 {n : Nat} (h : okS n 8) : okS (n + 4) 100 := (show ∀ n ∈ [76], okS (n + 4) 100 from by decide +kernel) n (kx_8 h)
theorem ol_8_7 {n : Nat} (h : okS n 8) : (S0 (n + 4)).2 = 40 := (show ∀ n ∈ [76], (S0 (n + 4)).2 = 40 from by decide +kernel) n (kx_8 h)
theorem of_8_8 : ∀ n, okS n 8 → R0 n 8 = n + 5 := fun n h => (show ∀ n ∈ [76], R0 n 8 = n + 5 from by decide +kernel) n (kx_8 h)
theorem os_8_8 {n : Nat} (h : okS n 8) : okS (n + 5) 100 := (show ∀ n ∈ [76], okS (n + 5) 100 from by decide +kernel) n (kx_8 h)
theorem ol_8_8 {n : Nat} (h : okS n 8) : (S0 (n + 5)).2 = 4 := (show ∀ n ∈ [76], (S0 (n + 5)).2 = 4 from by decide +kernel) n (kx_8 h)
theorem of_8_9 : ∀ n, okS n 8 → R0 n 9 = n + 6 := fun n h => (show ∀ n ∈ [76], R0 n 9 = n + 6 from by decide +kernel) n (kx_8 h)
theorem os_8_9 {n : Nat} (h : okS n 8) : okS (n + 6) 100 := (show ∀ n ∈ [76], okS (n + 6) 100 from by decide +kernel) n (kx_8 h)
theorem ol_8_9 {n : Nat} (h : okS n 8) : (S0 (n + 6)).2 = 400 := (show ∀ n ∈ [76], (S0 (n + 6)).2 = 400 from by decide +kernel) n (kx_8 h)
theorem of_8_12 : ∀ n, okS n 8 → R0 n 12 = n + 7 := fun n h => (show ∀ n ∈ [76], R0 n 12 = n + 7 from by decide +kernel) n (kx_8 h)
theorem os_8_12 {n : Nat} (h : okS n 8) : okS (n + 7) 100 := (show ∀ n ∈ [76], okS (n + 7) 100 from by decide +kernel) n (kx_8 h)
theorem ol_8_12 {n : Nat} (h : okS n 8) : (S0 (n + 7)).2 = 70 := (show ∀ n ∈ [76], (S0 (n + 7)).2 = 70 from by decide +kernel) n (kx_8 h)
theorem of_8_17 : ∀ n, okS n 8 → R0 n 17 = n + 8 := fun n h => (show ∀ n ∈ [76], R0 n 17 = n + 8 from by decide +kernel) n (kx_8 h)
theorem os_8_17 {n : Nat} (h : okS n 8) : okS (n + 8) 100 := (show ∀ n ∈ [76], okS (n + 8) 100 from by decide +kernel) n (kx_8 h)
theorem ol_8_17 {n : Nat} (h : okS n 8) : (S0 (n + 8)).2 = 7 := (show ∀ n ∈ [76], (S0 (n + 8)).2 = 7 from by decide +kernel) n (kx_8 h)
theorem of_8_20 : ∀ n, okS n 8 → R0 n 20 = n + 9 := fun n h => (show ∀ n ∈ [76], R0 n 20 = n + 9 from by decide +kernel) n (kx_8 h)
theorem os_8_20 {n : Nat} (h : okS n 8) : okS (n + 9) 100 := (show ∀ n ∈ [76], okS (n + 9) 100 from by decide +kernel) n (kx_8 h)
theorem ol_8_20 {n : Nat} (h : okS n 8) : (S0 (n + 9)).2 = 7 := (show ∀ n ∈ [76], (S0 (n + 9)).2 = 7 from by decide +kernel) n (kx_8 h)
theorem of_8_21 : ∀ n, okS n 8 → R0 n 21 = n + 10 := fun n h => (show ∀ n ∈ [76], R0 n 21 = n + 10 from by decide +kernel) n (kx_8 h)
theorem os_8_21 {n : Nat} (h : okS n 8) : okS (n + 10) 100 := (show ∀ n ∈ [76], okS (n + 10) 100 from by decide +kernel) n (kx_8 h)
theorem ol_8_21 {n : Nat} (h : okS n 8) : (S0 (n + 10)).2 = 7 := (show ∀ n ∈ [76], (S0 (n + 10)).2 = 7 from by decide +kernel) n (kx_8 h)
theorem of_8_22 : ∀ n, okS n 8 → R0 n 22 = n + 11 := fun n h => (show ∀ n ∈ [76], R0 n 22 = n + 11 from by decide +kernel) n (kx_8 h)
theorem os_8_22 {n : Nat} (h : okS n 8) : okS (n + 11) 100 := (show ∀ n ∈ [76], okS (n + 11) 100 from by decide +kernel) n (kx_8 h)
theorem ol_8_22 {n : Nat} (h : okS n 8) : (S0 (n + 11)).2 = 30 := (show ∀ n ∈ [76], (S0 (n + 11)).2 = 30 from by decide +kernel) n (kx_8 h)
theorem of_8_23 : ∀ n, okS n 8 → R0 n 23 = n + 12 := fun n h => (show ∀ n ∈ [76], R0 n 23 = n + 12 from by decide +kernel) n (kx_8 h)
theorem os_8_23 {n : Nat} (h : okS n 8) : okS (n + 12) 100 := (show ∀ n ∈ [76], okS (n + 12) 100 from by decide +kernel) n (kx_8 h)
theorem ol_8_23 {n : Nat} (h : okS n 8) : (S0 (n + 12)).2 = 3968 := (show ∀ n ∈ [76], (S0 (n + 12)).2 = 3968 from by decide +kernel) n (kx_8 h)
theorem of_8_24 : ∀ n, okS n 8 → R0 n 24 = n + 13 := fun n h => (show ∀ n ∈ [76], R0 n 24 = n + 13 from by decide +kernel) n (kx_8 h)
theorem os_8_24 {n : Nat} (h : okS n 8) : okS (n + 13) 100 := (show ∀ n ∈ [76], okS (n + 13) 100 from by decide +kernel) n (kx_8 h)
theorem ol_8_24 {n : Nat} (h : okS n 8) : (S0 (n + 13)).2 = 128 := (show ∀ n ∈ [76], (S0 (n + 13)).2 = 128 from by decide +kernel) n (kx_8 h)
theorem of_8_25 : ∀ n, okS n 8 → R0 n 25 = n + 14 := fun n h => (show ∀ n ∈ [76], R0 n 25 = n + 14 from by decide +kernel) n (kx_8 h)
theorem os_8_25 {n : Nat} (h : okS n 8) : okS (n + 14) 100 := (show ∀ n ∈ [76], okS (n + 14) 100 from by decide +kernel) n (kx_8 h)
theorem ol_8_25 {n : Nat} (h : okS n 8) : (S0 (n + 14)).2 = 128 := (show ∀ n ∈ [76], (S0 (n + 14)).2 = 128 from by decide +kernel) n (kx_8 h)
theorem of_8_26 : ∀ n, okS n 8 → R0 n 26 = n + 15 := fun n h => (show ∀ n ∈ [76], R0 n 26 = n + 15 from by decide +kernel) n (kx_8 h)
theorem os_8_26 {n : Nat} (h : okS n 8) : okS (n + 15) 100 := (show ∀ n ∈ [76], okS (n + 15) 100 from by decide +kernel) n (kx_8 h)
theorem ol_8_26 {n : Nat} (h : okS n 8) : (S0 (n + 15)).2 = 7 := (show ∀ n ∈ [76], (S0 (n + 15)).2 = 7 from by decide +kernel) n (kx_8 h)
theorem of_8_27 : ∀ n, okS n 8 → R0 n 27 = n + 16 := fun n h => (show ∀ n ∈ [76], R0 n 27 = n + 16 from by decide +kernel) n (kx_8 h)
theorem os_8_27 {n : Nat} (h : okS n 8) : okS (n + 16) 100 := (show ∀ n ∈ [76], okS (n + 16) 100 from by decide +kernel) n (kx_8 h)
theorem ol_8_27 {n : Nat} (h : okS n 8) : (S0 (n + 16)).2 = 36 := (show ∀ n ∈ [76], (S0 (n + 16)).2 = 36 from by decide +kernel) n (kx_8 h)
theorem of_8_29 : ∀ n, okS n 8 → R0 n 29 = n + 17 := fun n h => (show ∀ n ∈ [76], R0 n 29 = n + 17 from by decide +kernel) n (kx_8 h)
theorem os_8_29 {n : Nat} (h : okS n 8) : okS (n + 17) 100 := (show ∀ n ∈ [76], okS (n + 17) 100 from by decide +kernel) n (kx_8 h)
theorem ol_8_29 {n : Nat} (h : okS n 8) : (S0 (n + 17)).2 = 7 := (show ∀ n ∈ [76], (S0 (n + 17)).2 = 7 from by decide +kernel) n (kx_8 h)
theorem of_8_30 : ∀ n, okS n 8 → R0 n 30 = n + 18 := fun n h => (show ∀ n ∈ [76], R0 n 30 = n + 18 from by decide +kernel) n (kx_8 h)
theorem os_8_30 {n : Nat} (h : okS n 8) : okS (n + 18) 100 := (show ∀ n ∈ [76], okS (n + 18) 100 from by decide +kernel) n (kx_8 h)
theorem ol_8_30 {n : Nat} (h : okS n 8) : (S0 (n + 18)).2 = 427 := (show ∀ n ∈ [76], (S0 (n + 18)).2 = 427 from by decide +kernel) n (kx_8 h)
def ek (kd : Nat) : Nat := if kd = 102 then 6 else if kd = 103 then 5 else 4
theorem ra_tab : ∀ n, n < 95 → (102 ≤ (S0 n).1 → n = 3 ∨ n = 4 ∨ n = 9 ∨ n = 23 ∨ n = 37) := by decide +kernel
theorem ra_ok {n kd j : Nat} (h : okS n kd) (hk : 102 ≤ kd) (hj : j < (S0 n).2) : R0 n j ≠ 0 ∧ okS (R0 n j) (ek kd) := by
  obtain ⟨h1, h2, h3⟩ := h
  subst h3
  rcases ra_tab n h2 hk with rfl | rfl | rfl | rfl | rfl
  · exact (show ∀ j, j < 6 → R0 3 j ≠ 0 ∧ okS (R0 3 j) 6 from by decide +kernel) j hj
  · exact (show ∀ j, j < 4 → R0 4 j ≠ 0 ∧ okS (R0 4 j) 6 from by decide +kernel) j hj
  · exact (show ∀ j, j < 3 → R0 9 j ≠ 0 ∧ okS (R0 9 j) 5 from by decide +kernel) j hj
  · exact (show ∀ j, j < 7 → R0 23 j ≠ 0 ∧ okS (R0 23 j) 4 from by decide +kernel) j hj
  · exact (show ∀ j, j < 7 → R0 37 j ≠ 0 ∧ okS (R0 37 j) 4 from by decide +kernel) j hj
section STR
variable {G : pG} {M : pY} {pc : Nat} {l : pLo} {st : List Value} {u : pM} {Q : Option Value → pM → Prop}
theorem ws_iconst {n : Int} {v : Int32} (hd : decode M.2.1 pc = .ok (.iconst n, 1)) (hv : Int32.ofInt n = v) (h : Ws G M (pc + 1) l (.int v :: st) u Q) : Ws G M pc l st u Q := fun hs => wp_iconst hd hv (h hs)
theorem ws_bipush {n : Int} {v : Int32} (hd : decode M.2.1 pc = .ok (.bipush n, 2)) (hv : (Int8.ofInt n).toInt32 = v) (h : Ws G M (pc + 2) l (.int v :: st) u Q) : Ws G M pc l st u Q := fun hs => wp_bipush hd hv (h hs)
theorem ws_sipush {n : Int} {v : Int32} (hd : decode M.2.1 pc = .ok (.sipush n, 3)) (hv : (Int16.ofInt n).toInt32 = v) (h : Ws G M (pc + 3) l (.int v :: st) u Q) : Ws G M pc l st u Q := fun hs => wp_sipush hd hv (h hs)
theorem ws_lconst {n : Fin 2} {v : Int64} (hd : decode M.2.1 pc = .ok (.lconst n, 1)) (hv : Int64.ofNat (n : Nat) = v) (h : Ws G M (pc + 1) l (.long v :: st) u Q) : Ws G M pc l st u Q := fun hs => wp_lconst hd hv (h hs)
theorem ws_ldc {i : Nat} {v : Int32} (hd : decode M.2.1 pc = .ok (.ldc i, 2)) (hw : Cond.constant M.1.cls i v ∈ lw_g) (h : Ws G M (pc + 2) l (.int v :: st) u Q) : Ws G M pc l st u Q := fun hs => wp_ldc hd hw (h hs)
theorem ws_ldcw {i : Nat} {v : Int32} (hd : decode M.2.1 pc = .ok (.ldc_w i, 3)) (hw : Cond.constant M.1.cls i v ∈ lw_g) (h : Ws G M (pc + 3) l (.int v :: st) u Q) : Ws G M pc l st u Q := fun hs => wp_ldcw hd hw (h hs)
theorem ws_ldc2 {i : Nat} {v : Int64} (hd : decode M.2.1 pc = .ok (.ldc2_w i, 3)) (hw : Cond.constantLong M.1.cls i v ∈ lw_g) (h : Ws G M (pc + 3) l (.long v :: st) u Q) : Ws G M pc l st u Q := fun hs => wp_ldc2 hd hw (h hs)
theorem ws_iload_n {k0 : Fin 4} {x : Int32} (j : Nat) (hd : decode M.2.1 pc = .ok (.iload_n k0, 1)) (hl : l[j]? = some ((k0 : Nat), .int x)) (h : Ws G M (pc + 1) l (.int x :: st) u Q) : Ws G M pc l st u Q := fun hs => wp_iload_n j hd hl (h hs)
theorem ws_iload {i : Nat} {x : Int32} (j : Nat) (hd : decode M.2.1 pc = .ok (.iload i, 2)) (hl : l[j]? = some (i, .int x)) (h : Ws G M (pc + 2) l (.int x :: st) u Q) : Ws G M pc l st u Q := fun hs => wp_iload j hd hl (h hs)
theorem ws_lload_n {k0 : Fin 4} {x : Int64} (j : Nat) (hd : decode M.2.1 pc = .ok (.lload_n k0, 1)) (hl : l[j]? = some ((k0 : Nat), .long x)) (h : Ws G M (pc + 1) l (.long x :: st) u Q) : Ws G M pc l st u Q := fun hs => wp_lload_n j hd hl (h hs)
theorem ws_lload {i : Nat} {x : Int64} (j : Nat) (hd : decode M.2.1 pc = .ok (.lload i, 2)) (hl : l[j]? = some (i, .long x)) (h : Ws G M (pc + 2) l (.long x :: st) u Q) : Ws G M pc l st u Q := fun hs => wp_lload j hd hl (h hs)
theorem ws_aload_n {k0 : Fin 4} {x : Nat} (j : Nat) (hd : decode M.2.1 pc = .ok (.aload_n k0, 1)) (hl : l[j]? = some ((k0 : Nat), .ref x)) (h : Ws G M (pc + 1) l (.ref x :: st) u Q) : Ws G M pc l st u Q := fun hs => wp_aload_n j hd hl (h hs)
theorem ws_aload {i x : Nat} (j : Nat) (hd : decode M.2.1 pc = .ok (.aload i, 2)) (hl : l[j]? = some (i, .ref x)) (h : Ws G M (pc + 2) l (.ref x :: st) u Q) : Ws G M pc l st u Q := fun hs => wp_aload j hd hl (h hs)
theorem ws_istore_n {k0 : Fin 4} {x : Int32} {l' : pLo} (hd : decode M.2.1 pc = .ok (.istore_n k0, 1)) (hn : (k0 : Nat) < M.2.2.1) (hl : ls1 l k0 (.int x) = l') (h : Ws G M (pc + 1) l' st u Q) : Ws G M pc l (.int x :: st) u Q := fun hs => wp_istore_n hd hn hl (h hs)
theorem ws_istore {i : Nat} {x : Int32} {l' : pLo} (hd : decode M.2.1 pc = .ok (.istore i, 2)) (hn : i < M.2.2.1) (hl : ls1 l i (.int x) = l') (h : Ws G M (pc + 2) l' st u Q) : Ws G M pc l (.int x :: st) u Q := fun hs => wp_istore hd hn hl (h hs)
theorem ws_lstore_n {k0 : Fin 4} {x : Int64} {l' : pLo} (hd : decode M.2.1 pc = .ok (.lstore_n k0, 1)) (hn : (k0 : Nat) + 1 < M.2.2.1) (hl : ls2 l k0 (.long x) = l') (h : Ws G M (pc + 1) l' st u Q) : Ws G M pc l (.long x :: st) u Q := fun hs => wp_lstore_n hd hn hl (h hs)
theorem ws_lstore {i : Nat} {x : Int64} {l' : pLo} (hd : decode M.2.1 pc = .ok (.lstore i, 2)) (hn : i + 1 < M.2.2.1) (hl : ls2 l i (.long x) = l') (h : Ws G M (pc + 2) l' st u Q) : Ws G M pc l (.long x :: st) u Q := fun hs => wp_lstore hd hn hl (h hs)
theorem ws_astore_n {k0 : Fin 4} {x : Nat} {l' : pLo} (hd : decode M.2.1 pc = .ok (.astore_n k0, 1)) (hn : (k0 : Nat) < M.2.2.1) (hl : ls1 l k0 (.ref x) = l') (h : Ws G M (pc + 1) l' st u Q) : Ws G M pc l (.ref x :: st) u Q := fun hs => wp_astore_n hd hn hl (h hs)
theorem ws_astore {i x : Nat} {l' : pLo} (hd : decode M.2.1 pc = .ok (.astore i, 2)) (hn : i < M.2.2.1) (hl : ls1 l i (.ref x) = l') (h : Ws G M (pc + 2) l' st u Q) : Ws G M pc l (.ref x :: st) u Q := fun hs => wp_astore hd hn hl (h hs)
theorem ws_iinc {i : Nat} {n : Int} {x v : Int32} {l' : pLo} (j : Nat) (hd : decode M.2.1 pc = .ok (.iinc i n, 3)) (hj : l[j]? = some (i, .int x)) (hv : Int32.ofInt n = v) (hn : i < M.2.2.1) (hl : ls1 l i (.int (x + v)) = l') (h : Ws G M (pc + 3) l' st u Q) : Ws G M pc l st u Q := fun hs => wp_iinc j hd hj hv hn hl (h hs)
theorem ws_iadd {x y : Int32} (hd : decode M.2.1 pc = .ok (.iadd, 1)) (h : Ws G M (pc + 1) l (.int (x + y) :: st) u Q) : Ws G M pc l (.int y :: .int x :: st) u Q := fun hs => wp_iadd hd (h hs)
theorem ws_isub {x y : Int32} (hd : decode M.2.1 pc = .ok (.isub, 1)) (h : Ws G M (pc + 1) l (.int (x - y) :: st) u Q) : Ws G M pc l (.int y :: .int x :: st) u Q := fun hs => wp_isub hd (h hs)
theorem ws_imul {x y : Int32} (hd : decode M.2.1 pc = .ok (.imul, 1)) (h : Ws G M (pc + 1) l (.int (x * y) :: st) u Q) : Ws G M pc l (.int y :: .int x :: st) u Q := fun hs => wp_imul hd (h hs)
theorem ws_iand {x y : Int32} (hd : decode M.2.1 pc = .ok (.iand, 1)) (h : Ws G M (pc + 1) l (.int (x &&& y) :: st) u Q) : Ws G M pc l (.int y :: .int x :: st) u Q := fun hs => wp_iand hd (h hs)
theorem ws_ior {x y : Int32} (hd : decode M.2.1 pc = .ok (.ior, 1)) (h : Ws G M (pc + 1) l (.int (x ||| y) :: st) u Q) : Ws G M pc l (.int y :: .int x :: st) u Q := fun hs => wp_ior hd (h hs)
theorem ws_ixor {x y : Int32} (hd : decode M.2.1 pc = .ok (.ixor, 1)) (h : Ws G M (pc + 1) l (.int (x ^^^ y) :: st) u Q) : Ws G M pc l (.int y :: .int x :: st) u Q := fun hs => wp_ixor hd (h hs)
theorem ws_idiv {x y : Int32} (hd : decode M.2.1 pc = .ok (.idiv, 1)) (hne : ¬ y = 0) (h : Ws G M (pc + 1) l (.int (x / y) :: st) u Q) : Ws G M pc l (.int y :: .int x :: st) u Q := fun hs => wp_idiv hd hne (h hs)
theorem ws_irem {x y : Int32} (hd : decode M.2.1 pc = .ok (.irem, 1)) (hne : ¬ y = 0) (h : Ws G M (pc + 1) l (.int (x - x / y * y) :: st) u Q) : Ws G M pc l (.int y :: .int x :: st) u Q := fun hs => wp_irem hd hne (h hs)
theorem ws_ineg {x : Int32} (hd : decode M.2.1 pc = .ok (.ineg, 1)) (h : Ws G M (pc + 1) l (.int (-x) :: st) u Q) : Ws G M pc l (.int x :: st) u Q := fun hs => wp_ineg hd (h hs)
theorem ws_ishl {x y : Int32} (hd : decode M.2.1 pc = .ok (.ishl, 1)) (h : Ws G M (pc + 1) l (.int (x <<< (y &&& 31)) :: st) u Q) : Ws G M pc l (.int y :: .int x :: st) u Q := fun hs => wp_ishl hd (h hs)
theorem ws_ishr {x y : Int32} (hd : decode M.2.1 pc = .ok (.ishr, 1)) (h : Ws G M (pc + 1) l (.int (x >>> (y &&& 31)) :: st) u Q) : Ws G M pc l (.int y :: .int x :: st) u Q := fun hs => wp_ishr hd (h hs)
theorem ws_iushr {x y : Int32} (hd : decode M.2.1 pc = .ok (.iushr, 1)) (h : Ws G M (pc + 1) l (.int (x.toUInt32 >>> (y.toUInt32 &&& Int32.toUInt32 31)).toInt32 :: st) u Q) : Ws G M pc l (.int y :: .int x :: st) u Q := fun hs => wp_iushr hd (h hs)
theorem ws_ladd {x y : Int64} (hd : decode M.2.1 pc = .ok (.ladd, 1)) (h : Ws G M (pc + 1) l (.long (x + y) :: st) u Q) : Ws G M pc l (.long y :: .long x :: st) u Q := fun hs => wp_ladd hd (h hs)
theorem ws_lsub {x y : Int64} (hd : decode M.2.1 pc = .ok (.lsub, 1)) (h : Ws G M (pc + 1) l (.long (x - y) :: st) u Q) : Ws G M pc l (.long y :: .long x :: st) u Q := fun hs => wp_lsub hd (h hs)
theorem ws_lmul {x y : Int64} (hd : decode M.2.1 pc = .ok (.lmul, 1)) (h : Ws G M (pc + 1) l (.long (x * y) :: st) u Q) : Ws G M pc l (.long y :: .long x :: st) u Q := fun hs => wp_lmul hd (h hs)
theorem ws_ldiv {x y : Int64} (hd : decode M.2.1 pc = .ok (.ldiv, 1)) (hne : ¬ y = 0) (h : Ws G M (pc + 1) l (.long (x / y) :: st) u Q) : Ws G M pc l (.long y :: .long x :: st) u Q := fun hs => wp_ldiv hd hne (h hs)
theorem ws_lrem {x y : Int64} (hd : decode M.2.1 pc = .ok (.lrem, 1)) (hne : ¬ y = 0) (h : Ws G M (pc + 1) l (.long (x - x / y * y) :: st) u Q) : Ws G M pc l (.long y :: .long x :: st) u Q := fun hs => wp_lrem hd hne (h hs)
theorem ws_lshl {x : Int64} {y : Int32} (hd : decode M.2.1 pc = .ok (.lshl, 1)) (h : Ws G M (pc + 1) l (.long (x <<< (y.toInt64 &&& 63)) :: st) u Q) : Ws G M pc l (.int y :: .long x :: st) u Q := fun hs => wp_lshl hd (h hs)
theorem ws_lshr {x : Int64} {y : Int32} (hd : decode M.2.1 pc = .ok (.lshr, 1)) (h : Ws G M (pc + 1) l (.long (x >>> (y.toInt64 &&& 63)) :: st) u Q) : Ws G M pc l (.int y :: .long x :: st) u Q := fun hs => wp_lshr hd (h hs)
theorem ws_i2l {x : Int32} (hd : decode M.2.1 pc = .ok (.i2l, 1)) (h : Ws G M (pc + 1) l (.long x.toInt64 :: st) u Q) : Ws G M pc l (.int x :: st) u Q := fun hs => wp_i2l hd (h hs)
theorem ws_l2i {x : Int64} (hd : decode M.2.1 pc = .ok (.l2i, 1)) (h : Ws G M (pc + 1) l (.int x.toInt32 :: st) u Q) : Ws G M pc l (.long x :: st) u Q := fun hs => wp_l2i hd (h hs)
theorem ws_i2b {x : Int32} (hd : decode M.2.1 pc = .ok (.i2b, 1)) (h : Ws G M (pc + 1) l (.int x.toInt8.toInt32 :: st) u Q) : Ws G M pc l (.int x :: st) u Q := fun hs => wp_i2b hd (h hs)
theorem ws_dup {v : Value} (hd : decode M.2.1 pc = .ok (.dup, 1)) (hv : v.category = 1) (h : Ws G M (pc + 1) l (v :: v :: st) u Q) : Ws G M pc l (v :: st) u Q := fun hs => wp_dup hd hv (h hs)
theorem ws_pop {v : Value} (hd : decode M.2.1 pc = .ok (.pop, 1)) (hv : v.category = 1) (h : Ws G M (pc + 1) l st u Q) : Ws G M pc l (v :: st) u Q := fun hs => wp_pop hd hv (h hs)
theorem ws_dup2 {v w : Value} (hd : decode M.2.1 pc = .ok (.dup2, 1)) (hv : v.category = 1) (hw : w.category = 1) (h : Ws G M (pc + 1) l (v :: w :: v :: w :: st) u Q) : Ws G M pc l (v :: w :: st) u Q := fun hs => wp_dup2 hd hv hw (h hs)
theorem ws_pop2 {v : Value} (hd : decode M.2.1 pc = .ok (.pop2, 1)) (hv : v.category = 2) (h : Ws G M (pc + 1) l st u Q) : Ws G M pc l (v :: st) u Q := fun hs => wp_pop2 hd hv (h hs)
theorem ws_goto {off : Int} {tgt : Nat} (hd : decode M.2.1 pc = .ok (.goto off, 3)) (ht : (pc : Int) + off = (tgt : Int)) (h : Ws G M tgt l st u Q) : Ws G M pc l st u Q := fun hs => wp_goto hd ht (h hs)
theorem ws_ifnull {x : Nat} {off : Int} (hd : decode M.2.1 pc = .ok (.ifnull off, 3)) (h : Ws G M (pc + 3) l st u Q) : Ws G M pc l (.ref x :: st) u Q := fun hs => wp_ifnull hd (h hs)
theorem ws_lcmp {x y : Int64} (hd : decode M.2.1 pc = .ok (.lcmp, 1)) (h : Ws G M (pc + 1) l (.int (lg_cmp x y) :: st) u Q) : Ws G M pc l (.long y :: .long x :: st) u Q := fun hs => wp_lcmp hd (h hs)
theorem ws_if_eq {x : Int32} {off : Int} {tgt : Nat} (hd : decode M.2.1 pc = .ok (.ifCond .eq off, 3)) (ht : (pc : Int) + off = (tgt : Int)) (kt : x = 0 → Ws G M tgt l st u Q) (kf : ¬ (x = 0) → Ws G M (pc + 3) l st u Q) : Ws G M pc l (.int x :: st) u Q := fun hs => wp_if_eq hd ht (fun q => kt q hs) (fun q => kf q hs)
theorem ws_icmp_eq {x y : Int32} {off : Int} {tgt : Nat} (hd : decode M.2.1 pc = .ok (.if_icmp .eq off, 3)) (ht : (pc : Int) + off = (tgt : Int)) (kt : x = y → Ws G M tgt l st u Q) (kf : ¬ (x = y) → Ws G M (pc + 3) l st u Q) : Ws G M pc l (.int y :: .int x :: st) u Q := fun hs => wp_icmp_eq hd ht (fun q => kt q hs) (fun q => kf q hs)
theorem ws_if_ne {x : Int32} {off : Int} {tgt : Nat} (hd : decode M.2.1 pc = .ok (.ifCond .ne off, 3)) (ht : (pc : Int) + off = (tgt : Int)) (kt : ¬ x = 0 → Ws G M tgt l st u Q) (kf : x = 0 → Ws G M (pc + 3) l st u Q) : Ws G M pc l (.int x :: st) u Q := fun hs => wp_if_ne hd ht (fun q => kt q hs) (fun q => kf q hs)
theorem ws_icmp_ne {x y : Int32} {off : Int} {tgt : Nat} (hd : decode M.2.1 pc = .ok (.if_icmp .ne off, 3)) (ht : (pc : Int) + off = (tgt : Int)) (kt : ¬ x = y → Ws G M tgt l st u Q) (kf : x = y → Ws G M (pc + 3) l st u Q) : Ws G M pc l (.int y :: .int x :: st) u Q := fun hs => wp_icmp_ne hd ht (fun q => kt q hs) (fun q => kf q hs)
theorem ws_if_lt {x : Int32} {off : Int} {tgt : Nat} (hd : decode M.2.1 pc = .ok (.ifCond .lt off, 3)) (ht : (pc : Int) + off = (tgt : Int)) (kt : x < 0 → Ws G M tgt l st u Q) (kf : ¬ (x < 0) → Ws G M (pc + 3) l st u Q) : Ws G M pc l (.int x :: st) u Q := fun hs => wp_if_lt hd ht (fun q => kt q hs) (fun q => kf q hs)
theorem ws_icmp_lt {x y : Int32} {off : Int} {tgt : Nat} (hd : decode M.2.1 pc = .ok (.if_icmp .lt off, 3)) (ht : (pc : Int) + off = (tgt : Int)) (kt : x < y → Ws G M tgt l st u Q) (kf : ¬ (x < y) → Ws G M (pc + 3) l st u Q) : Ws G M pc l (.int y :: .int x :: st) u Q := fun hs => wp_icmp_lt hd ht (fun q => kt q hs) (fun q => kf q hs)
theorem ws_if_ge {x : Int32} {off : Int} {tgt : Nat} (hd : decode M.2.1 pc = .ok (.ifCond .ge off, 3)) (ht : (pc : Int) + off = (tgt : Int)) (kt : 0 ≤ x → Ws G M tgt l st u Q) (kf : ¬ (0 ≤ x) → Ws G M (pc + 3) l st u Q) : Ws G M pc l (.int x :: st) u Q := fun hs => wp_if_ge hd ht (fun q => kt q hs) (fun q => kf q hs)
theorem ws_icmp_ge {x y : Int32} {off : Int} {tgt : Nat} (hd : decode M.2.1 pc = .ok (.if_icmp .ge off, 3)) (ht : (pc : Int) + off = (tgt : Int)) (kt : y ≤ x → Ws G M tgt l st u Q) (kf : ¬ (y ≤ x) → Ws G M (pc + 3) l st u Q) : Ws G M pc l (.int y :: .int x :: st) u Q := fun hs => wp_icmp_ge hd ht (fun q => kt q hs) (fun q => kf q hs)
theorem ws_if_gt {x : Int32} {off : Int} {tgt : Nat} (hd : decode M.2.1 pc = .ok (.ifCond .gt off, 3)) (ht : (pc : Int) + off = (tgt : Int)) (kt : 0 < x → Ws G M tgt l st u Q) (kf : ¬ (0 < x) → Ws G M (pc + 3) l st u Q) : Ws G M pc l (.int x :: st) u Q := fun hs => wp_if_gt hd ht (fun q => kt q hs) (fun q => kf q hs)
theorem ws_icmp_gt {x y : Int32} {off : Int} {tgt : Nat} (hd : decode M.2.1 pc = .ok (.if_icmp .gt off, 3)) (ht : (pc : Int) + off = (tgt : Int)) (kt : y < x → Ws G M tgt l st u Q) (kf : ¬ (y < x) → Ws G M (pc + 3) l st u Q) : Ws G M pc l (.int y :: .int x :: st) u Q := fun hs => wp_icmp_gt hd ht (fun q => kt q hs) (fun q => kf q hs)
theorem ws_if_le {x : Int32} {off : Int} {tgt : Nat} (hd : decode M.2.1 pc = .ok (.ifCond .le off, 3)) (ht : (pc : Int) + off = (tgt : Int)) (kt : x ≤ 0 → Ws G M tgt l st u Q) (kf : ¬ (x ≤ 0) → Ws G M (pc + 3) l st u Q) : Ws G M pc l (.int x :: st) u Q := fun hs => wp_if_le hd ht (fun q => kt q hs) (fun q => kf q hs)
theorem ws_icmp_le {x y : Int32} {off : Int} {tgt : Nat} (hd : decode M.2.1 pc = .ok (.if_icmp .le off, 3)) (ht : (pc : Int) + off = (tgt : Int)) (kt : x ≤ y → Ws G M tgt l st u Q) (kf : ¬ (x ≤ y) → Ws G M (pc + 3) l st u Q) : Ws G M pc l (.int y :: .int x :: st) u Q := fun hs => wp_icmp_le hd ht (fun q => kt q hs) (fun q => kf q hs)
theorem ws_tableIn {x : Int32} {dflt lo hi : Int} {offs : Array Int} {len : Nat} {off : Int} {tgt : Nat} (j : Nat) (hd : decode M.2.1 pc = .ok (.tableswitch dflt lo hi offs, len)) (hx : x.toInt = lo + j) (hj : lo + j ≤ hi) (ho : offs[j]? = some off) (ht : (pc : Int) + off = (tgt : Int)) (h : Ws G M tgt l st u Q) : Ws G M pc l (.int x :: st) u Q := fun hs => wp_tableIn j hd hx hj ho ht (h hs)
theorem ws_tableOut {x : Int32} {dflt lo hi : Int} {offs : Array Int} {len tgt : Nat} (hd : decode M.2.1 pc = .ok (.tableswitch dflt lo hi offs, len)) (hx : x.toInt < lo ∨ hi < x.toInt) (ht : (pc : Int) + dflt = (tgt : Int)) (h : Ws G M tgt l st u Q) : Ws G M pc l (.int x :: st) u Q := fun hs => wp_tableOut hd hx ht (h hs)
theorem ws_getI {idx ci k o : Nat} (hf : FL M.1.cls idx ci k) (ht : fty ci k = 0) (hd : decode M.2.1 pc = .ok (.getfield idx, 3)) (ho : okS o ci) (h : Ws G M (pc + 3) l (.int (mI u o k) :: st) u Q) : Ws G M pc l (.ref o :: st) u Q := fun hs => wp_getI hf ht hd (ok_of hs ho) (h hs)
theorem ws_getL {idx ci k o : Nat} (hf : FL M.1.cls idx ci k) (ht : fty ci k = 1) (hd : decode M.2.1 pc = .ok (.getfield idx, 3)) (ho : okS o ci) (h : Ws G M (pc + 3) l (.long (mL u o k) :: st) u Q) : Ws G M pc l (.ref o :: st) u Q := fun hs => wp_getL hf ht hd (ok_of hs ho) (h hs)
theorem ws_putI {idx ci k o : Nat} {v : Int32} (hf : FL M.1.cls idx ci k) (ht : fty ci k = 0) (hnf : ∀ r ty, clOK ci r ty → (r.2.1 k).2.2.2 = false) (hd : decode M.2.1 pc = .ok (.putfield idx, 3)) (ho : okS o ci) (h : Ws G M (pc + 3) l st (pI u o k v) Q) : Ws G M pc l (.int v :: .ref o :: st) u Q := fun hs => wp_putI hf ht hnf hd (ok_of hs ho) (h hs)
theorem ws_putL {idx ci k o : Nat} {v : Int64} (hf : FL M.1.cls idx ci k) (ht : fty ci k = 1) (hnf : ∀ r ty, clOK ci r ty → (r.2.1 k).2.2.2 = false) (hd : decode M.2.1 pc = .ok (.putfield idx, 3)) (ho : okS o ci) (h : Ws G M (pc + 3) l st (pL u o k v) Q) : Ws G M pc l (.long v :: .ref o :: st) u Q := fun hs => wp_putL hf ht hnf hd (ok_of hs ho) (h hs)
theorem ws_iald {n : Nat} {i : Int32} (hd : decode M.2.1 pc = .ok (.iaload, 1)) (ha : okS n 100) {L : Nat} (hL : (S0 n).2 = L) (hi : vp_in i L) (h : Ws G M (pc + 1) l (.int (mI u n i.toNatClampNeg) :: st) u Q) : Ws G M pc l (.int i :: .ref n :: st) u Q := fun hs => wp_iald hd (oka_of hs ha hL hi) (h hs)
theorem ws_lald {n : Nat} {i : Int32} (hd : decode M.2.1 pc = .ok (.laload, 1)) (ha : okS n 101) {L : Nat} (hL : (S0 n).2 = L) (hi : vp_in i L) (h : Ws G M (pc + 1) l (.long (mL u n i.toNatClampNeg) :: st) u Q) : Ws G M pc l (.int i :: .ref n :: st) u Q := fun hs => wp_lald hd (oka_of hs ha hL hi) (h hs)
theorem ws_iast {n : Nat} {i x : Int32} (hd : decode M.2.1 pc = .ok (.iastore, 1)) (ha : okS n 100) {L : Nat} (hL : (S0 n).2 = L) (hi : vp_in i L) (h : Ws G M (pc + 1) l st (pI u n i.toNatClampNeg x) Q) : Ws G M pc l (.int x :: .int i :: .ref n :: st) u Q := fun hs => wp_iast hd (oka_of hs ha hL hi) (h hs)
theorem ws_last {n : Nat} {i : Int32} {x : Int64} (hd : decode M.2.1 pc = .ok (.lastore, 1)) (ha : okS n 101) {L : Nat} (hL : (S0 n).2 = L) (hi : vp_in i L) (h : Ws G M (pc + 1) l st (pL u n i.toNatClampNeg x) Q) : Ws G M pc l (.long x :: .int i :: .ref n :: st) u Q := fun hs => wp_last hd (oka_of hs ha hL hi) (h hs)
theorem ws_alen {n kd : Nat} (hd : decode M.2.1 pc = .ok (.arraylength, 1)) (ha : okS n kd) (hk : 100 ≤ kd ∧ kd ≤ 104) (h : Ws G M (pc + 1) l (.int (Int32.ofNat (S0 n).2) :: st) u Q) : Ws G M pc l (.ref n :: st) u Q := fun hs => wp_alen hd (ok_of hs ha) hk (by rw [len_of hs ha]; exact h hs)
theorem ws_sld {i : Int32} (hd : decode M.2.1 pc = .ok (.iaload, 1)) (hi : vp_in i (gn G)) (h : Ws G M (pc + 1) l (.int (gx G i.toNatClampNeg) :: st) u Q) : Ws G M pc l (.int i :: .ref 0 :: st) u Q := fun hs => wp_sld hd hi (h hs)
theorem ws_slen (hd : decode M.2.1 pc = .ok (.arraylength, 1)) (h : Ws G M (pc + 1) l (.int (Int32.ofNat (gn G)) :: st) u Q) : Ws G M pc l (.ref 0 :: st) u Q := fun hs => wp_slen hd (h hs)
theorem ws_tld {i : Int32} (hd : decode M.2.1 pc = .ok (.iaload, 1)) (hi : vp_in i 6) (h : Ws G M (pc + 1) l (.int (lets i.toNatClampNeg) :: st) u Q) : Ws G M pc l (.int i :: .ref 1 :: st) u Q := fun hs => wp_tld hd hi (h hs)
theorem ws_tlen (hd : decode M.2.1 pc = .ok (.arraylength, 1)) (h : Ws G M (pc + 1) l (.int 6 :: st) u Q) : Ws G M pc l (.ref 1 :: st) u Q := fun hs => wp_tlen hd (h hs)
theorem ws_gets (hcls : M.1.cls = "DoorRounds$Reader") (hd : decode M.2.1 pc = .ok (.getstatic 42, 3)) (h : Ws G M (pc + 3) l (.ref 1 :: st) u Q) : Ws G M pc l st u Q := fun hs => wp_gets hcls hd (h hs)
theorem Ws.mono {Q' : Option Value → pM → Prop} (h : Ws G M pc l st u Q') (hQ : ∀ r u, Str u → Q' r u → Q r u) : Ws G M pc l st u Q := fun hs => (h hs).mono (fun r u q => ⟨q.1, hQ r u q.1 q.2⟩)
theorem Ws.str (h : Str u → Ws G M pc l st u Q) : Ws G M pc l st u Q := fun hs => h hs hs
theorem ws_loc {l' : pLo} (ks' : List Nat) (hl : lv_pick l ks' = l') (h : Ws G M pc l' st u Q) : Ws G M pc l st u Q := fun hs => wp_loc ks' hl (h hs)
theorem ws_getF {idx ci k o c a : Nat} (hf : FL M.1.cls idx ci k) (ht : fty ci k = 2) (hd : decode M.2.1 pc = .ok (.getfield idx, 3)) (ho : okS o ci) (hR : ∀ n, okS n ci → R0 n k = n + c) (ha : o + c = a) (h : Ws G M (pc + 3) l (.ref a :: st) u Q) : Ws G M pc l (.ref o :: st) u Q := fun hs => by
  subst ha
  have h1 : R0 o k = o + c := hR o ho
  have h2 : mR u o k = o + c := by rw [hs.2.2.1 o k (by rw [h1]; have := ho.1; omega), h1]
  refine wp_getR hf ht hd (ok_of hs ho) (by rw [h2]; have := ho.1; omega) ?_
  rw [h2]
  exact h hs
theorem ws_getP {idx k : Nat} (hk : k = 10 ∨ k = 11) (hf : FL M.1.cls idx 7 k) (hd : decode M.2.1 pc = .ok (.getfield idx, 3)) (h : pl (mR u 2 k) → Ws G M (pc + 3) l (.ref (mR u 2 k) :: st) u Q) : Ws G M pc l (.ref 2 :: st) u Q := fun hs => by
  have hp : pl (mR u 2 k) := by rcases hk with rfl | rfl; exact hs.2.2.2.1; exact hs.2.2.2.2.1
  refine wp_getR hf (by rcases hk with rfl | rfl <;> rfl) hd (ok_of hs (by decide)) (by rcases hp with e | e <;> rw [e] <;> decide) (h hp hs)
theorem ws_getT {idx o : Nat} (hf : FL M.1.cls idx 3 0) (hd : decode M.2.1 pc = .ok (.getfield idx, 3)) (ho : okS o 3) (h : okS (mR u o 0) 6 → Ws G M (pc + 3) l (.ref (mR u o 0) :: st) u Q) : Ws G M pc l (.ref o :: st) u Q := fun hs => by
  have ho2 : o = 26 ∨ o = 40 := (show ∀ n, n < 95 → (2 ≤ n → (S0 n).1 = 3 → n = 26 ∨ n = 40) from by decide +kernel) o ho.2.1 ho.1 ho.2.2
  have hp : okS (mR u o 0) 6 := by rcases ho2 with rfl | rfl; exact hs.2.2.2.2.2.1; exact hs.2.2.2.2.2.2
  exact wp_getR hf rfl hd (ok_of hs ho) (by have := hp.1; omega) (h hp hs)
theorem str_pR {n k v : Nat} (hs : Str u) (h0 : R0 n k = 0) (h1 : n = 2 → pl v) (h2 : n ≠ 2 → okS v 6) : Str (pR u n k v) := by
  have key : ∀ a b, mR (pR u n k v) a b = if a = n ∧ b = k then v else mR u a b := fun a b => rfl
  refine ⟨hs.1, hs.2.1, fun a b hab => ?_, ?_, ?_, ?_, ?_⟩
  · rw [key, if_neg (fun q => hab (by rw [q.1, q.2]; exact h0))]
    exact hs.2.2.1 a b hab
  · rw [key]; split
    · rename_i q; exact h1 q.1.symm
    · exact hs.2.2.2.1
  · rw [key]; split
    · rename_i q; exact h1 q.1.symm
    · exact hs.2.2.2.2.1
  · rw [key]; split
    · rename_i q; exact h2 (by omega)
    · exact hs.2.2.2.2.2.1
  · rw [key]; split
    · rename_i q; exact h2 (by omega)
    · exact hs.2.2.2.2.2.2
theorem ws_putP {idx k v : Nat} (hk : k = 10 ∨ k = 11) (hf : FL M.1.cls idx 7 k) (hnf : ∀ r ty, clOK 7 r ty → (r.2.1 k).2.2.2 = false) (hd : decode M.2.1 pc = .ok (.putfield idx, 3)) (hv : pl v) (h : Ws G M (pc + 3) l st (pR u 2 k v) Q) : Ws G M pc l (.ref v :: .ref 2 :: st) u Q := fun hs =>
  wp_putR hf (by rcases hk with rfl | rfl <;> rfl) hnf hd (ok_of hs (by decide)) (by rcases hv with e | e <;> rw [e] <;> decide) (h (str_pR hs (by rcases hk with rfl | rfl <;> decide) (fun _ => hv) (fun q => absurd rfl q)))
theorem ws_putT {idx o v : Nat} (hf : FL M.1.cls idx 3 0) (hnf : ∀ r ty, clOK 3 r ty → (r.2.1 0).2.2.2 = false) (hd : decode M.2.1 pc = .ok (.putfield idx, 3)) (ho : okS o 3) (hv : okS v 6) (h : Ws G M (pc + 3) l st (pR u o 0 v) Q) : Ws G M pc l (.ref v :: .ref o :: st) u Q := fun hs => by
  have ho2 : o = 26 ∨ o = 40 := (show ∀ n, n < 95 → (2 ≤ n → (S0 n).1 = 3 → n = 26 ∨ n = 40) from by decide +kernel) o ho.2.1 ho.1 ho.2.2
  exact wp_putR hf rfl hnf hd (ok_of hs ho) (by have := hv.1; omega) (h (str_pR hs (by rcases ho2 with rfl | rfl <;> decide) (fun q => by omega) (fun _ => hv)))
theorem ws_aald {n kd L : Nat} {i : Int32} (hd : decode M.2.1 pc = .ok (.aaload, 1)) (ha : okS n kd) (hk : 102 ≤ kd ∧ kd ≤ 104) (hL : (S0 n).2 = L) (hi : vp_in i L) (h : Ws G M (pc + 1) l (.ref (R0 n i.toNatClampNeg) :: st) u Q) : Ws G M pc l (.int i :: .ref n :: st) u Q := fun hs => by
  have h1 := (ra_ok ha hk.1 (by rw [hL]; exact ix_lt hi)).1
  have h2 := hs.2.2.1 n _ h1
  refine wp_aald hd (oka_of hs ha hL hi) hk (by rw [h2]; exact h1) ?_
  rw [h2]; exact h hs
theorem ws_iret {v : Int32} (hd : decode M.2.1 pc = .ok (.ireturn, 1)) (ht : ∃ ty, M.2.2.2.1 = some ty ∧ narrow ty (.int v) = .int v) (hQ : Q (some (.int v)) u) : Ws G M pc l [.int v] u Q := fun hs => wp_iret hd ht ⟨hs, hQ⟩
theorem ws_lret {v : Int64} (hd : decode M.2.1 pc = .ok (.lreturn, 1)) (ht : M.2.2.2.1 = some .long) (hQ : Q (some (.long v)) u) : Ws G M pc l [.long v] u Q := fun hs => wp_lret hd ht ⟨hs, hQ⟩
theorem ws_aret {v : Nat} (hd : decode M.2.1 pc = .ok (.areturn, 1)) (ht : ∃ n, M.2.2.2.1 = some (.object n)) (hQ : Q (some (.ref v)) u) : Ws G M pc l [.ref v] u Q := fun hs => wp_aret hd ht ⟨hs, hQ⟩
theorem ws_vret (hd : decode M.2.1 pc = .ok (.return_, 1)) (ht : M.2.2.2.1 = none) (hQ : Q none u) : Ws G M pc l [] u Q := fun hs => wp_vret hd ht ⟨hs, hQ⟩
theorem ws_copy {idx a b : Nat} {sp dp n : Int32} (hd : decode M.2.1 pc = .ok (.invokestatic idx, 3)) (hL : Cond.methodLink M.1.cls idx arraycopyName ∈ lw_g) (hN : Cond.native arraycopyName ∈ lw_g) (hS0 : Cond.static arraycopyName ∈ lw_g) (hI : Cond.initialized "java/lang/System" ∈ lw_g) (hf : 1 ≤ M.2.2.2.2.1) (hlo : ((st.map (tv G)).map fun v => v.category).sum + 18 ≤ M.2.2.2.2.2) (ha : okS a 100) (hb : okS b 100) (h1 : ¬ sp < 0) (h2 : ¬ dp < 0) (h3 : ¬ n < 0) (h4 : sp.toNatClampNeg + n.toNatClampNeg ≤ (S0 a).2) (h5 : dp.toNatClampNeg + n.toNatClampNeg ≤ (S0 b).2) (h : Ws G M (pc + 3) l st (cpI u a b sp.toNatClampNeg dp.toNatClampNeg n.toNatClampNeg) Q) : Ws G M pc l (.int n :: .int dp :: .ref b :: .int sp :: .ref a :: st) u Q := fun hs => wp_copy hd hL hN hS0 hI hf hlo (ok_of hs ha) (ok_of hs hb) h1 h2 h3 (by rw [len_of hs ha]; exact h4) (by rw [len_of hs hb]; exact h5) (h hs)
/-- calls, by the callee's answer -/
def CV (M : pY) (n ci : Nat) : Prop := CM M n ∧ Cond.instanceMethod M.1 ∈ lw_g ∧ Cond.selects M.1.cls M.1 M.1 ∈ lw_g ∧ (∃ r : vw_C, cls9[ci]? = some r ∧ r.1 = M.1.cls) ∧ ci < 9
def CS (M : pY) (n : Nat) : Prop := CM M n ∧ Cond.static M.1 ∈ lw_g
theorem ws_callV {M' : pY} {idx n o ci : Nat} {As : List Value} {la : pLo} {sk : List Value} {Q' : Option Value → pM → Prop} (hd : decode M.2.1 pc = .ok (.invokevirtual idx, 3)) (hM : CV M' n ci) (hL : LK M.1.cls idx M') (hrm : RoomOK M M') (ho : okS o ci) (hn : As.length = n) (hlen : (lg_sl ((.ref o :: As).map (tv G))).length ≤ M'.2.2.1) (hst : ((st.map (tv G)).map fun v => v.category).sum ≤ 8) (hla : lv_args 0 (.ref o :: As) = la) (hsk : As.reverse ++ .ref o :: st = sk) (h : Ws G M' 0 la [] u Q') (k : ∀ r u', Q' r u' → Ws G M (pc + 3) l (r.toList ++ st) u' Q) : Ws G M pc l sk u Q := fun hs => by
  subst hla; subst hsk
  obtain ⟨h1, h2, h3, ⟨r, h4, h5⟩, h6⟩ := hM
  exact wp_callV (kc' := 0) (ks' := 0) (kc := 0) (ks := 0) hd h1 hL h2 h3 hrm (ok_of hs ho) h4 h5 h6 hn hlen hst (h hs) (fun r u' q => k r u' q.2 q.1)
theorem ws_callS {M' : pY} {idx n : Nat} {As : List Value} {la : pLo} {sk : List Value} {Q' : Option Value → pM → Prop} (hd : decode M.2.1 pc = .ok (.invokestatic idx, 3)) (hM : CS M' n) (hL : LK M.1.cls idx M') (hrm : RoomOK M M') (hn : As.length = n) (hlen : (lg_sl (As.map (tv G))).length ≤ M'.2.2.1) (hst : ((st.map (tv G)).map fun v => v.category).sum ≤ 8) (hla : lv_args 0 As = la) (hsk : As.reverse ++ st = sk) (h : Ws G M' 0 la [] u Q') (k : ∀ r u', Q' r u' → Ws G M (pc + 3) l (r.toList ++ st) u' Q) : Ws G M pc l sk u Q := fun hs => by
  subst hla; subst hsk
  exact wp_callS (kc' := 0) (ks' := 0) (kc := 0) (ks := 0) hd hM.1 hL hM.2 hrm hn hlen hst (h hs) (fun r u' q => k r u' q.2 q.1)
theorem ws_callVI {M' : pY} {idx n o ci : Nat} {As : List Value} {la : pLo} {sk : List Value} {K : Int32 → pM → Prop} (hd : decode M.2.1 pc = .ok (.invokevirtual idx, 3)) (hM : CV M' n ci) (hL : LK M.1.cls idx M') (hrm : RoomOK M M') (ho : okS o ci) (hn : As.length = n) (hlen : (lg_sl ((.ref o :: As).map (tv G))).length ≤ M'.2.2.1) (hst : ((st.map (tv G)).map fun v => v.category).sum ≤ 8) (hla : lv_args 0 (.ref o :: As) = la) (hsk : As.reverse ++ .ref o :: st = sk) (h : Ws G M' 0 la [] u (RI K)) (k : ∀ x u', K x u' → Ws G M (pc + 3) l (.int x :: st) u' Q) : Ws G M pc l sk u Q := ws_callV hd hM hL hrm ho hn hlen hst hla hsk h (fun r u' q => by obtain ⟨x, rfl, q⟩ := q; exact k x u' q)
theorem ws_callVJ {M' : pY} {idx n o ci : Nat} {As : List Value} {la : pLo} {sk : List Value} {K : Int64 → pM → Prop} (hd : decode M.2.1 pc = .ok (.invokevirtual idx, 3)) (hM : CV M' n ci) (hL : LK M.1.cls idx M') (hrm : RoomOK M M') (ho : okS o ci) (hn : As.length = n) (hlen : (lg_sl ((.ref o :: As).map (tv G))).length ≤ M'.2.2.1) (hst : ((st.map (tv G)).map fun v => v.category).sum ≤ 8) (hla : lv_args 0 (.ref o :: As) = la) (hsk : As.reverse ++ .ref o :: st = sk) (h : Ws G M' 0 la [] u (RJ K)) (k : ∀ x u', K x u' → Ws G M (pc + 3) l (.long x :: st) u' Q) : Ws G M pc l sk u Q := ws_callV hd hM hL hrm ho hn hlen hst hla hsk h (fun r u' q => by obtain ⟨x, rfl, q⟩ := q; exact k x u' q)
theorem ws_callVR {M' : pY} {idx n o ci : Nat} {As : List Value} {la : pLo} {sk : List Value} {K : Nat → pM → Prop} (hd : decode M.2.1 pc = .ok (.invokevirtual idx, 3)) (hM : CV M' n ci) (hL : LK M.1.cls idx M') (hrm : RoomOK M M') (ho : okS o ci) (hn : As.length = n) (hlen : (lg_sl ((.ref o :: As).map (tv G))).length ≤ M'.2.2.1) (hst : ((st.map (tv G)).map fun v => v.category).sum ≤ 8) (hla : lv_args 0 (.ref o :: As) = la) (hsk : As.reverse ++ .ref o :: st = sk) (h : Ws G M' 0 la [] u (RR K)) (k : ∀ x u', K x u' → Ws G M (pc + 3) l (.ref x :: st) u' Q) : Ws G M pc l sk u Q := ws_callV hd hM hL hrm ho hn hlen hst hla hsk h (fun r u' q => by obtain ⟨x, rfl, q⟩ := q; exact k x u' q)
theorem ws_callVV {M' : pY} {idx n o ci : Nat} {As : List Value} {la : pLo} {sk : List Value} {K : pM → Prop} (hd : decode M.2.1 pc = .ok (.invokevirtual idx, 3)) (hM : CV M' n ci) (hL : LK M.1.cls idx M') (hrm : RoomOK M M') (ho : okS o ci) (hn : As.length = n) (hlen : (lg_sl ((.ref o :: As).map (tv G))).length ≤ M'.2.2.1) (hst : ((st.map (tv G)).map fun v => v.category).sum ≤ 8) (hla : lv_args 0 (.ref o :: As) = la) (hsk : As.reverse ++ .ref o :: st = sk) (h : Ws G M' 0 la [] u (RV K)) (k : ∀ u', K u' → Ws G M (pc + 3) l st u' Q) : Ws G M pc l sk u Q := ws_callV hd hM hL hrm ho hn hlen hst hla hsk h (fun r u' q => by obtain ⟨rfl, q⟩ := q; exact k u' q)
theorem ws_callSI {M' : pY} {idx n : Nat} {As : List Value} {la : pLo} {sk : List Value} {K : Int32 → pM → Prop} (hd : decode M.2.1 pc = .ok (.invokestatic idx, 3)) (hM : CS M' n) (hL : LK M.1.cls idx M') (hrm : RoomOK M M') (hn : As.length = n) (hlen : (lg_sl (As.map (tv G))).length ≤ M'.2.2.1) (hst : ((st.map (tv G)).map fun v => v.category).sum ≤ 8) (hla : lv_args 0 As = la) (hsk : As.reverse ++ st = sk) (h : Ws G M' 0 la [] u (RI K)) (k : ∀ x u', K x u' → Ws G M (pc + 3) l (.int x :: st) u' Q) : Ws G M pc l sk u Q := ws_callS hd hM hL hrm hn hlen hst hla hsk h (fun r u' q => by obtain ⟨x, rfl, q⟩ := q; exact k x u' q)
theorem ws_callSJ {M' : pY} {idx n : Nat} {As : List Value} {la : pLo} {sk : List Value} {K : Int64 → pM → Prop} (hd : decode M.2.1 pc = .ok (.invokestatic idx, 3)) (hM : CS M' n) (hL : LK M.1.cls idx M') (hrm : RoomOK M M') (hn : As.length = n) (hlen : (lg_sl (As.map (tv G))).length ≤ M'.2.2.1) (hst : ((st.map (tv G)).map fun v => v.category).sum ≤ 8) (hla : lv_args 0 As = la) (hsk : As.reverse ++ st = sk) (h : Ws G M' 0 la [] u (RJ K)) (k : ∀ x u', K x u' → Ws G M (pc + 3) l (.long x :: st) u' Q) : Ws G M pc l sk u Q := ws_callS hd hM hL hrm hn hlen hst hla hsk h (fun r u' q => by obtain ⟨x, rfl, q⟩ := q; exact k x u' q)
theorem ws_callSV {M' : pY} {idx n : Nat} {As : List Value} {la : pLo} {sk : List Value} {K : pM → Prop} (hd : decode M.2.1 pc = .ok (.invokestatic idx, 3)) (hM : CS M' n) (hL : LK M.1.cls idx M') (hrm : RoomOK M M') (hn : As.length = n) (hlen : (lg_sl (As.map (tv G))).length ≤ M'.2.2.1) (hst : ((st.map (tv G)).map fun v => v.category).sum ≤ 8) (hla : lv_args 0 As = la) (hsk : As.reverse ++ st = sk) (h : Ws G M' 0 la [] u (RV K)) (k : ∀ u', K u' → Ws G M (pc + 3) l st u' Q) : Ws G M pc l sk u Q := ws_callS hd hM hL hrm hn hlen hst hla hsk h (fun r u' q => by obtain ⟨rfl, q⟩ := q; exact k u' q)
end STR
