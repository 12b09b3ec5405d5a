/-! ===== what is alike on both sides ===== -/
def RX (u : pM) : Prop := RT u u
theorem RX.cl {L : List Nat} {u u1 : pM} (h : RX u) (q : Cl L u u1) (hL : ∀ n, n < 70 → 62 ≤ n → n ∉ L) : RX u1 := (RT.fc h (fp_c q.2.2 (fun n a b => hL n b a))).fm (fun n k z => q.2.1 n k (by rcases z with rfl | rfl <;> decide))
theorem RX.mo {L : List Nat} {u u1 : pM} (h : RX u) (q : Mo L u u1) (hL : 81 ∉ L ∧ 82 ∉ L) : RX u1 := (RT.fm h (fp_m q.2.2 hL)).fc (fun n k z => q.2.1 n k (by have := z.2; omega))
theorem RX.st {L L' : List Nat} {u u1 u2 : pM} (h : RX u) (q1 : Cl L u u1) (q2 : Mo L' u1 u2) (f : RT u u1 → RT u1 u2) : RX u2 := (f (RT.fm h (fun n k z => q1.2.1 n k (by rcases z with rfl | rfl <;> decide)))).fc (fun n k z => q2.2.1 n k (by have := z.2; omega))
theorem X_text {u u1 u2 : pM} {x1 x2 a1 a2 : Int32} (h : RX u) (_ : InvC u) (q1 : Cl (qB ++ qT) u u1 ∧ textV x1 x2 = a1 ∧ textC u x1 x2 u1) (q2 : Mo (mB ++ mTx) u1 u2 ∧ textV x1 x2 = a2 ∧ textM u1 x1 x2 u2) : a1 = a2 ∧ RX u2 := ⟨q1.2.1.symm.trans q2.2.1, h.st q1.1 q2.1 (fun r => text_eq r q1.2.2 q2.2.2)⟩
theorem X_put {u u1 u2 : pM} {x1 x2 x3 a1 a2 : Int32} (h : RX u) (hC : InvC u) (q1 : Cl (qB ++ qT) u u1 ∧ putC u x1 x2 x3 a1 u1) (q2 : Mo (mB ++ mTx) u1 u2 ∧ putM u1 x1 x2 x3 a2 u2) : a1 = a2 ∧ RX u2 := by
  have r : RT u u1 := RT.fm h (fun n k z => q1.1.2.1 n k (by rcases z with rfl | rfl <;> decide))
  have p := put_eq hC r q1.2 q2.2
  exact ⟨p.1, h.st q1.1 q2.1 (fun _ => p.2)⟩
theorem qP_n {o : Nat} (hp : pl o) : ∀ n, n < 70 → 62 ≤ n → n ∉ qB ++ qPl o := by
  rcases hp with rfl | rfl <;> decide
