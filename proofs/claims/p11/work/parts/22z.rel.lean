/-! ===== what is alike on both sides ===== -/
def RX (u : pM) : Prop := RT u u
theorem RX.cl {L : List Nat} {u u1 : pM} (h : RX u) (q : Cl L u u1) (hL : ∀ n, n < 70 → 62 ≤ n → n ∉ L) : RX u1 := (RT.fc h (fp_c q.2.2 (fun n a b => hL n b a))).fm (fun n k z => q.2.1 n k (by rcases z with rfl | rfl <;> decide))
theorem RX.mo {L : List Nat} {u u1 : pM} (h : RX u) (q : Mo L u u1) (hL : 81 ∉ L ∧ 82 ∉ L) : RX u1 := (RT.fm h (fp_m q.2.2 hL)).fc (fun n k z => q.2.1 n k (by have := z.2; omega))
theorem RX.st {L L' : List Nat} {u u1 u2 : pM} (h : RX u) (q1 : Cl L u u1) (q2 : Mo L' u1 u2) (f : RT u u1 → RT u1 u2) : RX u2 := (f (RT.fm h (fun n k z => q1.2.1 n k (by rcases z with rfl | rfl <;> decide)))).fc (fun n k z => q2.2.1 n k (by have := z.2; omega))
theorem X_text {u u1 u2 : pM} {x1 x2 a1 a2 : Int32} (h : RX u) (_ : InvC u) (_ : InvM u) (q1 : Cl (qB ++ qT) u u1 ∧ textV x1 x2 = a1 ∧ textC u x1 x2 u1) (q2 : Mo (mB ++ mTx) u1 u2 ∧ textV x1 x2 = a2 ∧ textM u1 x1 x2 u2) : a1 = a2 ∧ RX u2 := ⟨q1.2.1.symm.trans q2.2.1, h.st q1.1 q2.1 (fun r => text_eq r q1.2.2 q2.2.2)⟩
theorem X_put {u u1 u2 : pM} {x1 x2 x3 a1 a2 : Int32} (h : RX u) (hC : InvC u) (_ : InvM u) (q1 : Cl (qB ++ qT) u u1 ∧ putC u x1 x2 x3 a1 u1) (q2 : Mo (mB ++ mTx) u1 u2 ∧ putM u1 x1 x2 x3 a2 u2) : a1 = a2 ∧ RX u2 := by
  have r : RT u u1 := RT.fm h (fun n k z => q1.1.2.1 n k (by rcases z with rfl | rfl <;> decide))
  have p := put_eq hC r q1.2 q2.2
  exact ⟨p.1, h.st q1.1 q2.1 (fun _ => p.2)⟩
theorem qP_n {o : Nat} (hp : pl o) : ∀ n, n < 70 → 62 ≤ n → n ∉ qB ++ qPl o := by
  rcases hp with rfl | rfl <;> decide
/-! square: the same text, the same answer -/
theorem RT_T {u v : pM} {x1 : Int32} (h : RT u v) (a : 0 ≤ x1 ∧ x1 < 4) (hn : 0 ≤ mI v 81 x1.toNatClampNeg) (h100 : mI v 81 x1.toNatClampNeg ≤ 100) : mI u (62 + 2 * x1.toNatClampNeg) 1 = mI v 81 x1.toNatClampNeg ∧ sgT (mI u (62 + 2 * x1.toNatClampNeg) 1) (mI u (63 + 2 * x1.toNatClampNeg)) = TM v x1 := by
  have l := (tO a).2
  rcases h _ l with ⟨_, z⟩ | ⟨_, e, c⟩
  · exact absurd hn (Int32.not_le.mpr z)
  · refine ⟨e, ?_⟩
    funext x
    unfold TM sgT
    rw [e]
    by_cases q : 0 ≤ x ∧ x < mI v 81 x1.toNatClampNeg
    · rw [if_pos q, if_pos q]
      refine c _ ?_
      have z := Int32.lt_iff_toInt_lt.mp (Int32.lt_of_lt_of_le q.2 h100)
      have e : x.toNatClampNeg = x.toInt.toNat := rfl
      have d : (100 : Int32).toInt = 100 := by decide
      omega
    · rw [if_neg q, if_neg q]
theorem sq_RT {u v : pM} {x1 a b : Int32} (h : RT u v) (h100 : mI v 81 x1.toNatClampNeg ≤ 100) (p : sqP (mI u (62 + 2 * x1.toNatClampNeg) 1) (sgT (mI u (62 + 2 * x1.toNatClampNeg) 1) (mI u (63 + 2 * x1.toNatClampNeg))) x1 a) (q : sqP (mI v 81 x1.toNatClampNeg) (TM v x1) x1 b) : a = b := by
  by_cases c : 0 ≤ x1 ∧ x1 < 4
  · by_cases hn : 0 ≤ mI v 81 x1.toNatClampNeg
    · have e := RT_T h c hn h100
      rw [e.2, e.1] at p
      exact sq_eq p q
    · have hu : ¬ 0 ≤ mI u (62 + 2 * x1.toNatClampNeg) 1 := by
        rcases h _ (tO c).2 with ⟨z, _⟩ | ⟨z, e, _⟩
        · exact Int32.not_le.mpr z
        · rw [e] at z; exact absurd z hn
      rcases p with ⟨z, _⟩ | ⟨_, p⟩
      · exact absurd c z
      · rcases q with ⟨z, _⟩ | ⟨_, q⟩
        · exact absurd c z
        · rcases p with ⟨_, e⟩ | ⟨z, _⟩
          · rcases q with ⟨_, f⟩ | ⟨z, _⟩
            · rw [e, f]
            · exact absurd z hn
          · exact absurd z hu
  · rcases p with ⟨_, e⟩ | ⟨z, _⟩
    · rcases q with ⟨_, f⟩ | ⟨z, _⟩
      · rw [e, f]
      · exact absurd z c
    · exact absurd z c
theorem X_square {u u1 u2 : pM} {x1 a1 a2 : Int32} (h : RX u) (_ : InvC u) (hM : InvM u) (q1 : Cl (qB ++ qN ++ qK ++ qJ ++ qP) u u1 ∧ sqP (mI u (62 + 2 * x1.toNatClampNeg) 1) (sgT (mI u (62 + 2 * x1.toNatClampNeg) 1) (mI u (63 + 2 * x1.toNatClampNeg))) x1 a1) (q2 : Mo (mB ++ mPl ++ mNw ++ mKp ++ mJn ++ mFd) u1 u2 ∧ sqP (mI u1 81 x1.toNatClampNeg) (TM u1 x1) x1 a2) : a1 = a2 ∧ RX u2 := by
  have r : RT u u1 := RT.fm h (fun n k z => q1.1.2.1 n k (by rcases z with rfl | rfl <;> decide))
  refine ⟨sq_RT r (by rw [q1.1.2.1 81 _ (by decide)]; exact hM.b81 _) q1.2 q2.2, (h.cl q1.1 (by decide)).mo q2.1 (by decide)⟩
