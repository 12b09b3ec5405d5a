/-! ===== what is alike on both sides: texts, the square's numbers ===== -/
def RX (u : pM) : Prop := RT u u ∧ RN u u
theorem RX.cl {L : List Nat} {u u1 : pM} (h : RX u) (q : Cl L u u1) (hL : ∀ n, n < 70 → (62 ≤ n ∨ n = 22 ∨ n = 36 ∨ n = 0) → n ∉ L) : RX u1 := ⟨(RT.fc h.1 (fp_c q.fp (fun n a b => hL n b (.inl a)))).fm (fun n k z => q.2.1 n k (by rcases z with rfl | rfl <;> decide)), (h.2.cl q (hL 0 (by decide) (by decide)) (by rcases h.2.2.1.1 with z | z <;> rw [z] <;> exact hL _ (by decide) (by decide))).fm ⟨q.2.1 _ _ (by decide), q.2.1 _ _ (by decide)⟩⟩
theorem RX.mo {L : List Nat} {u u1 : pM} (h : RX u) (q : Mo L u u1) (hL : (81 ∉ L ∧ 82 ∉ L) ∧ 210 ∉ L ∧ 211 ∉ L) : RX u1 := ⟨(RT.fm h.1 (fp_m q.fp hL.1)).fc (fun n k z => q.2.1 n k (by have := z.2; omega)), (h.2.mo q hL.2).cc q.2.2.2 q.2.1⟩
theorem RX.rt {L : List Nat} {u u1 : pM} (h : RX u) (q1 : Cl L u u1) : RT u u1 := RT.fm h.1 (fun n k z => q1.2.1 n k (by rcases z with rfl | rfl <;> decide))
theorem RX.rn {L : List Nat} {u u1 : pM} (h : RX u) (q1 : Cl L u u1) : RN u u1 := h.2.fm ⟨q1.2.1 _ _ (by decide), q1.2.1 _ _ (by decide)⟩
/-- behind both calls, by what they did -/
theorem RX.st {L' : List Nat} {u1 u2 : pM} (q2 : Mo L' u1 u2) (f : RT u1 u2) (g : RN u1 u2) : RX u2 := ⟨f.fc (fun n k z => q2.2.1 n k (by have := z.2; omega)), g.cc q2.2.2.2 q2.2.1⟩
theorem RX.fault {u u1 : pM} (h : RX u) (q : Cl (qB ++ qPl (mR u 2 11)) u u1) : RX u1 := by
  obtain ⟨hne, ⟨h10, h11⟩, _⟩ := id h.2
  refine ⟨(RT.fc h.1 (fp_c q.fp (fun n a b => ?_))).fm (fun n k z => q.2.1 n k (by rcases z with rfl | rfl <;> decide)), (h.2.cl q ?_ ?_).fm ⟨q.2.1 _ _ (by decide), q.2.1 _ _ (by decide)⟩⟩
  · rcases h11 with z | z
    · rw [z]; exact (show ∀ n, n < 70 → 62 ≤ n → n ∉ qB ++ qPl 22 from by decide) n b a
    · rw [z]; exact (show ∀ n, n < 70 → 62 ≤ n → n ∉ qB ++ qPl 36 from by decide) n b a
  · rcases h11 with z | z <;> rw [z] <;> decide
  · rcases h10 with y | y <;> rcases h11 with z | z
    · exact absurd (y.trans z.symm) hne
    · rw [y, z]; decide
    · rw [y, z]; decide
    · exact absurd (y.trans z.symm) hne
theorem X_text {u u1 u2 : pM} {x1 x2 a1 a2 : Int32} (h : RX u) (_ : InvC u) (_ : InvM u) (q1 : Cl (qB ++ qT) u u1 ∧ textV x1 x2 = a1 ∧ textC u x1 x2 u1) (q2 : Mo (mB ++ mTx) u1 u2 ∧ textV x1 x2 = a2 ∧ textM u1 x1 x2 u2) : a1 = a2 ∧ RX u2 := by
  have hn := h.2
  refine ⟨q1.2.1.symm.trans q2.2.1, RX.st q2.1 (text_eq (h.rt q1.1) q1.2.2 q2.2.2) ((((h.rn q1.1).cl q1.1 (by decide) ?_)).mo q2.1 (by decide))⟩
  rcases hn.2.1.1 with z | z <;> rw [z] <;> decide
theorem X_put {u u1 u2 : pM} {x1 x2 x3 a1 a2 : Int32} (h : RX u) (hC : InvC u) (_ : InvM u) (q1 : Cl (qB ++ qT) u u1 ∧ putC u x1 x2 x3 a1 u1) (q2 : Mo (mB ++ mTx) u1 u2 ∧ putM u1 x1 x2 x3 a2 u2) : a1 = a2 ∧ RX u2 := by
  have p := put_eq hC (h.rt q1.1) q1.2 q2.2
  refine ⟨p.1, RX.st q2.1 p.2 (((h.rn q1.1).cl q1.1 (by decide) ?_).mo q2.1 (by decide))⟩
  rcases h.2.2.1.1 with z | z <;> rw [z] <;> decide
theorem RT_T {u v : pM} {x1 : Int32} (h : RT u v) (a : 0 ≤ x1 ∧ x1 < 4) (hn : 0 ≤ mI v 81 x1.toNatClampNeg) (h100 : mI v 81 x1.toNatClampNeg ≤ 100) : mI u (62 + 2 * x1.toNatClampNeg) 1 = mI v 81 x1.toNatClampNeg ∧ sgT (mI u (62 + 2 * x1.toNatClampNeg) 1) (mI u (63 + 2 * x1.toNatClampNeg)) = TM v x1 := by
  have l := (tO a).2
  rcases h _ l with ⟨_, z⟩ | ⟨_, e, c⟩
  · exact absurd hn (Int32.not_le.mpr z)
  · refine ⟨e, ?_⟩
    funext x
    unfold TM sgT
    rw [e]
    by_cases q : 0 ≤ x ∧ x < mI v 81 x1.toNatClampNeg
    · rw [if_pos q, if_pos q]
      refine c _ ?_
      have z := Int32.lt_iff_toInt_lt.mp (Int32.lt_of_lt_of_le q.2 h100)
      have e : x.toNatClampNeg = x.toInt.toNat := rfl
      have d : (100 : Int32).toInt = 100 := by decide
      omega
    · rw [if_neg q, if_neg q]
theorem sq_RT {u v : pM} {x1 a b : Int32} {F F' : Prop} {S S' : Int32 → List Sh5 → Prop} (h : RT u v) (h100 : mI v 81 x1.toNatClampNeg ≤ 100) (p : sqQ (mI u (62 + 2 * x1.toNatClampNeg) 1) (sgT (mI u (62 + 2 * x1.toNatClampNeg) 1) (mI u (63 + 2 * x1.toNatClampNeg))) x1 a F S) (q : sqQ (mI v 81 x1.toNatClampNeg) (TM v x1) x1 b F' S') : a = b ∧ ((F ∧ F') ∨ ∃ d l, S d l ∧ S' d l) := by
  by_cases c : 0 ≤ x1 ∧ x1 < 4
  · by_cases hn : 0 ≤ mI v 81 x1.toNatClampNeg
    · have e := RT_T h c hn h100
      rw [e.2, e.1] at p
      exact sq_eq p q
    · have hu : ¬ 0 ≤ mI u (62 + 2 * x1.toNatClampNeg) 1 := by
        rcases h _ (tO c).2 with ⟨z, _⟩ | ⟨z, e, _⟩
        · exact Int32.not_le.mpr z
        · rw [e] at z; exact absurd z hn
      rcases p with ⟨z, _⟩ | ⟨_, p⟩
      · exact absurd c z
      · rcases q with ⟨z, _⟩ | ⟨_, q⟩
        · exact absurd c z
        · rcases p with ⟨_, e, y⟩ | ⟨z, _⟩
          · rcases q with ⟨_, f, z⟩ | ⟨z, _⟩
            · exact ⟨by rw [e, f], .inl ⟨y, z⟩⟩
            · exact absurd z hn
          · exact absurd z hu
  · rcases p with ⟨_, e, y⟩ | ⟨z, _⟩
    · rcases q with ⟨_, f, z⟩ | ⟨z, _⟩
      · exact ⟨by rw [e, f], .inl ⟨y, z⟩⟩
      · exact absurd z c
    · exact absurd z c
theorem X_square {u u1 u2 : pM} {x1 a1 a2 : Int32} (h : RX u) (_ : InvC u) (hM : InvM u) (q1 : Cl (qB ++ qN ++ qK ++ qJ ++ qP ++ qZ) u u1 ∧ sqQ (mI u (62 + 2 * x1.toNatClampNeg) 1) (sgT (mI u (62 + 2 * x1.toNatClampNeg) 1) (mI u (63 + 2 * x1.toNatClampNeg))) x1 a1 (sqF u u1) (sqS u u1)) (q2 : Mo (mB ++ mPl ++ mNw ++ mKp ++ mJn ++ mFd) u1 u2 ∧ sqQ (mI u1 81 x1.toNatClampNeg) (TM u1 x1) x1 a2 (Fp mB u1 u2) (smS u2)) : a1 = a2 ∧ RX u2 := by
  have s := sq_RT (h.rt q1.1) (by rw [q1.1.2.1 81 _ (by decide)]; exact hM.b81 _) q1.2 q2.2
  have t1 : RT u1 u1 := (RT.fc h.1 (fp_c q1.1.fp (fun n a b => (show ∀ n, n < 70 → 62 ≤ n → n ∉ qB ++ qN ++ qK ++ qJ ++ qP ++ qZ from by decide) n b a))).fm (fun n k z => q1.1.2.1 n k (by rcases z with rfl | rfl <;> decide))
  have t2 : RT u1 u2 := t1.fm (fp_m q2.1.fp (by decide))
  obtain ⟨hne, ⟨h10, h11⟩, _⟩ := id h.2
  refine ⟨s.1, RX.st q2.1 t2 ?_⟩
  rcases s.2 with ⟨f, f'⟩ | ⟨d, l, y, z⟩
  · have r1 : RN u1 u1 := (h.rn q1.1).fc f.1 (fun k => f.2 hne h10 h11 _ k (Nat.le_refl _) (by omega))
    exact r1.fm ⟨f' _ _ (by decide), f' _ _ (by decide)⟩
  · refine ⟨by rw [y.1, y.2.1]; exact hne.symm, ⟨by rw [y.1]; exact h11, by rw [y.2.1]; exact h10⟩, ?_, ?_⟩
    · rw [y.1, y.2.2.1, z.1]
    · rw [y.1, y.2.2.2.1.1, z.2.1]
theorem X_about {u u1 u2 : pM} {x1 x2 a1 a2 : Int32} (h : RX u) (_ : InvC u) (_ : InvM u) (q1 : Cl qB u u1 ∧ aboV (mI u (mR u 2 10) 1) x1 x2 = a1) (q2 : Mo mB u1 u2 ∧ aboV (mI u1 76 11) x1 x2 = a2) : a1 = a2 ∧ RX u2 := by
  refine ⟨?_, (h.cl q1.1 (by decide)).mo q2.1 (by decide)⟩
  rw [← q1.2, ← q2.2, (h.rn q1.1).2.2.2]
theorem X_doors {u u1 u2 : pM} {x1 a1 a2 : Int32} (h : RX u) (_ : InvC u) (_ : InvM u) (q1 : Cl (qB ++ qR) u u1 ∧ dooV (mI u (mR u 2 10) 1) x1 = a1) (q2 : Mo (mB ++ mRw) u1 u2 ∧ dooV (mI u1 76 11) x1 = a2) : a1 = a2 ∧ RX u2 := by
  refine ⟨?_, (h.cl q1.1 (by decide)).mo q2.1 (by decide)⟩
  rw [← q1.2, ← q2.2, (h.rn q1.1).2.2.2]
