/-! ===== what is alike on both sides: texts, the square's numbers, the rows' sizes ===== -/
def RX (u : pM) : Prop := RT u u ∧ RN u u ∧ RS u u
theorem kS.fp {L : List Nat} {u u' : pM} (h : Fp L u u') (hL : ∀ n, n < 62 → 50 ≤ n → n ∉ L) : kS u u' := fun r hr => h _ _ (by rw [cd_n ⟨by omega, by omega, by omega⟩]; exact hL _ (by omega) (by omega))
theorem RX.rt {L : List Nat} {u u1 : pM} (h : RX u) (q1 : Cl L u u1) : RT u u1 := RT.fm h.1 (fun n k z => q1.2.1 n k (by rcases z with rfl | rfl <;> decide))
theorem RX.rn {L : List Nat} {u u1 : pM} (h : RX u) (q1 : Cl L u u1) : RN u u1 := h.2.1.fm ⟨q1.2.1 _ _ (by decide), q1.2.1 _ _ (by decide)⟩
theorem RX.rs {L : List Nat} {u u1 : pM} (h : RX u) (q1 : Cl L u u1) : RS u u1 := h.2.2.fm (fun r _ => q1.2.1 _ _ (by decide))
/-- behind both calls, by what they did -/
theorem RX.st {L' : List Nat} {u1 u2 : pM} (q2 : Mo L' u1 u2) (f : RT u1 u2) (g : RN u1 u2) (s : RS u1 u2) : RX u2 := ⟨f.fc (fun n k z => q2.2.1 n k (by have := z.2; omega)), g.cc q2.2.2.2 q2.2.1, s.fc (fun r hr => q2.2.1 _ _ (by omega))⟩
theorem RX.cl {L : List Nat} {u u1 : pM} (h : RX u) (q : Cl L u u1) (hL : ∀ n, n < 70 → (50 ≤ n ∨ n = 22 ∨ n = 36 ∨ n = 0) → n ∉ L) : RX u1 := ⟨(RT.fc h.1 (fp_c q.fp (fun n a b => hL n b (.inl (by omega))))).fm (fun n k z => q.2.1 n k (by rcases z with rfl | rfl <;> decide)), (h.2.1.cl q (hL 0 (by decide) (by decide)) (by rcases h.2.1.2.1.1 with z | z <;> rw [z] <;> exact hL _ (by decide) (by decide))).fm ⟨q.2.1 _ _ (by decide), q.2.1 _ _ (by decide)⟩, (h.2.2.fc (kS.fp q.fp (fun n a b => hL n (by omega) (.inl b)))).fm (fun r _ => q.2.1 _ _ (by decide))⟩
theorem RX.mo {L : List Nat} {u u1 : pM} (h : RX u) (q : Mo L u u1) (hL : (81 ∉ L ∧ 82 ∉ L) ∧ (210 ∉ L ∧ 211 ∉ L) ∧ 78 ∉ L) : RX u1 := RX.st q (RT.fm h.1 (fp_m q.fp hL.1)) (h.2.1.mo q hL.2.1) (h.2.2.fm (kM.fp q.fp hL.2.2))
/-- a call of both that leaves texts and the square, and did so to the sizes -/
theorem RX.mid {L L' : List Nat} {u u1 u2 : pM} (h : RX u) (q1 : Cl L u u1) (q2 : Mo L' u1 u2) (s : RS u1 u2) (hL : ∀ n, n < 70 → (62 ≤ n ∨ n = 22 ∨ n = 36 ∨ n = 0) → n ∉ L := by decide) (hL' : (81 ∉ L' ∧ 82 ∉ L') ∧ 210 ∉ L' ∧ 211 ∉ L' := by decide) : RX u2 := RX.st q2 ((RT.fc (h.rt q1) (fp_c q1.fp (fun n a b => hL n b (.inl a)))).fm (fp_m q2.fp hL'.1)) (((h.rn q1).cl q1 (hL 0 (by decide) (by decide)) (by rcases h.2.1.2.1.1 with z | z <;> rw [z] <;> exact hL _ (by decide) (by decide))).mo q2 hL'.2) s
theorem RX.fault {u u1 : pM} (h : RX u) (q : Cl (qB ++ qPl (mR u 2 11)) u u1) : RX u1 := by
  obtain ⟨hne, ⟨h10, h11⟩, _⟩ := id h.2.1
  have far : ∀ n, n < 70 → 50 ≤ n → n ∉ qB ++ qPl (mR u 2 11) := fun n b a => by
    rcases h11 with z | z
    · rw [z]; exact (show ∀ n, n < 70 → 50 ≤ n → n ∉ qB ++ qPl 22 from by decide) n b a
    · rw [z]; exact (show ∀ n, n < 70 → 50 ≤ n → n ∉ qB ++ qPl 36 from by decide) n b a
  refine ⟨(RT.fc h.1 (fp_c q.fp (fun n a b => far n b (by omega)))).fm (fun n k z => q.2.1 n k (by rcases z with rfl | rfl <;> decide)), (h.2.1.cl q ?_ ?_).fm ⟨q.2.1 _ _ (by decide), q.2.1 _ _ (by decide)⟩, (h.2.2.fc (kS.fp q.fp (fun n a b => far n (by omega) b))).fm (fun r _ => q.2.1 _ _ (by decide))⟩
  · rcases h11 with z | z <;> rw [z] <;> decide
  · rcases h10 with y | y <;> rcases h11 with z | z
    · exact absurd (y.trans z.symm) hne
    · rw [y, z]; decide
    · rw [y, z]; decide
    · exact absurd (y.trans z.symm) hne
theorem X_text {u u1 u2 : pM} {x1 x2 a1 a2 : Int32} (h : RX u) (_ : InvC u) (_ : InvM u) (q1 : Cl (qB ++ qT) u u1 ∧ textV x1 x2 = a1 ∧ textC u x1 x2 u1) (q2 : Mo (mB ++ mTx) u1 u2 ∧ textV x1 x2 = a2 ∧ textM u1 x1 x2 u2) : a1 = a2 ∧ RX u2 := by
  refine ⟨q1.2.1.symm.trans q2.2.1, RX.st q2.1 (text_eq (h.rt q1.1) q1.2.2 q2.2.2) ((((h.rn q1.1).cl q1.1 (by decide) ?_)).mo q2.1 (by decide)) (((h.rs q1.1).fc (kS.fp q1.1.fp (by decide))).fm (kM.fp q2.1.fp (by decide)))⟩
  rcases h.2.1.2.1.1 with z | z <;> rw [z] <;> decide
theorem X_put {u u1 u2 : pM} {x1 x2 x3 a1 a2 : Int32} (h : RX u) (hC : InvC u) (_ : InvM u) (q1 : Cl (qB ++ qT) u u1 ∧ putC u x1 x2 x3 a1 u1) (q2 : Mo (mB ++ mTx) u1 u2 ∧ putM u1 x1 x2 x3 a2 u2) : a1 = a2 ∧ RX u2 := by
  have p := put_eq hC (h.rt q1.1) q1.2 q2.2
  refine ⟨p.1, RX.st q2.1 p.2 (((h.rn q1.1).cl q1.1 (by decide) ?_).mo q2.1 (by decide)) (((h.rs q1.1).fc (kS.fp q1.1.fp (by decide))).fm (kM.fp q2.1.fp (by decide)))⟩
  rcases h.2.1.2.1.1 with z | z <;> rw [z] <;> decide
theorem RT_T {u v : pM} {x1 : Int32} (h : RT u v) (a : 0 ≤ x1 ∧ x1 < 4) (hn : 0 ≤ mI v 81 x1.toNatClampNeg) (h100 : mI v 81 x1.toNatClampNeg ≤ 100) : mI u (62 + 2 * x1.toNatClampNeg) 1 = mI v 81 x1.toNatClampNeg ∧ sgT (mI u (62 + 2 * x1.toNatClampNeg) 1) (mI u (63 + 2 * x1.toNatClampNeg)) = TM v x1 := by
  have l := (tO a).2
  rcases h _ l with ⟨_, z⟩ | ⟨_, e, c⟩
  · exact absurd hn (Int32.not_le.mpr z)
  · refine ⟨e, ?_⟩
    funext x
    unfold TM sgT
    rw [e]
    by_cases q : 0 ≤ x ∧ x < mI v 81 x1.toNatClampNeg
    · rw [if_pos q, if_pos q]
      refine c _ ?_
      have z := Int32.lt_iff_toInt_lt.mp (Int32.lt_of_lt_of_le q.2 h100)
      have e : x.toNatClampNeg = x.toInt.toNat := rfl
      have d : (100 : Int32).toInt = 100 := by decide
      omega
    · rw [if_neg q, if_neg q]
theorem sq_RT {u v : pM} {x1 a b : Int32} {F F' : Prop} {S S' : Int32 → List Sh5 → Prop} (h : RT u v) (h100 : mI v 81 x1.toNatClampNeg ≤ 100) (p : sqQ (mI u (62 + 2 * x1.toNatClampNeg) 1) (sgT (mI u (62 + 2 * x1.toNatClampNeg) 1) (mI u (63 + 2 * x1.toNatClampNeg))) x1 a F S) (q : sqQ (mI v 81 x1.toNatClampNeg) (TM v x1) x1 b F' S') : a = b ∧ ((F ∧ F') ∨ ∃ d l, S d l ∧ S' d l) := by
  by_cases c : 0 ≤ x1 ∧ x1 < 4
  · by_cases hn : 0 ≤ mI v 81 x1.toNatClampNeg
    · have e := RT_T h c hn h100
      rw [e.2, e.1] at p
      exact sq_eq p q
    · have hu : ¬ 0 ≤ mI u (62 + 2 * x1.toNatClampNeg) 1 := by
        rcases h _ (tO c).2 with ⟨z, _⟩ | ⟨z, e, _⟩
        · exact Int32.not_le.mpr z
        · rw [e] at z; exact absurd z hn
      rcases p with ⟨z, _⟩ | ⟨_, p⟩
      · exact absurd c z
      · rcases q with ⟨z, _⟩ | ⟨_, q⟩
        · exact absurd c z
        · rcases p with ⟨_, e, y⟩ | ⟨z, _⟩
          · rcases q with ⟨_, f, z⟩ | ⟨z, _⟩
            · exact ⟨by rw [e, f], .inl ⟨y, z⟩⟩
            · exact absurd z hn
          · exact absurd z hu
  · rcases p with ⟨_, e, y⟩ | ⟨z, _⟩
    · rcases q with ⟨_, f, z⟩ | ⟨z, _⟩
      · exact ⟨by rw [e, f], .inl ⟨y, z⟩⟩
      · exact absurd z c
    · exact absurd z c
theorem X_square {u u1 u2 : pM} {x1 a1 a2 : Int32} (h : RX u) (_ : InvC u) (hM : InvM u) (q1 : Cl (qB ++ qN ++ qK ++ qJ ++ qP ++ qZ) u u1 ∧ sqQ (mI u (62 + 2 * x1.toNatClampNeg) 1) (sgT (mI u (62 + 2 * x1.toNatClampNeg) 1) (mI u (63 + 2 * x1.toNatClampNeg))) x1 a1 (sqF u u1) (sqS u u1)) (q2 : Mo (mB ++ mPl ++ mNw ++ mKp ++ mJn ++ mFd) u1 u2 ∧ sqQ (mI u1 81 x1.toNatClampNeg) (TM u1 x1) x1 a2 (Fp mB u1 u2) (smS u2)) : a1 = a2 ∧ RX u2 := by
  have s := sq_RT (h.rt q1.1) (by rw [q1.1.2.1 81 _ (by decide)]; exact hM.b81 _) q1.2 q2.2
  have t1 : RT u1 u1 := (RT.fc h.1 (fp_c q1.1.fp (fun n a b => (show ∀ n, n < 70 → 62 ≤ n → n ∉ qB ++ qN ++ qK ++ qJ ++ qP ++ qZ from by decide) n b a))).fm (fun n k z => q1.1.2.1 n k (by rcases z with rfl | rfl <;> decide))
  have t2 : RT u1 u2 := t1.fm (fp_m q2.1.fp (by decide))
  obtain ⟨hne, ⟨h10, h11⟩, _⟩ := id h.2.1
  have r2 : RS u1 u2 := ((h.rs q1.1).fc (kS.fp q1.1.fp (by decide))).fm (kM.fp q2.1.fp (by decide))
  refine ⟨s.1, RX.st q2.1 t2 ?_ r2⟩
  rcases s.2 with ⟨f, f'⟩ | ⟨d, l, y, z⟩
  · have r1 : RN u1 u1 := (h.rn q1.1).fc f.1 (fun k => f.2 hne h10 h11 _ k (Nat.le_refl _) (by omega))
    exact r1.fm ⟨f' _ _ (by decide), f' _ _ (by decide)⟩
  · refine ⟨by rw [y.1, y.2.1]; exact hne.symm, ⟨by rw [y.1]; exact h11, by rw [y.2.1]; exact h10⟩, ?_, ?_⟩
    · rw [y.1, y.2.2.1, z.1]
    · rw [y.1, y.2.2.2.1.1, z.2.1]
theorem X_about {u u1 u2 : pM} {x1 x2 a1 a2 : Int32} (h : RX u) (_ : InvC u) (_ : InvM u) (q1 : Cl qB u u1 ∧ aboV (mI u (mR u 2 10) 1) x1 x2 = a1) (q2 : Mo mB u1 u2 ∧ aboV (mI u1 76 11) x1 x2 = a2) : a1 = a2 ∧ RX u2 := by
  refine ⟨?_, (h.cl q1.1 (by decide)).mo q2.1 (by decide)⟩
  rw [← q1.2, ← q2.2, (h.rn q1.1).2.2.2]
theorem X_walk {u u1 u2 : pM} {x1 x2 a1 a2 : Int32} (h : RX u) (_ : InvC u) (_ : InvM u) (q1 : Cl qB u u1 ∧ walV (mI u (mR u 2 10) 0) x1 x2 = a1) (q2 : Mo mB u1 u2 ∧ walV (mI u1 76 10) x1 x2 = a2) : a1 = a2 ∧ RX u2 := by
  refine ⟨?_, (h.cl q1.1 (by decide)).mo q2.1 (by decide)⟩
  rw [← q1.2, ← q2.2, (h.rn q1.1).2.2.1]
/-- a size of both, as far as calls ask for it -/
theorem RS.lay {u v : pM} (h : RS u v) (x1 x2 : Int32) : layV (mI u (50 + 2 * x1.toNatClampNeg) 1) x1 x2 = layV (mI v 78 x1.toNatClampNeg) x1 x2 := by
  unfold layV
  by_cases a : 0 ≤ x1 ∧ x1 < 6
  · rw [if_pos a, if_pos a]
    rcases h _ (rO a).2 with ⟨p, q⟩ | ⟨p, q⟩
    · rw [if_neg (fun z => by have := z.1; have := z.2; grind), if_neg (fun z => by have := z.1; have := z.2; grind)]
    · rw [q]
  · rw [if_neg a, if_neg a]
theorem RS.ge {u v : pM} (h : RS u v) {r : Nat} (hr : r < 6) : 0 ≤ mI u (50 + 2 * r) 1 ↔ 0 ≤ mI v 78 r := by
  rcases h r hr with ⟨p, q⟩ | ⟨p, q⟩
  · exact ⟨fun z => absurd p (Int32.not_lt.mpr z), fun z => absurd q (Int32.not_lt.mpr z)⟩
  · rw [q]
theorem RS.tear {u v : pM} (h : RS u v) (x1 : Int32) : tearV (mI u (50 + 2 * x1.toNatClampNeg) 1) x1 = tearV (mI v 78 x1.toNatClampNeg) x1 := by
  unfold tearV
  by_cases a : 0 ≤ x1 ∧ x1 < 6
  · rw [if_pos a, if_pos a]
    rcases h _ (rO a).2 with ⟨p, q⟩ | ⟨p, q⟩
    · rw [if_neg (Int32.not_le.mpr p), if_neg (Int32.not_le.mpr q)]
    · rw [q]
  · rw [if_neg a, if_neg a]
theorem RS.mean {u v : pM} (h : RS u v) (x1 : Int32) : meanV (mI u (50 + 2 * x1.toNatClampNeg) 1) x1 = meanV (mI v 78 x1.toNatClampNeg) x1 := by
  unfold meanV
  by_cases a : 0 ≤ x1 ∧ x1 < 6
  · rw [if_pos a, if_pos a]
    rcases h _ (rO a).2 with ⟨p, q⟩ | ⟨p, q⟩
    · rw [if_neg (Int32.not_lt.mpr (Int32.le_of_lt p)), if_neg (Int32.not_lt.mpr (Int32.le_of_lt q))]
    · rw [q]
  · rw [if_neg a, if_neg a]
theorem RS.cop {u v : pM} (h : RS u v) (x1 x2 x3 x4 x5 : Int32) : copV (mI u (50 + 2 * x1.toNatClampNeg) 1) (mI u (50 + 2 * x3.toNatClampNeg) 1) x1 x2 x3 x4 x5 = copV (mI v 78 x1.toNatClampNeg) (mI v 78 x3.toNatClampNeg) x1 x2 x3 x4 x5 := by
  unfold copV
  by_cases a : (0 ≤ x1 ∧ x1 < 6) ∧ 0 ≤ x3 ∧ x3 < 6
  · rw [if_pos a, if_pos a]
    rcases h _ (rO a.1).2 with ⟨p, q⟩ | ⟨p, q⟩
    · rw [if_neg (fun z => absurd p (Int32.not_lt.mpr z.2.1)), if_neg (fun z => absurd q (Int32.not_lt.mpr z.2.1))]
    · rcases h _ (rO a.2).2 with ⟨p', q'⟩ | ⟨p', q'⟩
      · rw [if_neg (fun z => absurd p' (Int32.not_lt.mpr z.2.2.1)), if_neg (fun z => absurd q' (Int32.not_lt.mpr z.2.2.1))]
      · rw [q, q']
  · rw [if_neg a, if_neg a]
theorem rnV_id {y : Int32} (h : y ≤ 40) : rnV y = y := by
  unfold rnV
  rw [if_neg (Int32.not_lt.mpr h)]
theorem X_row {u u1 u2 : pM} {x1 x2 a1 a2 : Int32} (h : RX u) (_ : InvC u) (_ : InvM u) (q1 : Cl (qB ++ qR) u u1 ∧ rowV x1 x2 = a1 ∧ szP u u1 (rokC x1 x2) x1 (rnV x2)) (q2 : Mo (mB ++ mRw) u1 u2 ∧ rowV x1 x2 = a2 ∧ smP u1 u2 (rokC x1 x2) x1 x2) : a1 = a2 ∧ RX u2 :=
  ⟨q1.2.1.symm.trans q2.2.1, h.mid q1.1 q2.1 ((h.rs q1.1).both q1.2.2 q2.2.2 Iff.rfl (fun c => .inr (by rw [rnV_id c.2.1]; exact ⟨c.2.2, rfl⟩)))⟩
theorem X_lay {u u1 u2 : pM} {x1 x2 a1 a2 : Int32} (h : RX u) (_ : InvC u) (_ : InvM u) (q1 : Cl (qB ++ qR) u u1 ∧ layV (mI u (50 + 2 * x1.toNatClampNeg) 1) x1 x2 = a1 ∧ kS u u1) (q2 : Mo (mB ++ mRw) u1 u2 ∧ layV (mI u1 78 x1.toNatClampNeg) x1 x2 = a2 ∧ kM u1 u2) : a1 = a2 ∧ RX u2 :=
  ⟨by rw [← q1.2.1, ← q2.2.1]; exact (h.rs q1.1).lay x1 x2, h.mid q1.1 q2.1 (((h.rs q1.1).fc q1.2.2).fm q2.2.2)⟩
theorem X_at {u u1 u2 : pM} {x1 x2 a1 a2 : Int32} (h : RX u) (_ : InvC u) (_ : InvM u) (q1 : Cl qB u u1 ∧ layV (mI u (50 + 2 * x1.toNatClampNeg) 1) x1 x2 = a1) (q2 : Mo mB u1 u2 ∧ layV (mI u1 78 x1.toNatClampNeg) x1 x2 = a2) : a1 = a2 ∧ RX u2 :=
  ⟨by rw [← q1.2, ← q2.2]; exact (h.rs q1.1).lay x1 x2, (h.cl q1.1 (by decide)).mo q2.1 (by decide)⟩
theorem X_tear {u u1 u2 : pM} {x1 a1 a2 : Int32} (h : RX u) (_ : InvC u) (_ : InvM u) (q1 : Cl (qB ++ qR) u u1 ∧ tearV (mI u (50 + 2 * x1.toNatClampNeg) 1) x1 = a1 ∧ szP u u1 ((0 ≤ x1 ∧ x1 < 6) ∧ 0 ≤ mI u (50 + 2 * x1.toNatClampNeg) 1) x1 (-1)) (q2 : Mo (mB ++ mRw) u1 u2 ∧ tearV (mI u1 78 x1.toNatClampNeg) x1 = a2 ∧ smP u1 u2 ((0 ≤ x1 ∧ x1 < 6) ∧ 0 ≤ mI u1 78 x1.toNatClampNeg) x1 (-9)) : a1 = a2 ∧ RX u2 :=
  ⟨by rw [← q1.2.1, ← q2.2.1]; exact (h.rs q1.1).tear x1, h.mid q1.1 q2.1 ((h.rs q1.1).both q1.2.2 q2.2.2 ⟨fun z => ⟨z.1, ((h.rs q1.1).ge (rO z.1).2).mp z.2⟩, fun z => ⟨z.1, ((h.rs q1.1).ge (rO z.1).2).mpr z.2⟩⟩ (fun _ => .inl (by decide)))⟩
theorem X_mean {u u1 u2 : pM} {x1 a1 a2 : Int32} (h : RX u) (_ : InvC u) (_ : InvM u) (q1 : Cl qB u u1 ∧ meanV (mI u (50 + 2 * x1.toNatClampNeg) 1) x1 = a1) (q2 : Mo mB u1 u2 ∧ meanV (mI u1 78 x1.toNatClampNeg) x1 = a2) : a1 = a2 ∧ RX u2 :=
  ⟨by rw [← q1.2, ← q2.2]; exact (h.rs q1.1).mean x1, (h.cl q1.1 (by decide)).mo q2.1 (by decide)⟩
theorem X_copy {u u1 u2 : pM} {x1 x2 x3 x4 x5 a1 a2 : Int32} (h : RX u) (_ : InvC u) (_ : InvM u) (q1 : Cl (qB ++ qR) u u1 ∧ copV (mI u (50 + 2 * x1.toNatClampNeg) 1) (mI u (50 + 2 * x3.toNatClampNeg) 1) x1 x2 x3 x4 x5 = a1 ∧ kS u u1) (q2 : Mo (mB ++ mRw) u1 u2 ∧ copV (mI u1 78 x1.toNatClampNeg) (mI u1 78 x3.toNatClampNeg) x1 x2 x3 x4 x5 = a2 ∧ kM u1 u2) : a1 = a2 ∧ RX u2 :=
  ⟨by rw [← q1.2.1, ← q2.2.1]; exact (h.rs q1.1).cop x1 x2 x3 x4 x5, h.mid q1.1 q2.1 (((h.rs q1.1).fc q1.2.2).fm q2.2.2)⟩
theorem InvM.m1 {L : List Nat} {u u1 : pM} (hM : InvM u) (q : Cl L u u1) : (0 ≤ mI u1 76 11 ∧ mI u1 76 11 ≤ 7) ∧ 0 ≤ mI u1 76 10 ∧ mI u1 76 10 ≤ 30 := by
  rw [q.2.1 76 11 (by decide), q.2.1 76 10 (by decide)]
  exact ⟨hM.m7, hM.n30⟩
theorem X_doors {u u1 u2 : pM} {x1 a1 a2 : Int32} (h : RX u) (_ : InvC u) (hM : InvM u) (q1 : Cl (qB ++ qR) u u1 ∧ dooV (mI u (mR u 2 10) 1) x1 = a1 ∧ szP u u1 (0 ≤ x1 ∧ x1 < 6) x1 (rnV (mI u (mR u 2 10) 1))) (q2 : Mo (mB ++ mRw) u1 u2 ∧ dooV (mI u1 76 11) x1 = a2 ∧ smP u1 u2 (0 ≤ x1 ∧ x1 < 6) x1 (mI u1 76 11)) : a1 = a2 ∧ RX u2 := by
  have e := (h.rn q1.1).2.2.2
  have m7 := (hM.m1 q1.1).1
  refine ⟨by rw [← q1.2.1, ← q2.2.1, e], h.mid q1.1 q2.1 ((h.rs q1.1).both q1.2.2 q2.2.2 Iff.rfl (fun _ => .inr ?_))⟩
  rw [e, rnV_id (Int32.le_trans m7.2 (by decide))]
  exact ⟨m7.1, rfl⟩
theorem X_image {u u1 u2 : pM} {x1 a1 a2 : Int32} (h : RX u) (_ : InvC u) (hM : InvM u) (q1 : Cl (qB ++ qR) u u1 ∧ imaV (mI u (mR u 2 10) 0) (mI u (mR u 2 10) 1) x1 = a1 ∧ szP u u1 ((0 ≤ x1 ∧ x1 < 6) ∧ 0 < mI u (mR u 2 10) 0) x1 (rnV (mI u (mR u 2 10) 1 + 2))) (q2 : Mo (mB ++ mRw) u1 u2 ∧ imaV (mI u1 76 10) (mI u1 76 11) x1 = a2 ∧ smP u1 u2 ((0 ≤ x1 ∧ x1 < 6) ∧ 0 < mI u1 76 10) x1 (mI u1 76 11 + 2)) : a1 = a2 ∧ RX u2 := by
  have e := (h.rn q1.1).2.2
  have m7 := (hM.m1 q1.1).1
  have m40 : mI u1 76 11 + 2 ≤ 40 ∧ 0 ≤ mI u1 76 11 + 2 := by grind
  refine ⟨by rw [← q1.2.1, ← q2.2.1, e.1, e.2], h.mid q1.1 q2.1 ((h.rs q1.1).both q1.2.2 q2.2.2 (by rw [e.1]) (fun _ => .inr ?_))⟩
  rw [e.2, rnV_id m40.1]
  exact ⟨m40.2, rfl⟩
theorem X_errands {u u1 u2 : pM} {x1 x2 x3 x4 : Int32} (h : RX u) (_ : InvC u) (hM : InvM u) (q1 : Cl (qB ++ qR) u u1 ∧ szP u u1 (erC (mI u (mR u 2 10) 0) (mI u (mR u 2 10) 1) x1 x2 x3 x4) x4 (rnV (bcV x2))) (q2 : Mo (mB ++ mRw) u1 u2 ∧ smP u1 u2 (ermC (mI u1 76 10) (mI u1 76 11) x1 x2 x3 x4) x4 (Int32.ofNat (cnt x2 (mI u1 76 11).toNatClampNeg))) : True ∧ RX u2 := by
  have e := (h.rn q1.1).2.2
  have m := hM.m1 q1.1
  have ee : erC (mI u (mR u 2 10) 0) (mI u (mR u 2 10) 1) x1 x2 x3 x4 ↔ ermC (mI u1 76 10) (mI u1 76 11) x1 x2 x3 x4 := by
    rw [e.1, e.2]
    exact er_eq m.1 m.2
  exact ⟨trivial, h.mid q1.1 q2.1 ((h.rs q1.1).both q1.2 q2.2 ee (fun c => .inr (bc_set m.1 (ee.mp c).2.1)))⟩
