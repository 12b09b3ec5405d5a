/-! ===== every call keeps what is alike ===== -/
section KEEP
variable {G : pG} {u u1 u2 : pM}
theorem RX0.fault (h : RX0 u) (hM : InvM u) (q : Cl (qB ++ qPl (mR u 2 11)) u u1) : RX0 u1 := by
  obtain ⟨hne, ⟨h10, h11⟩, _⟩ := id h.2.1
  have hM1 : InvM u1 := hM.clx q
  have q2 : Mo ([] : List Nat) u1 u1 := Mo.rf hM1
  have far : ∀ n, n < 76 → (n = 0 ∨ n = 7 ∨ n = 8 ∨ (14 ≤ n ∧ n ≤ 17) ∨ 50 ≤ n) → n ∉ qB ++ qPl (mR u 2 11) := by
    rcases h11 with z | z <;> rw [z] <;> decide
  have pln : ∀ n, mR u 2 10 ≤ n → n < mR u 2 10 + 14 → n ∉ qB ++ qPl (mR u 2 11) := fun n a b => by
    rcases h10 with y | y <;> rcases h11 with z | z
    · exact absurd (y.trans z.symm) hne
    · rw [y] at a b; rw [z]; exact (show ∀ n, n < 36 → 22 ≤ n → n ∉ qB ++ qPl 36 from by decide) n b a
    · rw [y] at a b; rw [z]; exact (show ∀ n, n < 50 → 36 ≤ n → n ∉ qB ++ qPl 22 from by decide) n b a
    · exact absurd (y.trans z.symm) hne
  have e : nN u1 = nN u := by unfold nN; rw [q.2.1 _ _ (by decide)]
  exact RX0.st q2 hM1 (tRT h q q2 (fun n a b => far n (by omega) (by omega))) (((h.rn q).cl q (far 0 (by decide) (by decide)) (pln _ (Nat.le_refl _) (by omega))).mo q2 (by simp)) (tRW h q q2 (fun n a b => far n (by omega) (by omega))) ((h.sq q hM).fc h10 (q.2.2.2 (far 0 (by decide) (by decide))) (fun n k a b => fpN q.fp (pln n a b) (by rcases h10 with z | z <;> omega) (by rcases h10 with z | z <;> omega)) (by rw [e]; exact m7N hM)) (tNW h q q2 ⟨far 7 (by decide) (by decide), far 8 (by decide) (by decide)⟩) (tKP h q q2 (fun n a b => far n (by omega) (by omega))) (tDI h q q2 (fun n a b => far n (by omega) (by omega)))
theorem RT_T {u v : pM} {x1 : Int32} (h : RT u v) (a : 0 ≤ x1 ∧ x1 < 4) (hn : 0 ≤ mI v 81 x1.toNatClampNeg) (h100 : mI v 81 x1.toNatClampNeg ≤ 100) : mI u (62 + 2 * x1.toNatClampNeg) 1 = mI v 81 x1.toNatClampNeg ∧ sgT (mI u (62 + 2 * x1.toNatClampNeg) 1) (mI u (63 + 2 * x1.toNatClampNeg)) = TM v x1 := by
  have l := (tO a).2
  rcases h _ l with ⟨_, z⟩ | ⟨_, e, c⟩
  · exact absurd hn (Int32.not_le.mpr z)
  · refine ⟨e, ?_⟩
    funext x
    unfold TM sgT
    rw [e]
    by_cases q : 0 ≤ x ∧ x < mI v 81 x1.toNatClampNeg
    · rw [if_pos q, if_pos q]
      refine c _ ?_
      have z := Int32.lt_iff_toInt_lt.mp (Int32.lt_of_lt_of_le q.2 h100)
      have e : x.toNatClampNeg = x.toInt.toNat := rfl
      have d : (100 : Int32).toInt = 100 := by decide
      omega
    · rw [if_neg q, if_neg q]
theorem sq_RT {u v : pM} {x1 a b : Int32} {F F' : Prop} {S S' : Int32 → List Sh5 → Prop} (h : RT u v) (h100 : mI v 81 x1.toNatClampNeg ≤ 100) (p : sqQ (mI u (62 + 2 * x1.toNatClampNeg) 1) (sgT (mI u (62 + 2 * x1.toNatClampNeg) 1) (mI u (63 + 2 * x1.toNatClampNeg))) x1 a F S) (q : sqQ (mI v 81 x1.toNatClampNeg) (TM v x1) x1 b F' S') : a = b ∧ ((F ∧ F') ∨ ∃ d l, S d l ∧ S' d l) := by
  by_cases c : 0 ≤ x1 ∧ x1 < 4
  · by_cases hn : 0 ≤ mI v 81 x1.toNatClampNeg
    · have e := RT_T h c hn h100
      rw [e.2, e.1] at p
      exact sq_eq p q
    · have hu : ¬ 0 ≤ mI u (62 + 2 * x1.toNatClampNeg) 1 := by
        rcases h _ (tO c).2 with ⟨z, _⟩ | ⟨z, e, _⟩
        · exact Int32.not_le.mpr z
        · rw [e] at z; exact absurd z hn
      rcases p with ⟨z, _⟩ | ⟨_, p⟩
      · exact absurd c z
      · rcases q with ⟨z, _⟩ | ⟨_, q⟩
        · exact absurd c z
        · rcases p with ⟨_, e, y⟩ | ⟨z, _⟩
          · rcases q with ⟨_, f, z⟩ | ⟨z, _⟩
            · exact ⟨by rw [e, f], .inl ⟨y, z⟩⟩
            · exact absurd z hn
          · exact absurd z hu
  · rcases p with ⟨_, e, y⟩ | ⟨z, _⟩
    · rcases q with ⟨_, f, z⟩ | ⟨z, _⟩
      · exact ⟨by rw [e, f], .inl ⟨y, z⟩⟩
      · exact absurd z c
    · exact absurd z c
theorem X0_square {x1 a1 a2 : Int32} (h : RX0 u) (_ : InvC u) (hM : InvM u) (q1 : Cl (qB ++ qN ++ qK ++ qJ ++ qP ++ qZ) u u1 ∧ sqQ (mI u (62 + 2 * x1.toNatClampNeg) 1) (sgT (mI u (62 + 2 * x1.toNatClampNeg) 1) (mI u (63 + 2 * x1.toNatClampNeg))) x1 a1 (sqF u u1) (sqS u u1)) (q2 : Mo (mB ++ mPl ++ mNw ++ mKp ++ mJn ++ mFd) u1 u2 ∧ sqQ (mI u1 81 x1.toNatClampNeg) (TM u1 x1) x1 a2 (Fp mB u1 u2) (smS u2)) : a1 = a2 ∧ RX0 u2 := by
  have s := sq_RT (h.rt q1.1) (by rw [q1.1.2.1 81 _ (by decide)]; exact hM.b81 _) q1.2 q2.2
  obtain ⟨hne, ⟨h10, h11⟩, _⟩ := id h.2.1
  refine ⟨s.1, ?_⟩
  have t2 : RT u1 u2 := tRT h q1.1 q2.1
  have w2 : RW u1 u2 := tRW h q1.1 q2.1
  rcases s.2 with ⟨f, f'⟩ | ⟨d, l, y, z⟩
  · -- it is refused
    have r1 : RN u1 u1 := (h.rn q1.1).fc f.1 (fun k => f.2.1 hne h10 h11 _ k (Nat.le_refl _) (by omega))
    have hM1 := hM.clx q1.1
    have mo : Mo mB u1 u2 := ⟨q2.1.1, q2.1.2.1, f', q2.1.2.2.2⟩
    have e : nN u1 = nN u := by unfold nN; rw [q1.1.2.1 _ _ (by decide)]
    exact RX0.st q2.1 q2.1.1 t2 (r1.fm ⟨f'.1 _ _ (by decide), f'.1 _ _ (by decide)⟩) w2 (((h.sq q1.1 hM).fc h10 f.1 (fun n k a b => f.2.1 hne h10 h11 n k a b) (by rw [e]; exact m7N hM)).fm (fpF f' (by decide) (by decide)) (fpF f' (by decide) (by decide)) (fun k hk => fp83 f' hk (by decide)) (by rw [e]; exact m7N hM)) (((h.nw q1.1).fc (fun n k c => f.2.2 n k (by omega) (by omega))).fm (fun k c => by rcases c with c | c | c | c <;> rw [c] <;> exact fpF f' (by decide) (by decide)) (fun k => fpM f' (by decide) (by decide))) (((h.kp q1.1).fc (fun n k a b => f.2.2 n k (by omega) b)).fm (fpF f' (by decide) (by decide)) (fpF f' (by decide) (by decide)) (fun k => fpM f' (by decide) (by decide))) (((h.di q1.1).fc (fun n k a b => f.2.2 n k (by omega) (by omega))).fm (fpF f' (by decide) (by decide)) (fun k => fpM f' (by decide) (by decide)))
  · -- a square is read
    obtain ⟨y1, y2, y3, y4, y5, y6, yE⟩ := y
    obtain ⟨z1, z2, z3, z4, zE⟩ := z
    have em : nN u2 = l.length := by unfold nN; rw [z2, on7 z3]
    have sh : ∀ s, s < l.length → shF u1 (mR u 2 11) s = shM u2 s := fun s hs => by
      have a := y4.2.2 s hs
      have b := z4 s hs
      rw [a] at b
      exact Option.some.inj b
    have sd : ∀ s, s < l.length → shD d (shM u2 s) := fun s hs => zE.2.2.2.2.2.1 _ (List.mem_of_getElem? (z4 s hs))
    refine RX0.st q2.1 q2.1.1 t2 ⟨by rw [y1, y2]; exact hne.symm, ⟨by rw [y1]; exact h11, by rw [y2]; exact h10⟩, by rw [y1, y3, z1], by rw [y1, y4.1, z2]⟩ w2 ?_ ?_ ?_ ?_
    · unfold SQ
      rw [em, y1, z1]
      exact ⟨sh, sd, yE.2.2.2.2.2.sh (fun s hs => (sh s hs).symm)⟩
    · unfold NoW stK
      rw [em, z1]
      refine ⟨by rw [yE.2.1, zE.2.1], by rw [yE.2.2.1, zE.2.2.1], fun s hs => by rw [yE.2.2.2.1 s hs, zE.2.2.2.1 s hs, sh s hs], by rw [zE.2.1]; decide, fun i _ _ => by rw [zE.2.2.1]; exact tb_0 i, fun i hi => ?_⟩
      rw [zE.2.2.2.1 i hi]
      have q := sd i hi
      exact ⟨q.2.1, by have := q.2.2; have := y5; grind⟩
    · intro k hk
      exact .inl ⟨yE.2.2.2.2.1 k hk, zE.2.2.2.2.1 k hk⟩
    · unfold DI
      rw [yE.1, zE.1]
      exact ⟨rfl, fun e he => absurd he (by have z0 : (0 : Int32).toNatClampNeg = 0 := (by decide); omega)⟩
theorem X0_text {x1 x2 a1 a2 : Int32} (h : RX0 u) (_ : InvC u) (hM : InvM u) (q1 : Cl (qB ++ qT) u u1 ∧ textV x1 x2 = a1 ∧ textC u x1 x2 u1) (q2 : Mo (mB ++ mTx) u1 u2 ∧ textV x1 x2 = a2 ∧ textM u1 x1 x2 u2) : a1 = a2 ∧ RX0 u2 := ⟨q1.2.1.symm.trans q2.2.1, RX0.st q2.1 q2.1.1 (text_eq (h.rt q1.1) q1.2.2 q2.2.2) (tRN h q1.1 q2.1) (tRW h q1.1 q2.1) (tSQ h q1.1 q2.1 hM) (tNW h q1.1 q2.1) (tKP h q1.1 q2.1) (tDI h q1.1 q2.1)⟩
theorem X0_put {x1 x2 x3 a1 a2 : Int32} (h : RX0 u) (hC : InvC u) (hM : InvM u) (q1 : Cl (qB ++ qT) u u1 ∧ putC u x1 x2 x3 a1 u1) (q2 : Mo (mB ++ mTx) u1 u2 ∧ putM u1 x1 x2 x3 a2 u2) : a1 = a2 ∧ RX0 u2 := by
  have p := put_eq hC (h.rt q1.1) q1.2 q2.2
  exact ⟨p.1, RX0.st q2.1 q2.1.1 p.2 (tRN h q1.1 q2.1) (tRW h q1.1 q2.1) (tSQ h q1.1 q2.1 hM) (tNW h q1.1 q2.1) (tKP h q1.1 q2.1) (tDI h q1.1 q2.1)⟩
/-- a call that sets rows alone -/
theorem RX0.rows (h : RX0 u) (hM : InvM u) (q1 : Cl (qB ++ qR) u u1) (q2 : Mo (mB ++ mRw) u1 u2) (w : RW u1 u2) : RX0 u2 := RX0.st q2 q2.1 (tRT h q1 q2) (tRN h q1 q2) w (tSQ h q1 q2 hM) (tNW h q1 q2) (tKP h q1 q2) (tDI h q1 q2)
theorem rnV_id {y : Int32} (h : y ≤ 40) : rnV y = y := by
  unfold rnV
  rw [if_neg (Int32.not_lt.mpr h)]
theorem X0_row {x1 x2 a1 a2 : Int32} (h : RX0 u) (_ : InvC u) (hM : InvM u) (q1 : Cl (qB ++ qR) u u1 ∧ rowV x1 x2 = a1 ∧ rwP u u1 (rokC x1 x2) x1.toNatClampNeg (rnV x2) (fun _ => 0)) (q2 : Mo (mB ++ mRw) u1 u2 ∧ rowV x1 x2 = a2 ∧ rmP u1 u2 (rokC x1 x2) x1.toNatClampNeg x2 (fun _ => 0)) : a1 = a2 ∧ RX0 u2 :=
  ⟨q1.2.1.symm.trans q2.2.1, h.rows hM q1.1 q2.1 ((h.rw' q1.1).P q1.2.2 q2.2.2 Iff.rfl (fun c => .inr (by rw [rnV_id c.2.1]; exact ⟨c.2.2, rfl⟩)) (fun _ _ _ => rfl))⟩
theorem RS.lay {u v : pM} (h : RS u v) (x1 x2 : Int32) : layV (mI u (50 + 2 * x1.toNatClampNeg) 1) x1 x2 = layV (mI v 78 x1.toNatClampNeg) x1 x2 := by
  unfold layV
  by_cases a : 0 ≤ x1 ∧ x1 < 6
  · rw [if_pos a, if_pos a]
    rcases h _ (rO a).2 with ⟨p, q⟩ | ⟨p, q⟩
    · rw [if_neg (fun z => by have := z.1; have := z.2; grind), if_neg (fun z => by have := z.1; have := z.2; grind)]
    · rw [q]
  · rw [if_neg a, if_neg a]
theorem RS.ge {u v : pM} (h : RS u v) {r : Nat} (hr : r < 6) : 0 ≤ mI u (50 + 2 * r) 1 ↔ 0 ≤ mI v 78 r := by
  rcases h r hr with ⟨p, q⟩ | ⟨p, q⟩
  · exact ⟨fun z => absurd p (Int32.not_lt.mpr z), fun z => absurd q (Int32.not_lt.mpr z)⟩
  · rw [q]
theorem RS.cop {u v : pM} (h : RS u v) (x1 x2 x3 x4 x5 : Int32) : copV (mI u (50 + 2 * x1.toNatClampNeg) 1) (mI u (50 + 2 * x3.toNatClampNeg) 1) x1 x2 x3 x4 x5 = copV (mI v 78 x1.toNatClampNeg) (mI v 78 x3.toNatClampNeg) x1 x2 x3 x4 x5 := by
  unfold copV
  by_cases a : (0 ≤ x1 ∧ x1 < 6) ∧ 0 ≤ x3 ∧ x3 < 6
  · rw [if_pos a, if_pos a]
    rcases h _ (rO a.1).2 with ⟨p, q⟩ | ⟨p, q⟩
    · rw [if_neg (fun z => absurd p (Int32.not_lt.mpr z.2.1)), if_neg (fun z => absurd q (Int32.not_lt.mpr z.2.1))]
    · rcases h _ (rO a.2).2 with ⟨p', q'⟩ | ⟨p', q'⟩
      · rw [if_neg (fun z => absurd p' (Int32.not_lt.mpr z.2.2.1)), if_neg (fun z => absurd q' (Int32.not_lt.mpr z.2.2.1))]
      · rw [q, q']
  · rw [if_neg a, if_neg a]
theorem X0_lay {x1 x2 x3 a1 a2 : Int32} (h : RX0 u) (_ : InvC u) (hM : InvM u) (q1 : Cl (qB ++ qR) u u1 ∧ layV (mI u (50 + 2 * x1.toNatClampNeg) 1) x1 x2 = a1 ∧ rwP u u1 (layV (mI u (50 + 2 * x1.toNatClampNeg) 1) x1 x2 = 1) x1.toNatClampNeg (mI u (50 + 2 * x1.toNatClampNeg) 1) (setF (mI u (51 + 2 * x1.toNatClampNeg)) x2.toNatClampNeg x3)) (q2 : Mo (mB ++ mRw) u1 u2 ∧ layV (mI u1 78 x1.toNatClampNeg) x1 x2 = a2 ∧ rmP u1 u2 (layV (mI u1 78 x1.toNatClampNeg) x1 x2 = 1) x1.toNatClampNeg (mI u1 78 x1.toNatClampNeg) (setF (fun k => mI u1 79 (40 * x1.toNatClampNeg + k)) x2.toNatClampNeg x3)) : a1 = a2 ∧ RX0 u2 := by
  have w := h.rw' q1.1
  have e := w.rs.lay x1 x2
  have in6 : layV (mI u (50 + 2 * x1.toNatClampNeg) 1) x1 x2 = 1 → x1.toNatClampNeg < 6 := fun c => by
    unfold layV at c
    by_cases a : 0 ≤ x1 ∧ x1 < 6
    · exact (rO a).2
    · rw [if_neg a] at c; exact absurd c (by decide)
  refine ⟨by rw [← q1.2.1, ← q2.2.1]; exact e, h.rows hM q1.1 q2.1 (w.P q1.2.2 q2.2.2 (by rw [e]) (fun c => (w _ (in6 c)).1) (fun c k hk => ?_))⟩
  unfold setF
  by_cases g : k = x2.toNatClampNeg
  · rw [if_pos g, if_pos g]
  · rw [if_neg g, if_neg g]; exact (w _ (in6 c)).2 k hk
theorem X0_tear {x1 a1 a2 : Int32} (h : RX0 u) (_ : InvC u) (hM : InvM u) (q1 : Cl (qB ++ qR) u u1 ∧ tearV (mI u (50 + 2 * x1.toNatClampNeg) 1) x1 = a1 ∧ rwP u u1 ((0 ≤ x1 ∧ x1 < 6) ∧ 0 ≤ mI u (50 + 2 * x1.toNatClampNeg) 1) x1.toNatClampNeg (-1) (mI u (51 + 2 * x1.toNatClampNeg))) (q2 : Mo (mB ++ mRw) u1 u2 ∧ tearV (mI u1 78 x1.toNatClampNeg) x1 = a2 ∧ rmP u1 u2 ((0 ≤ x1 ∧ x1 < 6) ∧ 0 ≤ mI u1 78 x1.toNatClampNeg) x1.toNatClampNeg (-9) (fun k => mI u1 79 (40 * x1.toNatClampNeg + k))) : True ∧ RX0 u2 := by
  have w := h.rw' q1.1
  exact ⟨trivial, h.rows hM q1.1 q2.1 (w.P q1.2.2 q2.2.2 ⟨fun z => ⟨z.1, (w.rs.ge (rO z.1).2).mp z.2⟩, fun z => ⟨z.1, (w.rs.ge (rO z.1).2).mpr z.2⟩⟩ (fun _ => .inl (by decide)) (fun c k hk => (w _ (rO c.1).2).2 k hk))⟩
theorem X0_copy {x1 x2 x3 x4 x5 a1 a2 : Int32} (h : RX0 u) (hC : InvC u) (hM : InvM u) (q1 : Cl (qB ++ qR) u u1 ∧ copV (mI u (50 + 2 * x1.toNatClampNeg) 1) (mI u (50 + 2 * x3.toNatClampNeg) 1) x1 x2 x3 x4 x5 = a1 ∧ rwP u u1 (copV (mI u (50 + 2 * x1.toNatClampNeg) 1) (mI u (50 + 2 * x3.toNatClampNeg) 1) x1 x2 x3 x4 x5 = 1) x3.toNatClampNeg (mI u (50 + 2 * x3.toNatClampNeg) 1) (cpyF (mI u (51 + 2 * x1.toNatClampNeg)) (mI u (51 + 2 * x3.toNatClampNeg)) x2.toNatClampNeg x4.toNatClampNeg x5.toNatClampNeg)) (q2 : Mo (mB ++ mRw) u1 u2 ∧ copV (mI u1 78 x1.toNatClampNeg) (mI u1 78 x3.toNatClampNeg) x1 x2 x3 x4 x5 = a2 ∧ rmP u1 u2 (copV (mI u1 78 x1.toNatClampNeg) (mI u1 78 x3.toNatClampNeg) x1 x2 x3 x4 x5 = 1) x3.toNatClampNeg (mI u1 78 x3.toNatClampNeg) (cpyF (fun k => mI u1 79 (40 * x1.toNatClampNeg + k)) (fun k => mI u1 79 (40 * x3.toNatClampNeg + k)) x2.toNatClampNeg x4.toNatClampNeg x5.toNatClampNeg)) : a1 = a2 ∧ RX0 u2 := by
  have w := h.rw' q1.1
  have e := w.rs.cop x1 x2 x3 x4 x5
  have ok : copV (mI u (50 + 2 * x1.toNatClampNeg) 1) (mI u (50 + 2 * x3.toNatClampNeg) 1) x1 x2 x3 x4 x5 = 1 → ((0 ≤ x1 ∧ x1 < 6) ∧ 0 ≤ x3 ∧ x3 < 6) ∧ (0 ≤ x5 ∧ 0 ≤ mI u (50 + 2 * x1.toNatClampNeg) 1 ∧ 0 ≤ mI u (50 + 2 * x3.toNatClampNeg) 1 ∧ (0 ≤ x2 ∧ x2 ≤ mI u (50 + 2 * x1.toNatClampNeg) 1 - x5) ∧ 0 ≤ x4 ∧ x4 ≤ mI u (50 + 2 * x3.toNatClampNeg) 1 - x5) := fun c => by
    unfold copV at c
    by_cases a : (0 ≤ x1 ∧ x1 < 6) ∧ 0 ≤ x3 ∧ x3 < 6
    · rw [if_pos a] at c
      by_cases b : 0 ≤ x5 ∧ 0 ≤ mI u (50 + 2 * x1.toNatClampNeg) 1 ∧ 0 ≤ mI u (50 + 2 * x3.toNatClampNeg) 1 ∧ (0 ≤ x2 ∧ x2 ≤ mI u (50 + 2 * x1.toNatClampNeg) 1 - x5) ∧ 0 ≤ x4 ∧ x4 ≤ mI u (50 + 2 * x3.toNatClampNeg) 1 - x5
      · exact ⟨a, b⟩
      · rw [if_neg b] at c; exact absurd c (by decide)
    · rw [if_neg a] at c; exact absurd c (by decide)
  refine ⟨by rw [← q1.2.1, ← q2.2.1]; exact e, h.rows hM q1.1 q2.1 (w.P q1.2.2 q2.2.2 (by rw [e]) (fun c => (w _ (rO (ok c).1.2).2).1) (fun c k hk => ?_))⟩
  have o := ok c
  unfold cpyF
  by_cases g : x4.toNatClampNeg ≤ k ∧ k < x4.toNatClampNeg + x5.toNatClampNeg
  · rw [if_pos g, if_pos g]
    refine (w _ (rO o.1.1).2).2 _ ?_
    have p := cp_ok ⟨o.2.2.2.2.1.1, o.2.1, o.2.2.2.2.1.2⟩ o.2.2.1 (hC.1 _ (rL (rO o.1.1).2).1) (S0_lt _)
    have l := (rL (rO o.1.1).2).2
    have := p.2.2
    omega
  · rw [if_neg g, if_neg g]; exact (w _ (rO o.1.2).2).2 k hk
theorem RX0.m1 (h : RX0 u) (hM : InvM u) : 0 ≤ mI u (mR u 2 10) 1 ∧ mI u (mR u 2 10) 1 ≤ 7 := by rw [h.2.1.2.2.2]; exact hM.m7
theorem Y0_doors {x1 : Int32} (h : RX0 u) (hC : InvC u) (hM : InvM u) : Ws G D_doors 0 [(0, .ref 2), (1, .int x1)] [] u (RI fun a u' => Cl (qB ++ qR) u u' ∧ dooV (mI u (mR u 2 10) 1) x1 = a ∧ rwP u u' (0 ≤ x1 ∧ x1 < 6) x1.toNatClampNeg (mI u (mR u 2 10) 1) (dooF (mI u (mR u 2 10) 1).toNatClampNeg (mI u 8))) := d_doorsy hC (h.m1 hM)
theorem Z0_doors {L : List Nat} {x1 : Int32} (_ : RX0 u) (_ : InvM u) (_ : Cl L u u1) (hM : InvM u1) : Ws G m_doors 0 [(0, .ref 76), (1, .int x1)] [] u1 (RI fun a u' => Mo (mB ++ mRw) u1 u' ∧ dooV (mI u1 76 11) x1 = a ∧ rmP u1 u' (0 ≤ x1 ∧ x1 < 6) x1.toNatClampNeg (mI u1 76 11) (dooF (mI u1 76 11).toNatClampNeg (mI u1 84))) := e_doorsy hM
theorem X0_doors {x1 a1 a2 : Int32} (h : RX0 u) (_ : InvC u) (hM : InvM u) (q1 : Cl (qB ++ qR) u u1 ∧ dooV (mI u (mR u 2 10) 1) x1 = a1 ∧ rwP u u1 (0 ≤ x1 ∧ x1 < 6) x1.toNatClampNeg (mI u (mR u 2 10) 1) (dooF (mI u (mR u 2 10) 1).toNatClampNeg (mI u 8))) (q2 : Mo (mB ++ mRw) u1 u2 ∧ dooV (mI u1 76 11) x1 = a2 ∧ rmP u1 u2 (0 ≤ x1 ∧ x1 < 6) x1.toNatClampNeg (mI u1 76 11) (dooF (mI u1 76 11).toNatClampNeg (mI u1 84))) : a1 = a2 ∧ RX0 u2 := by
  have e := (h.rn q1.1).2.2.2
  have m := (hM.clx q1.1).m7
  refine ⟨by rw [← q1.2.1, ← q2.2.1, e], h.rows hM q1.1 q2.1 ((h.rw' q1.1).P q1.2.2 q2.2.2 Iff.rfl (fun _ => .inr ⟨by rw [e]; exact m.1, e⟩) (fun _ k hk => ?_))⟩
  rw [e]
  unfold dooF
  by_cases g : k < (mI u1 76 11).toNatClampNeg
  · rw [if_pos g, if_pos g]; exact (h.nw q1.1).2.2.1 k g
  · rw [if_neg g, if_neg g]
theorem Y0_image {x1 : Int32} (h : RX0 u) (hC : InvC u) (hM : InvM u) : Ws G D_image 0 [(0, .ref 2), (1, .int x1)] [] u (RI fun a u' => Cl (qB ++ qR) u u' ∧ imaV (mI u (mR u 2 10) 0) (mI u (mR u 2 10) 1) x1 = a ∧ rwP u u' ((0 ≤ x1 ∧ x1 < 6) ∧ 0 < mI u (mR u 2 10) 0) x1.toNatClampNeg (mI u (mR u 2 10) 1 + 2) (imaF (mI u (mR u 2 10) 1).toNatClampNeg (mI u 7 0) (mI u 7 1) (mI u 8))) := d_imagey hC (h.m1 hM)
theorem Z0_image {L : List Nat} {x1 : Int32} (_ : RX0 u) (_ : InvM u) (_ : Cl L u u1) (hM : InvM u1) : Ws G m_image 0 [(0, .ref 76), (1, .int x1)] [] u1 (RI fun a u' => Mo (mB ++ mRw) u1 u' ∧ imaV (mI u1 76 10) (mI u1 76 11) x1 = a ∧ rmP u1 u' ((0 ≤ x1 ∧ x1 < 6) ∧ 0 < mI u1 76 10) x1.toNatClampNeg (mI u1 76 11 + 2) (imaF (mI u1 76 11).toNatClampNeg (mI u1 76 18) (mI u1 76 19) (mI u1 84))) := e_imagey hM
theorem X0_image {x1 a1 a2 : Int32} (h : RX0 u) (_ : InvC u) (hM : InvM u) (q1 : Cl (qB ++ qR) u u1 ∧ imaV (mI u (mR u 2 10) 0) (mI u (mR u 2 10) 1) x1 = a1 ∧ rwP u u1 ((0 ≤ x1 ∧ x1 < 6) ∧ 0 < mI u (mR u 2 10) 0) x1.toNatClampNeg (mI u (mR u 2 10) 1 + 2) (imaF (mI u (mR u 2 10) 1).toNatClampNeg (mI u 7 0) (mI u 7 1) (mI u 8))) (q2 : Mo (mB ++ mRw) u1 u2 ∧ imaV (mI u1 76 10) (mI u1 76 11) x1 = a2 ∧ rmP u1 u2 ((0 ≤ x1 ∧ x1 < 6) ∧ 0 < mI u1 76 10) x1.toNatClampNeg (mI u1 76 11 + 2) (imaF (mI u1 76 11).toNatClampNeg (mI u1 76 18) (mI u1 76 19) (mI u1 84))) : a1 = a2 ∧ RX0 u2 := by
  have e := (h.rn q1.1).2.2
  have m := (hM.clx q1.1).m7
  have w := h.nw q1.1
  refine ⟨by rw [← q1.2.1, ← q2.2.1, e.1, e.2], h.rows hM q1.1 q2.1 ((h.rw' q1.1).P q1.2.2 q2.2.2 (by rw [e.1]) (fun _ => .inr ⟨by rw [e.2]; grind, by rw [e.2]⟩) (fun _ k hk => ?_))⟩
  rw [e.2, w.1, w.2.1]
  unfold imaF
  by_cases k0 : k = 0
  · rw [if_pos k0, if_pos k0]
  · rw [if_neg k0, if_neg k0]
    by_cases k1 : k = 1
    · rw [if_pos k1, if_pos k1]
    · rw [if_neg k1, if_neg k1]
      by_cases g : k < (mI u1 76 11).toNatClampNeg + 2
      · rw [if_pos g, if_pos g]; exact w.2.2.1 _ (by unfold nN; omega)
      · rw [if_neg g, if_neg g]
theorem X0_errands {x1 x2 x3 x4 a1 a2 : Int32} (h : RX0 u) (_ : InvC u) (hM : InvM u) (q1 : Cl (qB ++ qR) u u1 ∧ erQ u u1 a1 x1 x2 x3 x4) (q2 : Mo (mB ++ mRw) u1 u2 ∧ emQ u1 u2 a2 x1 x2 x3 x4) : a1 = a2 ∧ RX0 u2 := by
  have e := (h.rn q1.1).2.2
  have hM1 := hM.clx q1.1
  have m := hM1.m7
  have n30 := hM1.n30
  have ee : erC (mI u (mR u 2 10) 0) (mI u (mR u 2 10) 1) x1 x2 x3 x4 ↔ ermC (mI u1 76 10) (mI u1 76 11) x1 x2 x3 x4 := by
    rw [e.1, e.2]
    exact er_eq m n30
  have w := h.rw' q1.1
  rcases q1.2 with ⟨c, ea, k⟩ | ⟨c, g⟩
  · rcases q2.2 with ⟨c', ea', k'⟩ | ⟨c', _⟩
    · exact ⟨by rw [ea, ea'], h.rows hM q1.1 q2.1 (w.K k k')⟩
    · exact absurd (ee.mpr c') c
  · rcases q2.2 with ⟨c', _⟩ | ⟨c', g'⟩
    · exact absurd (ee.mp c) c'
    have nz : ¬ mI u 76 10 = 0 := fun z => by
      have b := c'.1
      rw [q1.1.2.1 76 10 (by decide), z] at b
      exact absurd (Int32.le_trans b.1 b.2) (by decide)
    have hK := h.plk hM nz
    have sq := h.sq q1.1 hM
    have nw := h.nw q1.1
    obtain ⟨f, S, hS, hSb, hE, hA, hR⟩ := g hK (fun s hs => by
      rw [e.2] at hs
      rw [nw.2.2.1 s hs]
      have := nw.2.2.2.2.2 s hs
      exact ⟨this.1, Int32.lt_of_lt_of_le this.2 n30.2⟩)
    obtain ⟨ord, f', R, F, ho, hS', hRk, hRd, hF, hR'⟩ := g' ⟨_, sq.2.2.2⟩
    have m7' : (mI u1 76 11).toNatClampNeg ≤ 7 := m7N hM1
    have uq := OrdP.uniq ho sq.2.2.2
    have dwe : ∀ k s, s < nN u1 → dwC u k s = dwM u1 ord k s := fun k s hs => by
      rw [dw_eq h q1.1 hM k s hs]
      have z := pws_sh (n := mI u1 76 10) (w := mI u1 76 18) (shut := mI u1 76 19) (sh := shM u1) (sh' := shM u1) (ord := ord) (ord' := ordF u (mR u 2 10)) (dr := mI u1 84) ho.1 (fun _ _ => rfl) (fun i hi => (uq i hi).symm) k
      exact congrFun z s
    rw [e.1, e.2] at hE
    have hRd' : rdQ (mI u1 76 10) (mI u1 76 11).toNatClampNeg x2 x1 (dwC u) x3.toNatClampNeg R := fun wk hw p hp => (hRd wk hw p hp).cg (farP_cg (fun s hs => dwe wk s hs))
    have E := hE R hRd'
    have b2 := c'.2.1
    have b3 := c'.2.2.1
    have s1 : x2 < 128 := set128 m b2.2
    have fin := er_final b2.1 s1 b3 hRk (hRd'.k n30.2) (set_m m b2) E.1 E.2 hF.1 hF.2.1 hF.2.2.1 hF.2.2.2
    have w30 : x3.toNatClampNeg ≤ 30 := by have := tn_le b3.2; have e : (30 : Int32).toNatClampNeg = 30 := (by decide); omega
    have fb : ∀ s, s < 7 → tb x2 s = true → 0 ≤ (F s).toInt ∧ (F s).toInt ≤ 30 := fun s h7 t => by
      have q := hF.2.2.1 s h7 t
      have a := Int32.le_iff_toInt_le.mp q.1
      have b := Int32.le_iff_toInt_le.mp (Int32.le_trans q.2 b3.2)
      have d0 : (0 : Int32).toInt = 0 := by decide
      have d30 : (30 : Int32).toInt = 30 := by decide
      omega
    have a20 : 0 ≤ a2.toInt := by
      have z := tab_ge (R := R) (m1 := mayF (fun _ => -9) (mI u1 76 11).toNatClampNeg) (set := x2) (weeks := x3) hRk (x3.toNatClampNeg + 1) x2.toNatClampNeg (ixn (n := 128) b2.1 s1 (by decide))
      rw [hF.1] at z
      exact Int32.le_iff_toInt_le.mp z
    have dg := dg_cod (c := a2.toInt) a20 fb
    rw [← fin] at dg
    refine ⟨Int32.toInt_inj.mp (by rw [hA]; exact dg.1), h.rows hM q1.1 q2.1 (w.S hS hS' ?_ ?_)⟩
    · exact .inr (bc_set m b2)
    · rw [e.2] at hR
      refine hR.eq hR' (fun s hs t => ?_)
      rw [dg.2 s (by omega)]
      unfold dg5
      rw [if_pos t]
/-! the standing -/
theorem RX0.now (h : RX0 u) (hM : InvM u) (q1 : Cl (qB ++ qN) u u1) (q2 : Mo (mB ++ mNw) u1 u2) (w : NoW u1 u2) : RX0 u2 := RX0.st q2 q2.1 (tRT h q1 q2) (tRN h q1 q2) (tRW h q1 q2) (tSQ h q1 q2 hM) w (tKP h q1 q2) (tDI h q1 q2)
theorem nm_n {L' : List Nat} (q2 : Mo L' u1 u2) (hL : 210 ∉ L' ∧ 211 ∉ L') : mI u2 76 10 = mI u1 76 10 ∧ nN u2 = nN u1 := ⟨fpF q2.fp (by decide) hL.1, by unfold nN; rw [fpF q2.fp (by decide) hL.2]⟩
theorem NoW.S {s : Int32} (h : NoW u u1) (p : nwS u u1 s) (q : nmS u1 u2 s) (en : mI u2 76 10 = mI u1 76 10 ∧ nN u2 = nN u1) (hb : bnK (mI u1 76 10) s) : NoW u1 u2 := by
  have ed : mI u2 84 = mI u1 84 := funext q.2.2
  unfold NoW stK at *
  rw [en.1, en.2, ed, p.1, q.1, p.2.1, q.2.1]
  exact ⟨h.1, rfl, fun t ht => by rw [p.2.2]; exact h.2.2.1 t ht, h.2.2.2.1, hb, h.2.2.2.2.2⟩
theorem Y0_shut {x1 : Int32} (_ : RX0 u) (hC : InvC u) (_ : InvM u) : Ws G D_shut 0 [(0, .ref 2), (1, .int x1)] [] u (RI fun a u' => Cl (qB ++ qN) u u' ∧ (shutA (mI u (mR u 2 10) 0) (mI u 7 1) x1).1 = a ∧ nwS u u' (shutA (mI u (mR u 2 10) 0) (mI u 7 1) x1).2) := d_shuty hC
theorem Z0_shut {L : List Nat} {x1 : Int32} (h : RX0 u) (_ : InvM u) (q : Cl L u u1) (hM : InvM u1) : Ws G m_shut 0 [(0, .ref 76), (1, .int x1)] [] u1 (RI fun a u' => Mo (mB ++ mNw) u1 u' ∧ (shutA (mI u1 76 10) (mI u1 76 19) x1).1 = a ∧ nmS u1 u' (shutA (mI u1 76 10) (mI u1 76 19) x1).2 ∧ bnK (mI u1 76 10) (mI u' 76 19)) := e_shuty hM (h.nw q).2.2.2.2.1
theorem X0_shut {x1 a1 a2 : Int32} (h : RX0 u) (_ : InvC u) (hM : InvM u) (q1 : Cl (qB ++ qN) u u1 ∧ (shutA (mI u (mR u 2 10) 0) (mI u 7 1) x1).1 = a1 ∧ nwS u u1 (shutA (mI u (mR u 2 10) 0) (mI u 7 1) x1).2) (q2 : Mo (mB ++ mNw) u1 u2 ∧ (shutA (mI u1 76 10) (mI u1 76 19) x1).1 = a2 ∧ nmS u1 u2 (shutA (mI u1 76 10) (mI u1 76 19) x1).2 ∧ bnK (mI u1 76 10) (mI u2 76 19)) : a1 = a2 ∧ RX0 u2 := by
  have e := (h.rn q1.1).2.2
  have w := h.nw q1.1
  have p := q1.2
  rw [e.1, w.2.1] at p
  have hb := q2.2.2.2
  rw [q2.2.2.1.2.1] at hb
  exact ⟨p.1.symm.trans q2.2.1, h.now hM q1.1 q2.1 (w.S p.2 q2.2.2.1 (nm_n q2.1 (by decide)) hb)⟩
theorem Y0_open {x1 : Int32} (_ : RX0 u) (hC : InvC u) (_ : InvM u) : Ws G D_open 0 [(0, .ref 2), (1, .int x1)] [] u (RI fun a u' => Cl (qB ++ qN) u u' ∧ (openA (mI u (mR u 2 10) 0) (mI u 7 1) x1).1 = a ∧ nwS u u' (openA (mI u (mR u 2 10) 0) (mI u 7 1) x1).2) := d_openy hC
theorem Z0_open {L : List Nat} {x1 : Int32} (h : RX0 u) (_ : InvM u) (q : Cl L u u1) (hM : InvM u1) : Ws G m_open 0 [(0, .ref 76), (1, .int x1)] [] u1 (RI fun a u' => Mo (mB ++ mNw) u1 u' ∧ (openA (mI u1 76 10) (mI u1 76 19) x1).1 = a ∧ nmS u1 u' (openA (mI u1 76 10) (mI u1 76 19) x1).2 ∧ bnK (mI u1 76 10) (mI u' 76 19)) := e_openy hM (h.nw q).2.2.2.2.1
theorem X0_open {x1 a1 a2 : Int32} (h : RX0 u) (_ : InvC u) (hM : InvM u) (q1 : Cl (qB ++ qN) u u1 ∧ (openA (mI u (mR u 2 10) 0) (mI u 7 1) x1).1 = a1 ∧ nwS u u1 (openA (mI u (mR u 2 10) 0) (mI u 7 1) x1).2) (q2 : Mo (mB ++ mNw) u1 u2 ∧ (openA (mI u1 76 10) (mI u1 76 19) x1).1 = a2 ∧ nmS u1 u2 (openA (mI u1 76 10) (mI u1 76 19) x1).2 ∧ bnK (mI u1 76 10) (mI u2 76 19)) : a1 = a2 ∧ RX0 u2 := by
  have e := (h.rn q1.1).2.2
  have w := h.nw q1.1
  have p := q1.2
  rw [e.1, w.2.1] at p
  have hb := q2.2.2.2
  rw [q2.2.2.1.2.1] at hb
  exact ⟨p.1.symm.trans q2.2.1, h.now hM q1.1 q2.1 (w.S p.2 q2.2.2.1 (nm_n q2.1 (by decide)) hb)⟩
theorem pws_rn {n w shut : Int32} {sh : Nat → Sh5} {ord : Nat → Nat} {m : Nat} {dr : Nat → Int32} (h0 : 10 ≤ n) (h1 : n ≤ 30) (hd : ∀ s, s < m → 0 ≤ dr s ∧ dr s < n) : ∀ k s, s < m → 0 ≤ pws n w shut sh ord m dr k s ∧ pws n w shut sh ord m dr k s < n
  | 0 => hd
  | k + 1 => fun s hs => by
    have ih := pws_rn (w := w) (shut := shut) (sh := sh) (ord := ord) h0 h1 hd k
    have g : ∀ i s, s < m → 0 ≤ (weP n (w + Int32.ofNat k) shut sh ord (pws n w shut sh ord m dr k) i).2 s ∧ (weP n (w + Int32.ofNat k) shut sh ord (pws n w shut sh ord m dr k) i).2 s < n := fun i => by
      induction i with
      | zero => exact ih
      | succ i ii =>
        intro s hs
        rw [weP]
        show 0 ≤ (if s = ord i then _ else _) ∧ (if s = ord i then _ else _) < n
        split
        · exact seek_rg h0 h1 _ _ (dAt_rg h0 h1)
        · exact ii s hs
    exact g m s hs
theorem Y0_go {x1 : Int32} (h : RX0 u) (hC : InvC u) (hM : InvM u) : Ws G D_go 0 [(0, .ref 2), (1, .int x1)] [] u (RI fun a u' => Cl (qB ++ qN) u u' ∧ goA (mI u (mR u 2 10) 0) (mI u 7 0) x1 = a ∧ ((goK (mI u (mR u 2 10) 0) (mI u 7 0) x1 ∧ mI u' 7 0 = mI u 7 0 + x1 ∧ mI u' 7 1 = mI u 7 1 ∧ mI u' 8 = dwC u x1.toNatClampNeg) ∨ (¬ goK (mI u (mR u 2 10) 0) (mI u 7 0) x1 ∧ nwS u u' (mI u 7 1)))) := d_goy hC (fun z => h.plk hM (fun q => by rw [h.2.1.2.2.1, q] at z; exact absurd z (by decide)))
theorem Z0_go {L : List Nat} {x1 : Int32} (h : RX0 u) (hM0 : InvM u) (q : Cl L u u1) (hM : InvM u1) : Ws G m_go 0 [(0, .ref 76), (1, .int x1)] [] u1 (RI fun a u' => Mo (mB ++ mNw) u1 u' ∧ goA (mI u1 76 10) (mI u1 76 18) x1 = a ∧ ((goK (mI u1 76 10) (mI u1 76 18) x1 ∧ mI u' 76 18 = mI u1 76 18 + x1 ∧ mI u' 76 19 = mI u1 76 19 ∧ ∀ s, s < (mI u1 76 11).toNatClampNeg → mI u' 84 s = dwM u1 (ordF u (mR u 2 10)) x1.toNatClampNeg s) ∨ (¬ goK (mI u1 76 10) (mI u1 76 18) x1 ∧ nmS u1 u' (mI u1 76 19)))) := e_goy hM (h.sq q hM0).2.2.2
theorem X0_go {x1 a1 a2 : Int32} (h : RX0 u) (_ : InvC u) (hM : InvM u) (q1 : Cl (qB ++ qN) u u1 ∧ goA (mI u (mR u 2 10) 0) (mI u 7 0) x1 = a1 ∧ ((goK (mI u (mR u 2 10) 0) (mI u 7 0) x1 ∧ mI u1 7 0 = mI u 7 0 + x1 ∧ mI u1 7 1 = mI u 7 1 ∧ mI u1 8 = dwC u x1.toNatClampNeg) ∨ (¬ goK (mI u (mR u 2 10) 0) (mI u 7 0) x1 ∧ nwS u u1 (mI u 7 1)))) (q2 : Mo (mB ++ mNw) u1 u2 ∧ goA (mI u1 76 10) (mI u1 76 18) x1 = a2 ∧ ((goK (mI u1 76 10) (mI u1 76 18) x1 ∧ mI u2 76 18 = mI u1 76 18 + x1 ∧ mI u2 76 19 = mI u1 76 19 ∧ ∀ s, s < (mI u1 76 11).toNatClampNeg → mI u2 84 s = dwM u1 (ordF u (mR u 2 10)) x1.toNatClampNeg s) ∨ (¬ goK (mI u1 76 10) (mI u1 76 18) x1 ∧ nmS u1 u2 (mI u1 76 19)))) : a1 = a2 ∧ RX0 u2 := by
  have e := (h.rn q1.1).2.2
  have w := h.nw q1.1
  have hM1 := hM.clx q1.1
  obtain ⟨c1, p1, p2⟩ := q1
  obtain ⟨c2, r1, r2⟩ := q2
  have en := nm_n c2 (by decide)
  rw [e.1, w.1] at p1 p2
  refine ⟨p1.symm.trans r1, h.now hM c1 c2 ?_⟩
  rcases p2 with ⟨k, a, b, c⟩ | ⟨k, a⟩
  · rcases r2 with ⟨_, a', b', c'⟩ | ⟨k', _⟩
    · have n1 : 10 ≤ mI u1 76 10 ∧ mI u1 76 10 ≤ 30 := hM1.nd (fun z => by have := k.2.1; rw [z] at this; exact absurd this (by decide))
      unfold NoW stK
      rw [en.1, en.2, a, a', b, b', c]
      refine ⟨rfl, w.2.1, fun s hs => by rw [c' s hs]; exact dw_eq h c1 hM _ s hs, ⟨by have := w.2.2.2.1; have := k.1; have := k.2.2; grind, k.2.2⟩, w.2.2.2.2.1, fun s hs => by rw [c' s hs]; exact pws_rn n1.1 n1.2 (w.2.2.2.2.2) _ s hs⟩
    · exact absurd k k'
  · rcases r2 with ⟨k', _⟩ | ⟨_, a'⟩
    · exact absurd k' k
    · rw [w.2.1] at a
      exact w.S a a' en w.2.2.2.2.1
end KEEP
/-! ===== kept places, images, the diary ===== -/
section KEEP2
variable {G : pG} {u u1 u2 : pM}
def Y0_keep {x1 : Int32} (_ : RX0 u) (hC : InvC u) (_ : InvM u) := d_keepy (G := G) (u := u) (x1 := x1) hC
def Z0_keep {L : List Nat} {x1 : Int32} (_ : RX0 u) (_ : InvM u) (_ : Cl L u u1) (hM : InvM u1) := e_keepy (G := G) (u := u1) (x1 := x1) hM
theorem X0_keep {x1 a1 a2 : Int32} (h : RX0 u) (_ : InvC u) (hM : InvM u) (q1 : Cl (qB ++ qK) u u1 ∧ keepA (mI u (mR u 2 10) 0) (mI u 7 0) x1 = a1 ∧ ((keepK (mI u (mR u 2 10) 0) x1 ∧ mI u1 (70 + 2 * x1.toNatClampNeg) 0 = mI u 7 0 ∧ mI u1 (70 + 2 * x1.toNatClampNeg) 1 = mI u 7 1 ∧ (∀ s, s < 7 → mI u1 (71 + 2 * x1.toNatClampNeg) s = mI u 8 s) ∧ ∀ n k, 70 ≤ n → n < 76 → n ≠ 70 + 2 * x1.toNatClampNeg → n ≠ 71 + 2 * x1.toNatClampNeg → mI u1 n k = mI u n k) ∨ (¬ keepK (mI u (mR u 2 10) 0) x1 ∧ ∀ n k, 70 ≤ n → n < 76 → mI u1 n k = mI u n k))) (q2 : Mo (mB ++ mKp) u1 u2 ∧ keepA (mI u1 76 10) (mI u1 76 18) x1 = a2 ∧ ((keepK (mI u1 76 10) x1 ∧ mI u2 87 (10 * x1.toNatClampNeg) = mI u1 76 18 ∧ mI u2 87 (10 * x1.toNatClampNeg + 1) = mI u1 76 19 ∧ (∀ s, s < (mI u1 76 11).toNatClampNeg → mI u2 87 (10 * x1.toNatClampNeg + 2 + s) = mI u1 84 s) ∧ ∀ j, (j < 10 * x1.toNatClampNeg ∨ 10 * x1.toNatClampNeg + 10 ≤ j) → mI u2 87 j = mI u1 87 j) ∨ (¬ keepK (mI u1 76 10) x1 ∧ ∀ j, mI u2 87 j = mI u1 87 j))) : a1 = a2 ∧ RX0 u2 := by
  have e := (h.rn q1.1).2.2
  have w := h.nw q1.1
  have hM1 := hM.clx q1.1
  have m7 : nN u1 ≤ 7 := m7N hM1
  obtain ⟨c1, p1, p2⟩ := q1
  obtain ⟨c2, r1, r2⟩ := q2
  have en : mI u2 76 10 = mI u1 76 10 ∧ nN u2 = nN u1 := nm_n c2 (by decide)
  rw [e.1, w.1] at p1
  rw [e.1] at p2
  refine ⟨p1.symm.trans r1, RX0.st c2 c2.1 (tRT h c1 c2) (tRN h c1 c2) (tRW h c1 c2) (tSQ h c1 c2 hM) (tNW h c1 c2) ?_ (tDI h c1 c2)⟩
  rcases p2 with ⟨k, a0, a1', ad, ao⟩ | ⟨k, a⟩
  · rcases r2 with ⟨_, b0, b1, bd, bo⟩ | ⟨k', _⟩
    · intro t ht
      rw [en.1, en.2]
      have x3 := (kO k.1).2
      by_cases g : t = x1.toNatClampNeg
      · rw [g]
        refine .inr ⟨by rw [a0, b0]; exact w.1, by rw [a1', b1]; exact w.2.1, fun s hs => by rw [ad s (by omega), bd s hs]; exact w.2.2.1 s hs, ?_⟩
        have q := w.2.2.2
        unfold stK at *
        rw [b0, b1]
        exact ⟨q.1, q.2.1, fun i hi => by show 0 ≤ mI u2 87 (10 * x1.toNatClampNeg + 2 + i) ∧ mI u2 87 (10 * x1.toNatClampNeg + 2 + i) < _; rw [bd i hi]; exact q.2.2 i hi⟩
      · have o := h.kp c1 t ht
        have e0 : ∀ k, mI u1 (70 + 2 * t) k = mI u (70 + 2 * t) k := fun k => ao _ _ (by omega) (by omega) (by omega) (by omega)
        have e1 : ∀ k, mI u1 (71 + 2 * t) k = mI u (71 + 2 * t) k := fun k => ao _ _ (by omega) (by omega) (by omega) (by omega)
        have f0 : mI u2 87 (10 * t) = mI u1 87 (10 * t) := bo _ (by omega)
        have f1 : mI u2 87 (10 * t + 1) = mI u1 87 (10 * t + 1) := bo _ (by omega)
        have fd : ∀ s, s < nN u1 → mI u2 87 (10 * t + 2 + s) = mI u1 87 (10 * t + 2 + s) := fun s hs => bo _ (by omega)
        rw [e0, e0, f0, f1]
        rcases o with o | o
        · exact .inl o
        · refine .inr ⟨o.1, o.2.1, fun s hs => by rw [e1, fd s hs]; exact o.2.2.1 s hs, ?_⟩
          have q := o.2.2.2
          unfold stK at *
          exact ⟨q.1, q.2.1, fun i hi => by show 0 ≤ mI u2 87 (10 * t + 2 + i) ∧ mI u2 87 (10 * t + 2 + i) < _; rw [fd i hi]; exact q.2.2 i hi⟩
    · exact absurd k k'
  · rcases r2 with ⟨k', _⟩ | ⟨_, b⟩
    · exact absurd k' k
    · exact ((h.kp c1).fc (fun n k x y => a n k x y)).fm en.1 (by have := c2.fp; exact fpF c2.fp (by decide) (by decide)) b
def Y0_on {x1 : Int32} (_ : RX0 u) (hC : InvC u) (_ : InvM u) := d_ony (G := G) (u := u) (x1 := x1) hC
def Z0_on {L : List Nat} {x1 : Int32} (_ : RX0 u) (_ : InvM u) (_ : Cl L u u1) (hM : InvM u1) := e_ony (G := G) (u := u1) (x1 := x1) hM
theorem X0_on {x1 a1 a2 : Int32} (h : RX0 u) (_ : InvC u) (hM : InvM u) (q1 : Cl (qB ++ qN) u u1 ∧ ((((0 ≤ x1 ∧ x1 < 3) ∧ ¬ mI u (70 + 2 * x1.toNatClampNeg) 0 = -1) ∧ a1 = mI u (70 + 2 * x1.toNatClampNeg) 0 ∧ mI u1 7 0 = mI u (70 + 2 * x1.toNatClampNeg) 0 ∧ mI u1 7 1 = mI u (70 + 2 * x1.toNatClampNeg) 1 ∧ ∀ s, s < 7 → mI u1 8 s = mI u (71 + 2 * x1.toNatClampNeg) s) ∨ (¬ ((0 ≤ x1 ∧ x1 < 3) ∧ ¬ mI u (70 + 2 * x1.toNatClampNeg) 0 = -1) ∧ a1 = (if 0 ≤ x1 ∧ x1 < 3 then -3 else -1) ∧ nwS u u1 (mI u 7 1)))) (q2 : Mo (mB ++ mNw) u1 u2 ∧ ((((0 ≤ x1 ∧ x1 < 3) ∧ ¬ mI u1 87 (10 * x1.toNatClampNeg) = -9) ∧ a2 = mI u1 87 (10 * x1.toNatClampNeg) ∧ mI u2 76 18 = mI u1 87 (10 * x1.toNatClampNeg) ∧ mI u2 76 19 = mI u1 87 (10 * x1.toNatClampNeg + 1) ∧ ∀ s, s < (mI u1 76 11).toNatClampNeg → mI u2 84 s = mI u1 87 (10 * x1.toNatClampNeg + 2 + s)) ∨ (¬ ((0 ≤ x1 ∧ x1 < 3) ∧ ¬ mI u1 87 (10 * x1.toNatClampNeg) = -9) ∧ a2 = (if 0 ≤ x1 ∧ x1 < 3 then -3 else -1) ∧ nmS u1 u2 (mI u1 76 19)))) : a1 = a2 ∧ RX0 u2 := by
  have w := h.nw q1.1
  have hM1 := hM.clx q1.1
  have m7 : nN u1 ≤ 7 := m7N hM1
  obtain ⟨c1, p⟩ := q1
  obtain ⟨c2, r⟩ := q2
  have en : mI u2 76 10 = mI u1 76 10 ∧ nN u2 = nN u1 := nm_n c2 (by decide)
  have kp := h.kp c1
  have same : (0 ≤ x1 ∧ x1 < 3) → (¬ mI u (70 + 2 * x1.toNatClampNeg) 0 = -1 ↔ ¬ mI u1 87 (10 * x1.toNatClampNeg) = -9) := fun a => by
    rcases kp _ (kO a).2 with o | o
    · exact ⟨fun z => absurd o.1 z, fun z => absurd o.2 z⟩
    · have q := o.2.2.2.1
      refine ⟨fun _ z => ?_, fun _ z => ?_⟩
      · rw [z] at q; exact absurd q.1 (by decide)
      · rw [← o.1, z] at q; exact absurd q.1 (by decide)
  rcases p with ⟨k, ea, a0, a1', ad⟩ | ⟨k, ea, a⟩
  · rcases r with ⟨k', eb, b0, b1, bd⟩ | ⟨k', _⟩
    · rcases kp _ (kO k.1).2 with o | o
      · exact absurd o.1 k.2
      · refine ⟨by rw [ea, eb]; exact o.1, h.now hM c1 c2 ?_⟩
        have q := o.2.2.2
        unfold NoW stK at *
        rw [en.1, en.2, a0, b0, a1', b1]
        exact ⟨o.1, o.2.1, fun s hs => by rw [ad s (by omega), bd s hs]; exact o.2.2.1 s hs, q.1, q.2.1, fun i hi => by rw [bd i hi]; exact q.2.2 i hi⟩
    · exact absurd ⟨k.1, (same k.1).mp k.2⟩ k'
  · rcases r with ⟨k', _⟩ | ⟨_, eb, b⟩
    · exact absurd ⟨k'.1, (same k'.1).mpr k'.2⟩ k
    · rw [w.2.1] at a
      exact ⟨by rw [ea, eb], h.now hM c1 c2 (w.S a b en w.2.2.2.2.1)⟩
def Y0_gone {x1 : Int32} (h : RX0 u) (hC : InvC u) (hM : InvM u) := d_goney (G := G) (u := u) (x1 := x1) hC (h.m1 hM)
def Z0_gone {L : List Nat} {x1 : Int32} (_ : RX0 u) (_ : InvM u) (_ : Cl L u u1) (hM : InvM u1) := e_goney (G := G) (u := u1) (x1 := x1) hM
theorem X0_gone {x1 a1 a2 : Int32} (h : RX0 u) (_ : InvC u) (hM : InvM u) (q1 : Cl (qB ++ qN) u u1 ∧ ((gonK (mI u (mR u 2 10) 0) (mI u (mR u 2 10) 1) (mI u (50 + 2 * x1.toNatClampNeg) 1) x1 (mI u (51 + 2 * x1.toNatClampNeg)) ∧ a1 = mI u (51 + 2 * x1.toNatClampNeg) 0 ∧ mI u1 7 0 = mI u (51 + 2 * x1.toNatClampNeg) 0 ∧ mI u1 7 1 = mI u (51 + 2 * x1.toNatClampNeg) 1 ∧ ∀ s, s < (mI u (mR u 2 10) 1).toNatClampNeg → mI u1 8 s = mI u (51 + 2 * x1.toNatClampNeg) (2 + s)) ∨ (¬ gonK (mI u (mR u 2 10) 0) (mI u (mR u 2 10) 1) (mI u (50 + 2 * x1.toNatClampNeg) 1) x1 (mI u (51 + 2 * x1.toNatClampNeg)) ∧ a1 = (if 0 ≤ x1 ∧ x1 < 6 then (if 0 < mI u (mR u 2 10) 0 then -3 else -4) else -1) ∧ nwS u u1 (mI u 7 1)))) (q2 : Mo (mB ++ mNw) u1 u2 ∧ ((gonK (mI u1 76 10) (mI u1 76 11) (mI u1 78 x1.toNatClampNeg) x1 (fun k => mI u1 79 (40 * x1.toNatClampNeg + k)) ∧ a2 = mI u1 79 (40 * x1.toNatClampNeg) ∧ mI u2 76 18 = mI u1 79 (40 * x1.toNatClampNeg) ∧ mI u2 76 19 = mI u1 79 (40 * x1.toNatClampNeg + 1) ∧ ∀ s, s < (mI u1 76 11).toNatClampNeg → mI u2 84 s = mI u1 79 (40 * x1.toNatClampNeg + (2 + s))) ∨ (¬ gonK (mI u1 76 10) (mI u1 76 11) (mI u1 78 x1.toNatClampNeg) x1 (fun k => mI u1 79 (40 * x1.toNatClampNeg + k)) ∧ a2 = (if 0 ≤ x1 ∧ x1 < 6 then (if 0 < mI u1 76 10 then -3 else -4) else -1) ∧ nmS u1 u2 (mI u1 76 19)))) : a1 = a2 ∧ RX0 u2 := by
  have e := (h.rn q1.1).2.2
  have w := h.nw q1.1
  have hM1 := hM.clx q1.1
  have m7 : nN u1 ≤ 7 := m7N hM1
  have n30 := hM1.n30
  have m := hM1.m7
  have rw_ := h.rw' q1.1
  obtain ⟨c1, p⟩ := q1
  obtain ⟨c2, r⟩ := q2
  rw [e.1, e.2] at p
  have en : mI u2 76 10 = mI u1 76 10 ∧ nN u2 = nN u1 := nm_n c2 (by decide)
  have same : gonK (mI u1 76 10) (mI u1 76 11) (mI u (50 + 2 * x1.toNatClampNeg) 1) x1 (mI u (51 + 2 * x1.toNatClampNeg)) ↔ gonK (mI u1 76 10) (mI u1 76 11) (mI u1 78 x1.toNatClampNeg) x1 (fun k => mI u1 79 (40 * x1.toNatClampNeg + k)) := by
    constructor
    · intro k
      have o := rw_ _ (rO k.1).2
      refine ⟨k.1, k.2.1, ?_, k.2.2.2.cg m7 (fun t ht => o.2 t ht)⟩
      rcases o.1 with z | z
      · have := z.1; rw [k.2.2.1] at this; exact absurd this (Int32.not_lt.mpr (by grind))
      · rw [← z.2]; exact k.2.2.1
    · intro k
      have o := rw_ _ (rO k.1).2
      refine ⟨k.1, k.2.1, ?_, k.2.2.2.cg m7 (fun t ht => (o.2 t ht).symm)⟩
      rcases o.1 with z | z
      · have := z.2; rw [k.2.2.1] at this; exact absurd this (Int32.not_lt.mpr (by grind))
      · rw [z.2]; exact k.2.2.1
  rcases p with ⟨k, ea, a0, a1', ad⟩ | ⟨k, ea, a⟩
  · rcases r with ⟨k', eb, b0, b1, bd⟩ | ⟨k', _⟩
    · have o := (rw_ _ (rO k.1).2).2
      have im := k'.2.2.2
      refine ⟨by rw [ea, eb]; exact o 0 (by decide), h.now hM c1 c2 ?_⟩
      unfold NoW stK
      rw [en.1, en.2, a0, b0, a1', b1]
      exact ⟨o 0 (by decide), o 1 (by decide), fun s hs => by rw [ad s hs, bd s hs]; exact o _ (by omega), im.1, bn_set n30 im.2.1, fun i hi => by rw [bd i hi]; exact im.2.2.2.1 i hi⟩
    · exact absurd (same.mp k) k'
  · rcases r with ⟨k', _⟩ | ⟨_, eb, b⟩
    · exact absurd (same.mpr k') k
    · rw [w.2.1] at a
      exact ⟨by rw [ea, eb], h.now hM c1 c2 (w.S a b en w.2.2.2.2.1)⟩
/-! the diary -/
theorem RX0.dia (h : RX0 u) (hM : InvM u) (q1 : Cl (qB ++ qJ) u u1) (q2 : Mo (mB ++ mJn) u1 u2) (d : DI u1 u2) : RX0 u2 := RX0.st q2 q2.1 (tRT h q1 q2) (tRN h q1 q2) (tRW h q1 q2) (tSQ h q1 q2 hM) (tNW h q1 q2) (tKP h q1 q2) d
def Y0_back {x1 : Int32} (_ : RX0 u) (hC : InvC u) (_ : InvM u) := d_backy (G := G) (u := u) (x1 := x1) hC
def Z0_back {L : List Nat} {x1 : Int32} (_ : RX0 u) (_ : InvM u) (_ : Cl L u u1) (hM : InvM u1) := e_backy (G := G) (u := u1) (x1 := x1) hM
theorem X0_back {x1 a1 a2 : Int32} (h : RX0 u) (_ : InvC u) (hM : InvM u) (q1 : Cl (qB ++ qJ) u u1 ∧ (backA (mI u 14 0) x1).1 = a1 ∧ mI u1 14 0 = (backA (mI u 14 0) x1).2 ∧ ∀ n k, 15 ≤ n → n ≤ 17 → mI u1 n k = mI u n k) (q2 : Mo (mB ++ mJn) u1 u2 ∧ (backA (mI u1 76 28) x1).1 = a2 ∧ mI u2 76 28 = (backA (mI u1 76 28) x1).2 ∧ ∀ k, mI u2 92 k = mI u1 92 k) : a1 = a2 ∧ RX0 u2 := by
  have d := h.di q1.1
  obtain ⟨c1, p1, p2, p3⟩ := q1
  obtain ⟨c2, r1, r2, r3⟩ := q2
  rw [d.1] at p1 p2
  refine ⟨p1.symm.trans r1, h.dia hM c1 c2 ?_⟩
  have le : (backA (mI u1 76 28) x1).2 ≤ mI u1 76 28 := by
    unfold backA
    split
    · rename_i z; exact z.2
    · exact Int32.le_refl _
  unfold DI
  rw [p2, r2]
  refine ⟨rfl, fun e he => ?_⟩
  have l := tn_le le
  rw [p3 15 _ (by decide) (by decide), p3 16 _ (by decide) (by decide), p3 17 _ (by decide) (by decide), r3, r3, r3]
  exact d.2 e (by omega)
def Y0_note {x1 x2 x3 : Int32} (h : RX0 u) (hC : InvC u) (hM : InvM u) := d_notey (G := G) (u := u) (x1 := x1) (x2 := x2) (x3 := x3) hC (by rw [h.2.2.2.2.2.2.1]; exact hM.2.2.2.2.2.1) (h.m1 hM).2
def Z0_note {L : List Nat} {x1 x2 x3 : Int32} (_ : RX0 u) (_ : InvM u) (_ : Cl L u u1) (hM : InvM u1) := e_notey (G := G) (u := u1) (x1 := x1) (x2 := x2) (x3 := x3) hM
theorem X0_note {x1 x2 x3 a1 a2 : Int32} (h : RX0 u) (_ : InvC u) (hM : InvM u) (q1 : Cl (qB ++ qJ) u u1 ∧ noteA (mI u (mR u 2 10) 0) (mI u (mR u 2 10) 1) (mI u 14 0) x1 x2 x3 = a1 ∧ ((noteK (mI u (mR u 2 10) 0) (mI u (mR u 2 10) 1) (mI u 14 0) x1 x2 x3 ∧ mI u1 14 0 = mI u 14 0 + 1 ∧ mI u1 15 = setF (mI u 15) (mI u 14 0).toNatClampNeg x1 ∧ mI u1 16 = setF (mI u 16) (mI u 14 0).toNatClampNeg x2 ∧ mI u1 17 = setF (mI u 17) (mI u 14 0).toNatClampNeg x3) ∨ (¬ noteK (mI u (mR u 2 10) 0) (mI u (mR u 2 10) 1) (mI u 14 0) x1 x2 x3 ∧ ∀ n k, 14 ≤ n → n ≤ 17 → mI u1 n k = mI u n k))) (q2 : Mo (mB ++ mJn) u1 u2 ∧ noteA (mI u1 76 10) (mI u1 76 11) (mI u1 76 28) x1 x2 x3 = a2 ∧ ((noteK (mI u1 76 10) (mI u1 76 11) (mI u1 76 28) x1 x2 x3 ∧ mI u2 76 28 = mI u1 76 28 + 1 ∧ mI u2 92 = setF (setF (setF (mI u1 92) (3 * (mI u1 76 28).toNatClampNeg) x1) (3 * (mI u1 76 28).toNatClampNeg + 1) x2) (3 * (mI u1 76 28).toNatClampNeg + 2) x3) ∨ (¬ noteK (mI u1 76 10) (mI u1 76 11) (mI u1 76 28) x1 x2 x3 ∧ mI u2 76 28 = mI u1 76 28 ∧ ∀ k, mI u2 92 k = mI u1 92 k))) : a1 = a2 ∧ RX0 u2 := by
  have d := h.di q1.1
  have e := (h.rn q1.1).2.2
  have hM1 := hM.clx q1.1
  have o := hM1.2.2.2.2.2
  obtain ⟨c1, p1, p2⟩ := q1
  obtain ⟨c2, r1, r2⟩ := q2
  rw [e.1, e.2, d.1] at p1 p2
  refine ⟨p1.symm.trans r1, h.dia hM c1 c2 ?_⟩
  rcases p2 with ⟨k, a, b, c, f⟩ | ⟨k, a⟩
  · rcases r2 with ⟨_, a', b'⟩ | ⟨k', _⟩
    · have sx : (mI u1 76 28 + 1).toNatClampNeg = (mI u1 76 28).toNatClampNeg + 1 := tn_succ (b := 100) o.1 (by have := o.2; grind)
      unfold DI
      rw [a, a', b, b', c, f, sx]
      refine ⟨rfl, fun t ht => ?_⟩
      unfold setF
      by_cases g : t = (mI u1 76 28).toNatClampNeg
      · rw [g]
        refine ⟨?_, ?_, ?_⟩
        · rw [if_pos rfl, if_neg (by omega), if_neg (by omega), if_pos rfl]
        · rw [if_pos rfl, if_neg (by omega), if_pos rfl]
        · rw [if_pos rfl, if_pos rfl]
      · have q := d.2 t (by omega)
        refine ⟨?_, ?_, ?_⟩
        · rw [if_neg g, if_neg (by omega), if_neg (by omega), if_neg (by omega)]; exact q.1
        · rw [if_neg g, if_neg (by omega), if_neg (by omega), if_neg (by omega)]; exact q.2.1
        · rw [if_neg g, if_neg (by omega), if_neg (by omega), if_neg (by omega)]; exact q.2.2
    · exact absurd k k'
  · rcases r2 with ⟨k', _⟩ | ⟨_, b, c⟩
    · exact absurd k' k
    · exact (d.fc a).fm b c
end KEEP2
/-! ===== answers that need the square's numbers alone ===== -/
theorem RX0.qb {L L' : List Nat} {u u1 u2 : pM} (h : RX0 u) (hM : InvM u) (q1 : Cl L u u1) (q2 : Mo L' u1 u2) (hL : cK L := by decide) (hL' : (81 ∉ L' ∧ 82 ∉ L') ∧ (210 ∉ L' ∧ 211 ∉ L') ∧ (78 ∉ L' ∧ 79 ∉ L') ∧ 83 ∉ L' ∧ (218 ∉ L' ∧ 219 ∉ L' ∧ 84 ∉ L') ∧ 87 ∉ L' ∧ 228 ∉ L' ∧ 92 ∉ L' := by decide) : RX0 u2 := (h.cl hM q1 hL).mo q1.1 (hM.clx q1) q2 hL'
/-! ===== answers that look ahead ===== -/
section ANS2
variable {G : pG} {u u1 u2 : pM}
theorem RX0.plm (h : RX0 u) (hM : InvM u) (z : 0 < mI u (mR u 2 10) 1) : PlK u (mR u 2 10) := h.plk hM (fun q => by
  have n := hM.n10 (s := 0) (by decide) (by rw [← h.2.1.2.2.2]; exact z)
  rw [q] at n
  exact absurd n.1 (by decide))
end ANS2
/-! ===== again, wants, beside, round, best ===== -/
section ANS3
variable {G : pG} {u u1 u2 : pM}
theorem RX0.pln (h : RX0 u) (hM : InvM u) (z : 0 < mI u (mR u 2 10) 0) : PlK u (mR u 2 10) := h.plk hM (fun q => by rw [h.2.1.2.2.1, q] at z; exact absurd z (by decide))
end ANS3
/-! ===== agree, rent, dearest, mends, worst ===== -/
section ANS4
variable {G : pG} {u u1 u2 : pM} {L : List Nat}
theorem RX0.dr8 (h : RX0 u) : ∀ s, s < (mI u (mR u 2 10) 1).toNatClampNeg → 0 ≤ mI u 8 s ∧ mI u 8 s < mI u (mR u 2 10) 0 := fun s hs => by
  rw [h.2.1.2.2.2] at hs
  rw [h.2.1.2.2.1, h.2.2.2.2.1.2.2.1 s hs]
  exact h.2.2.2.2.1.2.2.2.2.2 s hs
theorem RX0.db (h : RX0 u) (q1 : Cl L u u1) (hn : 10 ≤ mI u1 76 10 ∧ mI u1 76 10 ≤ 30) : ∀ w s, s < nN u1 → (dwM u1 (ordF u (mR u 2 10)) w s).toNatClampNeg < (mI u1 76 10).toNatClampNeg := fun w s hs => by
  have r := pws_rx (w := mI u1 76 18) (shut := mI u1 76 19) (sh := shM u1) (ord := ordF u (mR u 2 10)) hn.1 hn.2 (h.nw q1).2.2.2.2.2 w s hs
  exact tn_lt r.1 r.2
theorem n10s (hM : InvM u) {s : Nat} (hs : s < nN u) : 10 ≤ mI u 76 10 ∧ mI u 76 10 ≤ 30 := by
  have z0 : (0 : Int32).toNatClampNeg = 0 := by decide
  have em : ¬ mI u 76 11 = 0 := fun z => by unfold nN at hs; rw [z] at hs; omega
  have m0 := hM.m7.1
  exact hM.n10 (s := 0) (by decide) (by generalize mI u 76 11 = m at *; grind)
theorem pas_eq {v : pM} {x1 : Int32} (w : RW u v) (hM : InvM v) (k : 0 ≤ x1 ∧ x1 < 6) : pasV (mI u (50 + 2 * x1.toNatClampNeg) 1) (mI v 76 10) (mI u (51 + 2 * x1.toNatClampNeg)) = pasV (mI v 78 x1.toNatClampNeg) (mI v 76 10) (fun k => mI v 79 (40 * x1.toNatClampNeg + k)) := pasV_cg (w _ (rO k).2).1 (fun d hd => (w _ (rO k).2).2 d (by have := tn_le hM.n30.2; have e : (30 : Int32).toNatClampNeg = 30 := (by decide); omega))
theorem rns_eq (h : RX0 u) (q1 : Cl L u u1) (hM : InvM u) {x1 : Int32} (k : 0 ≤ x1 ∧ x1 < 6) {s : Nat} (hs : s < nN u1) (w : Nat) : rnS (mI u (51 + 2 * x1.toNatClampNeg)) (dwC u) s w = rnS (fun k => mI u1 79 (40 * x1.toNatClampNeg + k)) (dwM u1 (ordF u (mR u 2 10))) s w := by
  have hM1 := hM.clx q1
  have n10 := n10s hM1 hs
  refine rnS_cg (N := (mI u1 76 10).toNatClampNeg) (fun w' => dw_eq h q1 hM w' s hs) (fun w' => ?_) (fun d hd => ((h.rw' q1) _ (rO k).2).2 d ?_) w
  · rw [dw_eq h q1 hM w' s hs]
    exact h.db q1 n10 w' s hs
  · have := tn_le n10.2
    have e : (30 : Int32).toNatClampNeg = 30 := by decide
    omega
end ANS4
/-! ===== the four longs are alike ===== -/
def LgK (u : pM) : Prop := mL u 2 13 = mL u 76 3 ∧ mL u 2 14 = mL u 76 4
def RX (u : pM) : Prop := RX0 u ∧ LgK u
section LNGR
variable {u u1 u2 : pM} {L L' : List Nat}
theorem LgK.cl (h : LgK u) (q : Cl L u u1) (hL : cd 2 13 ∉ L ∧ cd 2 14 ∉ L ∧ cd 76 3 ∉ L ∧ cd 76 4 ∉ L) : LgK u1 := ⟨by rw [q.fp.2.1 hL.1, q.fp.2.2.2.1 hL.2.2.1]; exact h.1, by rw [q.fp.2.2.1 hL.2.1, q.fp.2.2.2.2 hL.2.2.2]; exact h.2⟩
theorem LgK.mo (h : LgK u) (q : Mo L u u1) (hL : cd 2 13 ∉ L ∧ cd 2 14 ∉ L ∧ cd 76 3 ∉ L ∧ cd 76 4 ∉ L) : LgK u1 := ⟨by rw [q.fp.2.1 hL.1, q.fp.2.2.2.1 hL.2.2.1]; exact h.1, by rw [q.fp.2.2.1 hL.2.1, q.fp.2.2.2.2 hL.2.2.2]; exact h.2⟩
theorem LgK.w {A : Prop} (h : RX u) (r : A ∧ RX0 u2) (q1 : Cl L u u1) (q2 : Mo L' u1 u2) (hL : cd 2 13 ∉ L ∧ cd 2 14 ∉ L ∧ cd 76 3 ∉ L ∧ cd 76 4 ∉ L := by decide) (hL' : cd 2 13 ∉ L' ∧ cd 2 14 ∉ L' ∧ cd 76 3 ∉ L' ∧ cd 76 4 ∉ L' := by decide) : A ∧ RX u2 := ⟨r.1, r.2, (h.2.cl q1 hL).mo q2 hL'⟩
theorem LgK.mf (h : LgK u) (q : LgF mB u u1) : LgK u1 := ⟨by rw [q.1 (by decide), q.2.2.1 (by decide)]; exact h.1, by rw [q.2.1 (by decide), q.2.2.2 (by decide)]; exact h.2⟩
theorem sqQ.monL {n : Int32} {T : Int32 → Int32} {x1 a : Int32} {F : Prop} {S S' : Int32 → List Sh5 → Prop} (h : sqQ n T x1 a F S) (k : ∀ d l, S d l → S' d l) : sqQ n T x1 a F S' := by
  rcases h with h | ⟨p, h | ⟨b, h | ⟨d, l, e, f, g⟩⟩⟩
  · exact .inl h
  · exact .inr ⟨p, .inl h⟩
  · exact .inr ⟨p, .inr ⟨b, .inl h⟩⟩
  · exact .inr ⟨p, .inr ⟨b, .inr ⟨d, l, e, f, k d l g⟩⟩⟩
theorem sqQ.lgf {n : Int32} {T : Int32 → Int32} {x1 a : Int32} {S : Int32 → List Sh5 → Prop} (h : sqQ n T x1 a (Fp mB u u1) (fun d l => S d l ∧ mRQ u1 = mRQ u)) : LgF mB u u1 := by
  rcases h with ⟨_, _, f⟩ | ⟨_, ⟨_, _, f⟩ | ⟨_, ⟨_, _, f⟩ | ⟨d, l, _, _, _, f⟩⟩⟩
  · exact f.2
  · exact f.2
  · exact f.2
  · exact (mRQ_l f).lk
theorem X_square {x1 a1 a2 : Int32} (h : RX u) (hC : InvC u) (hM : InvM u) (q1 : Cl (qB ++ qN ++ qK ++ qJ ++ qP ++ qZ) u u1 ∧ sqQ (mI u (62 + 2 * x1.toNatClampNeg) 1) (sgT (mI u (62 + 2 * x1.toNatClampNeg) 1) (mI u (63 + 2 * x1.toNatClampNeg))) x1 a1 (sqF u u1) (sqS u u1)) (q2 : Mo (mB ++ mPl ++ mNw ++ mKp ++ mJn ++ mFd) u1 u2 ∧ sqQ (mI u1 81 x1.toNatClampNeg) (TM u1 x1) x1 a2 (Fp mB u1 u2) (fun d l => smS u2 d l ∧ mRQ u2 = mRQ u1)) : a1 = a2 ∧ RX u2 := by
  have r := X0_square (u := u) (u1 := u1) (u2 := u2) (x1 := x1) (a1 := a1) (a2 := a2) h.1 hC hM q1 ⟨q2.1, q2.2.monL (fun d l g => g.1)⟩
  exact ⟨r.1, r.2, (h.2.cl q1.1 (by decide)).mf q2.2.lgf⟩
theorem RX.cl (h : RX u) (hM : InvM u) (q : Cl L u u1) (hL : cK L ∧ cd 2 13 ∉ L ∧ cd 2 14 ∉ L ∧ cd 76 3 ∉ L ∧ cd 76 4 ∉ L) : RX u1 := ⟨h.1.cl hM q hL.1, h.2.cl q hL.2⟩
theorem RX.mo (h : RX u) (hC : InvC u) (hM : InvM u) (q : Mo L u u1) (hL : ((81 ∉ L ∧ 82 ∉ L) ∧ (210 ∉ L ∧ 211 ∉ L) ∧ (78 ∉ L ∧ 79 ∉ L) ∧ 83 ∉ L ∧ (218 ∉ L ∧ 219 ∉ L ∧ 84 ∉ L) ∧ 87 ∉ L ∧ 228 ∉ L ∧ 92 ∉ L) ∧ cd 2 13 ∉ L ∧ cd 2 14 ∉ L ∧ cd 76 3 ∉ L ∧ cd 76 4 ∉ L) : RX u1 := ⟨h.1.mo hC hM q hL.1, h.2.mo q hL.2⟩
theorem RX.fault (h : RX u) (hM : InvM u) (q : Cl (qB ++ qPl (mR u 2 11)) u u1) : RX u1 := ⟨h.1.fault hM q, h.2.cl q (by
  obtain ⟨hne, ⟨h10, h11⟩, _⟩ := id h.1.2.1
  rcases h11 with z | z <;> rw [z] <;> decide)⟩
theorem X_dearest {x1 x2 : Int32} (h : RX u) (_ : InvC u) (hM : InvM u) (q1 : Cl (qB ++ qL) u u1 ∧ deaL (mI u (50 + 2 * x1.toNatClampNeg) 1) (mI u (mR u 2 10) 0) (mI u (mR u 2 10) 1) x1 x2 (mI u (51 + 2 * x1.toNatClampNeg)) (dwC u) (mL u1 2 13) (mL u1 2 14) (mL u1 2 13 = mL u 2 13 ∧ mL u1 2 14 = mL u 2 14)) (q2 : Mo (mB ++ mLg) u1 u2 ∧ deaL (mI u1 78 x1.toNatClampNeg) (mI u1 76 10) (mI u1 76 11) x1 x2 (fun k => mI u1 79 (40 * x1.toNatClampNeg + k)) (dwM u1 (ordF u (mR u 2 10))) (mL u2 76 3) (mL u2 76 4) (mL u2 76 3 = mL u1 76 3 ∧ mL u2 76 4 = mL u1 76 4)) : True ∧ RX u2 := by
  refine ⟨trivial, h.1.qb hM q1.1 q2.1, ?_⟩
  have r := (h.1.rn q1.1).2.2
  have e13 : mL u2 2 13 = mL u1 2 13 := q2.1.fp.2.1 (by decide)
  have e14 : mL u2 2 14 = mL u1 2 14 := q2.1.fp.2.2.1 (by decide)
  have f3 : mL u1 76 3 = mL u 76 3 := q1.1.fp.2.2.2.1 (by decide)
  have f4 : mL u1 76 4 = mL u 76 4 := q1.1.fp.2.2.2.2 (by decide)
  obtain ⟨c1, Q1⟩ := q1
  obtain ⟨m1, Q2⟩ := q2
  rw [r.1, r.2] at Q1
  unfold deaL at Q1 Q2
  by_cases k : deaK x1 x2
  · have ev := pas_eq (h.1.rw' c1) (hM.clx c1) k.1
    have er : ∀ s, s < (mI u1 76 11).toNatClampNeg → (fun s => rnS (mI u (51 + 2 * x1.toNatClampNeg)) (dwC u) s x2.toNatClampNeg) s = (fun s => rnS (fun k => mI u1 79 (40 * x1.toNatClampNeg + k)) (dwM u1 (ordF u (mR u 2 10))) s x2.toNatClampNeg) s := fun s hs => rns_eq h.1 c1 hM k.1 hs _
    have es := smR_cg (mI u1 76 11).toNatClampNeg er
    have ed := deF_cg (mI u1 76 11).toNatClampNeg er er
    have ep : deaP (mI u (50 + 2 * x1.toNatClampNeg) 1) (mI u1 76 10) (mI u1 76 11) x1 x2 (mI u (51 + 2 * x1.toNatClampNeg)) (dwC u) ↔ deaP (mI u1 78 x1.toNatClampNeg) (mI u1 76 10) (mI u1 76 11) x1 x2 (fun k => mI u1 79 (40 * x1.toNatClampNeg + k)) (dwM u1 (ordF u (mR u 2 10))) := by
      unfold deaP
      rw [ev, es]
    rcases Q1 with ⟨p, y⟩ | ⟨p, y⟩ <;> rcases Q2 with ⟨p', y'⟩ | ⟨p', y'⟩
    · have ld : deF (fun s => rnS (fun k => mI u1 79 (40 * x1.toNatClampNeg + k)) (dwM u1 (ordF u (mR u 2 10))) s x2.toNatClampNeg) (mI u1 76 11).toNatClampNeg < (mI u1 76 11).toNatClampNeg := by
        have mp : 0 < (mI u1 76 11).toNatClampNeg := by
          rcases Nat.eq_zero_or_pos (mI u1 76 11).toNatClampNeg with q | q
          · exact absurd (by rw [q]; rfl) p'.2.2
          · exact q
        have l := deF_lt (R := fun s => rnS (fun k => mI u1 79 (40 * x1.toNatClampNeg + k)) (dwM u1 (ordF u (mR u 2 10))) s x2.toNatClampNeg) ((mI u1 76 11).toNatClampNeg - 1)
        rw [show (mI u1 76 11).toNatClampNeg - 1 + 1 = (mI u1 76 11).toNatClampNeg by omega] at l
        omega
      rw [es, ed, rns_eq h.1 c1 hM k.1 ld x2.toNatClampNeg] at y
      have z := y.u y'
      exact ⟨by rw [e13]; exact z.1, by rw [e14]; exact z.2⟩
    · exact absurd (ep.mp p) p'
    · exact absurd (ep.mpr p') p
    · exact ⟨by rw [e13, y.1, y'.1, f3]; exact h.2.1, by rw [e14, y.2, y'.2, f4]; exact h.2.2⟩
  · rcases Q1 with ⟨p, _⟩ | ⟨_, y⟩
    · exact absurd p.1 k
    rcases Q2 with ⟨p', _⟩ | ⟨_, y'⟩
    · exact absurd p'.1 k
    exact ⟨by rw [e13, y.1, y'.1, f3]; exact h.2.1, by rw [e14, y.2, y'.2, f4]; exact h.2.2⟩
theorem X_upper {a1 a2 : Int64} (h : RX u) (_ : InvC u) (hM : InvM u) (q1 : Cl qB u u1 ∧ a1 = mL u 2 13) (q2 : Mo mB u1 u2 ∧ a2 = mL u1 76 3) : a1 = a2 ∧ RX u2 := by
  refine LgK.w h ⟨?_, h.1.qb hM q1.1 q2.1⟩ q1.1 q2.1
  rw [q1.2, q2.2, q1.1.fp.2.2.2.1 (by decide)]
  exact h.2.1
theorem X_lower {a1 a2 : Int64} (h : RX u) (_ : InvC u) (hM : InvM u) (q1 : Cl qB u u1 ∧ a1 = mL u 2 14) (q2 : Mo mB u1 u2 ∧ a2 = mL u1 76 4) : a1 = a2 ∧ RX u2 := by
  refine LgK.w h ⟨?_, h.1.qb hM q1.1 q2.1⟩ q1.1 q2.1
  rw [q1.2, q2.2, q1.1.fp.2.2.2.2 (by decide)]
  exact h.2.2
end LNGR
section WRAPL
variable {G : pG} {u u1 u2 : pM} {L : List Nat}
def X_text {x1 x2 a1 a2 : Int32} (h : RX u) (hC : InvC u) (hM : InvM u) := fun q1 q2 => LgK.w h (X0_text (u := u) (u1 := u1) (u2 := u2) (x1 := x1) (x2 := x2) (a1 := a1) (a2 := a2) h.1 hC hM q1 q2) q1.1 q2.1
def X_put {x1 x2 x3 a1 a2 : Int32} (h : RX u) (hC : InvC u) (hM : InvM u) := fun q1 q2 => LgK.w h (X0_put (u := u) (u1 := u1) (u2 := u2) (x1 := x1) (x2 := x2) (x3 := x3) (a1 := a1) (a2 := a2) h.1 hC hM q1 q2) q1.1 q2.1
def X_row {x1 x2 a1 a2 : Int32} (h : RX u) (hC : InvC u) (hM : InvM u) := fun q1 q2 => LgK.w h (X0_row (u := u) (u1 := u1) (u2 := u2) (x1 := x1) (x2 := x2) (a1 := a1) (a2 := a2) h.1 hC hM q1 q2) q1.1 q2.1
def X_lay {x1 x2 x3 a1 a2 : Int32} (h : RX u) (hC : InvC u) (hM : InvM u) := fun q1 q2 => LgK.w h (X0_lay (u := u) (u1 := u1) (u2 := u2) (x1 := x1) (x2 := x2) (x3 := x3) (a1 := a1) (a2 := a2) h.1 hC hM q1 q2) q1.1 q2.1
def X_tear {x1 a1 a2 : Int32} (h : RX u) (hC : InvC u) (hM : InvM u) := fun q1 q2 => LgK.w h (X0_tear (u := u) (u1 := u1) (u2 := u2) (x1 := x1) (a1 := a1) (a2 := a2) h.1 hC hM q1 q2) q1.1 q2.1
def X_copy {x1 x2 x3 x4 x5 a1 a2 : Int32} (h : RX u) (hC : InvC u) (hM : InvM u) := fun q1 q2 => LgK.w h (X0_copy (u := u) (u1 := u1) (u2 := u2) (x1 := x1) (x2 := x2) (x3 := x3) (x4 := x4) (x5 := x5) (a1 := a1) (a2 := a2) h.1 hC hM q1 q2) q1.1 q2.1
def X_errands {x1 x2 x3 x4 a1 a2 : Int32} (h : RX u) (hC : InvC u) (hM : InvM u) := fun q1 q2 => LgK.w h (X0_errands (u := u) (u1 := u1) (u2 := u2) (x1 := x1) (x2 := x2) (x3 := x3) (x4 := x4) (a1 := a1) (a2 := a2) h.1 hC hM q1 q2) q1.1 q2.1
def X_doors {x1 a1 a2 : Int32} (h : RX u) (hC : InvC u) (hM : InvM u) := fun q1 q2 => LgK.w h (X0_doors (u := u) (u1 := u1) (u2 := u2) (x1 := x1) (a1 := a1) (a2 := a2) h.1 hC hM q1 q2) q1.1 q2.1
def X_image {x1 a1 a2 : Int32} (h : RX u) (hC : InvC u) (hM : InvM u) := fun q1 q2 => LgK.w h (X0_image (u := u) (u1 := u1) (u2 := u2) (x1 := x1) (a1 := a1) (a2 := a2) h.1 hC hM q1 q2) q1.1 q2.1
def X_shut {x1 a1 a2 : Int32} (h : RX u) (hC : InvC u) (hM : InvM u) := fun q1 q2 => LgK.w h (X0_shut (u := u) (u1 := u1) (u2 := u2) (x1 := x1) (a1 := a1) (a2 := a2) h.1 hC hM q1 q2) q1.1 q2.1
def X_open {x1 a1 a2 : Int32} (h : RX u) (hC : InvC u) (hM : InvM u) := fun q1 q2 => LgK.w h (X0_open (u := u) (u1 := u1) (u2 := u2) (x1 := x1) (a1 := a1) (a2 := a2) h.1 hC hM q1 q2) q1.1 q2.1
def X_go {x1 a1 a2 : Int32} (h : RX u) (hC : InvC u) (hM : InvM u) := fun q1 q2 => LgK.w h (X0_go (u := u) (u1 := u1) (u2 := u2) (x1 := x1) (a1 := a1) (a2 := a2) h.1 hC hM q1 q2) q1.1 q2.1
def X_keep {x1 a1 a2 : Int32} (h : RX u) (hC : InvC u) (hM : InvM u) := fun q1 q2 => LgK.w h (X0_keep (u := u) (u1 := u1) (u2 := u2) (x1 := x1) (a1 := a1) (a2 := a2) h.1 hC hM q1 q2) q1.1 q2.1
def X_on {x1 a1 a2 : Int32} (h : RX u) (hC : InvC u) (hM : InvM u) := fun q1 q2 => LgK.w h (X0_on (u := u) (u1 := u1) (u2 := u2) (x1 := x1) (a1 := a1) (a2 := a2) h.1 hC hM q1 q2) q1.1 q2.1
def X_gone {x1 a1 a2 : Int32} (h : RX u) (hC : InvC u) (hM : InvM u) := fun q1 q2 => LgK.w h (X0_gone (u := u) (u1 := u1) (u2 := u2) (x1 := x1) (a1 := a1) (a2 := a2) h.1 hC hM q1 q2) q1.1 q2.1
def X_note {x1 x2 x3 a1 a2 : Int32} (h : RX u) (hC : InvC u) (hM : InvM u) := fun q1 q2 => LgK.w h (X0_note (u := u) (u1 := u1) (u2 := u2) (x1 := x1) (x2 := x2) (x3 := x3) (a1 := a1) (a2 := a2) h.1 hC hM q1 q2) q1.1 q2.1
def X_back {x1 a1 a2 : Int32} (h : RX u) (hC : InvC u) (hM : InvM u) := fun q1 q2 => LgK.w h (X0_back (u := u) (u1 := u1) (u2 := u2) (x1 := x1) (a1 := a1) (a2 := a2) h.1 hC hM q1 q2) q1.1 q2.1
def Y_doors {x1 : Int32} (h : RX u) (hC : InvC u) (hM : InvM u) := Y0_doors (G := G) (u := u) (x1 := x1) h.1 hC hM
def Z_doors {x1 : Int32} (h : RX u) (hM0 : InvM u) (q : Cl L u u1) (hM : InvM u1) := Z0_doors (G := G) (u := u) (u1 := u1) (L := L) (x1 := x1) h.1 hM0 q hM
def Y_image {x1 : Int32} (h : RX u) (hC : InvC u) (hM : InvM u) := Y0_image (G := G) (u := u) (x1 := x1) h.1 hC hM
def Z_image {x1 : Int32} (h : RX u) (hM0 : InvM u) (q : Cl L u u1) (hM : InvM u1) := Z0_image (G := G) (u := u) (u1 := u1) (L := L) (x1 := x1) h.1 hM0 q hM
def Y_shut {x1 : Int32} (h : RX u) (hC : InvC u) (hM : InvM u) := Y0_shut (G := G) (u := u) (x1 := x1) h.1 hC hM
def Z_shut {x1 : Int32} (h : RX u) (hM0 : InvM u) (q : Cl L u u1) (hM : InvM u1) := Z0_shut (G := G) (u := u) (u1 := u1) (L := L) (x1 := x1) h.1 hM0 q hM
def Y_open {x1 : Int32} (h : RX u) (hC : InvC u) (hM : InvM u) := Y0_open (G := G) (u := u) (x1 := x1) h.1 hC hM
def Z_open {x1 : Int32} (h : RX u) (hM0 : InvM u) (q : Cl L u u1) (hM : InvM u1) := Z0_open (G := G) (u := u) (u1 := u1) (L := L) (x1 := x1) h.1 hM0 q hM
def Y_go {x1 : Int32} (h : RX u) (hC : InvC u) (hM : InvM u) := Y0_go (G := G) (u := u) (x1 := x1) h.1 hC hM
def Z_go {x1 : Int32} (h : RX u) (hM0 : InvM u) (q : Cl L u u1) (hM : InvM u1) := Z0_go (G := G) (u := u) (u1 := u1) (L := L) (x1 := x1) h.1 hM0 q hM
def Y_keep {x1 : Int32} (h : RX u) (hC : InvC u) (hM : InvM u) := Y0_keep (G := G) (u := u) (x1 := x1) h.1 hC hM
def Z_keep {x1 : Int32} (h : RX u) (hM0 : InvM u) (q : Cl L u u1) (hM : InvM u1) := Z0_keep (G := G) (u := u) (u1 := u1) (L := L) (x1 := x1) h.1 hM0 q hM
def Y_on {x1 : Int32} (h : RX u) (hC : InvC u) (hM : InvM u) := Y0_on (G := G) (u := u) (x1 := x1) h.1 hC hM
def Z_on {x1 : Int32} (h : RX u) (hM0 : InvM u) (q : Cl L u u1) (hM : InvM u1) := Z0_on (G := G) (u := u) (u1 := u1) (L := L) (x1 := x1) h.1 hM0 q hM
def Y_gone {x1 : Int32} (h : RX u) (hC : InvC u) (hM : InvM u) := Y0_gone (G := G) (u := u) (x1 := x1) h.1 hC hM
def Z_gone {x1 : Int32} (h : RX u) (hM0 : InvM u) (q : Cl L u u1) (hM : InvM u1) := Z0_gone (G := G) (u := u) (u1 := u1) (L := L) (x1 := x1) h.1 hM0 q hM
def Y_note {x1 x2 x3 : Int32} (h : RX u) (hC : InvC u) (hM : InvM u) := Y0_note (G := G) (u := u) (x1 := x1) (x2 := x2) (x3 := x3) h.1 hC hM
def Z_note {x1 x2 x3 : Int32} (h : RX u) (hM0 : InvM u) (q : Cl L u u1) (hM : InvM u1) := Z0_note (G := G) (u := u) (u1 := u1) (L := L) (x1 := x1) (x2 := x2) (x3 := x3) h.1 hM0 q hM
def Y_back {x1 : Int32} (h : RX u) (hC : InvC u) (hM : InvM u) := Y0_back (G := G) (u := u) (x1 := x1) h.1 hC hM
def Z_back {x1 : Int32} (h : RX u) (hM0 : InvM u) (q : Cl L u u1) (hM : InvM u1) := Z0_back (G := G) (u := u) (u1 := u1) (L := L) (x1 := x1) h.1 hM0 q hM
def Y_dearest {x1 x2 : Int32} (h : RX u) (hC : InvC u) (hM : InvM u) := d_dearestL (G := G) (u := u) (x1 := x1) (x2 := x2) hC (h.1.m1 hM) (by rw [h.1.2.1.2.2.1]; exact hM.n30.2) (h.1.plm hM) h.1.dr8
def Z_dearest {x1 x2 : Int32} (h : RX u) (hM0 : InvM u) (q : Cl L u u1) (hM : InvM u1) := e_dearestL (G := G) (u := u1) (x1 := x1) (x2 := x2) hM (h.1.sq q hM0).2.2.2 (h.1.nw q).2.2.2.2.2
end WRAPL
