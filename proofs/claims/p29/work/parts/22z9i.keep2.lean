/-! ===== kept places, images, the diary ===== -/
section KEEP2
variable {G : pG} {u u1 u2 : pM}
def Y_keep {x1 : Int32} (_ : RX u) (hC : InvC u) (_ : InvM u) := d_keepy (G := G) (u := u) (x1 := x1) hC
def Z_keep {L : List Nat} {x1 : Int32} (_ : RX u) (_ : InvM u) (_ : Cl L u u1) (hM : InvM u1) := e_keepy (G := G) (u := u1) (x1 := x1) hM
theorem X_keep {x1 a1 a2 : Int32} (h : RX u) (_ : InvC u) (hM : InvM u) (q1 : Cl (qB ++ qK) u u1 ∧ keepA (mI u (mR u 2 10) 0) (mI u 7 0) x1 = a1 ∧ ((keepK (mI u (mR u 2 10) 0) x1 ∧ mI u1 (70 + 2 * x1.toNatClampNeg) 0 = mI u 7 0 ∧ mI u1 (70 + 2 * x1.toNatClampNeg) 1 = mI u 7 1 ∧ (∀ s, s < 7 → mI u1 (71 + 2 * x1.toNatClampNeg) s = mI u 8 s) ∧ ∀ n k, 70 ≤ n → n < 76 → n ≠ 70 + 2 * x1.toNatClampNeg → n ≠ 71 + 2 * x1.toNatClampNeg → mI u1 n k = mI u n k) ∨ (¬ keepK (mI u (mR u 2 10) 0) x1 ∧ ∀ n k, 70 ≤ n → n < 76 → mI u1 n k = mI u n k))) (q2 : Mo (mB ++ mKp) u1 u2 ∧ keepA (mI u1 76 10) (mI u1 76 18) x1 = a2 ∧ ((keepK (mI u1 76 10) x1 ∧ mI u2 87 (10 * x1.toNatClampNeg) = mI u1 76 18 ∧ mI u2 87 (10 * x1.toNatClampNeg + 1) = mI u1 76 19 ∧ (∀ s, s < (mI u1 76 11).toNatClampNeg → mI u2 87 (10 * x1.toNatClampNeg + 2 + s) = mI u1 84 s) ∧ ∀ j, (j < 10 * x1.toNatClampNeg ∨ 10 * x1.toNatClampNeg + 10 ≤ j) → mI u2 87 j = mI u1 87 j) ∨ (¬ keepK (mI u1 76 10) x1 ∧ ∀ j, mI u2 87 j = mI u1 87 j))) : a1 = a2 ∧ RX u2 := by
  have e := (h.rn q1.1).2.2
  have w := h.nw q1.1
  have hM1 := hM.clx q1.1
  have m7 : nN u1 ≤ 7 := m7N hM1
  obtain ⟨c1, p1, p2⟩ := q1
  obtain ⟨c2, r1, r2⟩ := q2
  have en : mI u2 76 10 = mI u1 76 10 ∧ nN u2 = nN u1 := nm_n c2 (by decide)
  rw [e.1, w.1] at p1
  rw [e.1] at p2
  refine ⟨p1.symm.trans r1, RX.st c2 c2.1 (tRT h c1 c2) (tRN h c1 c2) (tRW h c1 c2) (tSQ h c1 c2 hM) (tNW h c1 c2) ?_ (tDI h c1 c2)⟩
  rcases p2 with ⟨k, a0, a1', ad, ao⟩ | ⟨k, a⟩
  · rcases r2 with ⟨_, b0, b1, bd, bo⟩ | ⟨k', _⟩
    · intro t ht
      rw [en.1, en.2]
      have x3 := (kO k.1).2
      by_cases g : t = x1.toNatClampNeg
      · rw [g]
        refine .inr ⟨by rw [a0, b0]; exact w.1, by rw [a1', b1]; exact w.2.1, fun s hs => by rw [ad s (by omega), bd s hs]; exact w.2.2.1 s hs, ?_⟩
        have q := w.2.2.2
        unfold stK at *
        rw [b0, b1]
        exact ⟨q.1, q.2.1, fun i hi => by show 0 ≤ mI u2 87 (10 * x1.toNatClampNeg + 2 + i) ∧ mI u2 87 (10 * x1.toNatClampNeg + 2 + i) < _; rw [bd i hi]; exact q.2.2 i hi⟩
      · have o := h.kp c1 t ht
        have e0 : ∀ k, mI u1 (70 + 2 * t) k = mI u (70 + 2 * t) k := fun k => ao _ _ (by omega) (by omega) (by omega) (by omega)
        have e1 : ∀ k, mI u1 (71 + 2 * t) k = mI u (71 + 2 * t) k := fun k => ao _ _ (by omega) (by omega) (by omega) (by omega)
        have f0 : mI u2 87 (10 * t) = mI u1 87 (10 * t) := bo _ (by omega)
        have f1 : mI u2 87 (10 * t + 1) = mI u1 87 (10 * t + 1) := bo _ (by omega)
        have fd : ∀ s, s < nN u1 → mI u2 87 (10 * t + 2 + s) = mI u1 87 (10 * t + 2 + s) := fun s hs => bo _ (by omega)
        rw [e0, e0, f0, f1]
        rcases o with o | o
        · exact .inl o
        · refine .inr ⟨o.1, o.2.1, fun s hs => by rw [e1, fd s hs]; exact o.2.2.1 s hs, ?_⟩
          have q := o.2.2.2
          unfold stK at *
          exact ⟨q.1, q.2.1, fun i hi => by show 0 ≤ mI u2 87 (10 * t + 2 + i) ∧ mI u2 87 (10 * t + 2 + i) < _; rw [fd i hi]; exact q.2.2 i hi⟩
    · exact absurd k k'
  · rcases r2 with ⟨k', _⟩ | ⟨_, b⟩
    · exact absurd k' k
    · exact ((h.kp c1).fc (fun n k x y => a n k x y)).fm en.1 (by have := c2.fp; exact fpF c2.fp (by decide) (by decide)) b
def Y_on {x1 : Int32} (_ : RX u) (hC : InvC u) (_ : InvM u) := d_ony (G := G) (u := u) (x1 := x1) hC
def Z_on {L : List Nat} {x1 : Int32} (_ : RX u) (_ : InvM u) (_ : Cl L u u1) (hM : InvM u1) := e_ony (G := G) (u := u1) (x1 := x1) hM
theorem X_on {x1 a1 a2 : Int32} (h : RX u) (_ : InvC u) (hM : InvM u) (q1 : Cl (qB ++ qN) u u1 ∧ ((((0 ≤ x1 ∧ x1 < 3) ∧ ¬ mI u (70 + 2 * x1.toNatClampNeg) 0 = -1) ∧ a1 = mI u (70 + 2 * x1.toNatClampNeg) 0 ∧ mI u1 7 0 = mI u (70 + 2 * x1.toNatClampNeg) 0 ∧ mI u1 7 1 = mI u (70 + 2 * x1.toNatClampNeg) 1 ∧ ∀ s, s < 7 → mI u1 8 s = mI u (71 + 2 * x1.toNatClampNeg) s) ∨ (¬ ((0 ≤ x1 ∧ x1 < 3) ∧ ¬ mI u (70 + 2 * x1.toNatClampNeg) 0 = -1) ∧ a1 = (if 0 ≤ x1 ∧ x1 < 3 then -3 else -1) ∧ nwS u u1 (mI u 7 1)))) (q2 : Mo (mB ++ mNw) u1 u2 ∧ ((((0 ≤ x1 ∧ x1 < 3) ∧ ¬ mI u1 87 (10 * x1.toNatClampNeg) = -9) ∧ a2 = mI u1 87 (10 * x1.toNatClampNeg) ∧ mI u2 76 18 = mI u1 87 (10 * x1.toNatClampNeg) ∧ mI u2 76 19 = mI u1 87 (10 * x1.toNatClampNeg + 1) ∧ ∀ s, s < (mI u1 76 11).toNatClampNeg → mI u2 84 s = mI u1 87 (10 * x1.toNatClampNeg + 2 + s)) ∨ (¬ ((0 ≤ x1 ∧ x1 < 3) ∧ ¬ mI u1 87 (10 * x1.toNatClampNeg) = -9) ∧ a2 = (if 0 ≤ x1 ∧ x1 < 3 then -3 else -1) ∧ nmS u1 u2 (mI u1 76 19)))) : a1 = a2 ∧ RX u2 := by
  have w := h.nw q1.1
  have hM1 := hM.clx q1.1
  have m7 : nN u1 ≤ 7 := m7N hM1
  obtain ⟨c1, p⟩ := q1
  obtain ⟨c2, r⟩ := q2
  have en : mI u2 76 10 = mI u1 76 10 ∧ nN u2 = nN u1 := nm_n c2 (by decide)
  have kp := h.kp c1
  have same : (0 ≤ x1 ∧ x1 < 3) → (¬ mI u (70 + 2 * x1.toNatClampNeg) 0 = -1 ↔ ¬ mI u1 87 (10 * x1.toNatClampNeg) = -9) := fun a => by
    rcases kp _ (kO a).2 with o | o
    · exact ⟨fun z => absurd o.1 z, fun z => absurd o.2 z⟩
    · have q := o.2.2.2.1
      refine ⟨fun _ z => ?_, fun _ z => ?_⟩
      · rw [z] at q; exact absurd q.1 (by decide)
      · rw [← o.1, z] at q; exact absurd q.1 (by decide)
  rcases p with ⟨k, ea, a0, a1', ad⟩ | ⟨k, ea, a⟩
  · rcases r with ⟨k', eb, b0, b1, bd⟩ | ⟨k', _⟩
    · rcases kp _ (kO k.1).2 with o | o
      · exact absurd o.1 k.2
      · refine ⟨by rw [ea, eb]; exact o.1, h.now hM c1 c2 ?_⟩
        have q := o.2.2.2
        unfold NoW stK at *
        rw [en.1, en.2, a0, b0, a1', b1]
        exact ⟨o.1, o.2.1, fun s hs => by rw [ad s (by omega), bd s hs]; exact o.2.2.1 s hs, q.1, q.2.1, fun i hi => by rw [bd i hi]; exact q.2.2 i hi⟩
    · exact absurd ⟨k.1, (same k.1).mp k.2⟩ k'
  · rcases r with ⟨k', _⟩ | ⟨_, eb, b⟩
    · exact absurd ⟨k'.1, (same k'.1).mpr k'.2⟩ k
    · rw [w.2.1] at a
      exact ⟨by rw [ea, eb], h.now hM c1 c2 (w.S a b en w.2.2.2.2.1)⟩
def Y_gone {x1 : Int32} (h : RX u) (hC : InvC u) (hM : InvM u) := d_goney (G := G) (u := u) (x1 := x1) hC (h.m1 hM)
def Z_gone {L : List Nat} {x1 : Int32} (_ : RX u) (_ : InvM u) (_ : Cl L u u1) (hM : InvM u1) := e_goney (G := G) (u := u1) (x1 := x1) hM
theorem X_gone {x1 a1 a2 : Int32} (h : RX u) (_ : InvC u) (hM : InvM u) (q1 : Cl (qB ++ qN) u u1 ∧ ((gonK (mI u (mR u 2 10) 0) (mI u (mR u 2 10) 1) (mI u (50 + 2 * x1.toNatClampNeg) 1) x1 (mI u (51 + 2 * x1.toNatClampNeg)) ∧ a1 = mI u (51 + 2 * x1.toNatClampNeg) 0 ∧ mI u1 7 0 = mI u (51 + 2 * x1.toNatClampNeg) 0 ∧ mI u1 7 1 = mI u (51 + 2 * x1.toNatClampNeg) 1 ∧ ∀ s, s < (mI u (mR u 2 10) 1).toNatClampNeg → mI u1 8 s = mI u (51 + 2 * x1.toNatClampNeg) (2 + s)) ∨ (¬ gonK (mI u (mR u 2 10) 0) (mI u (mR u 2 10) 1) (mI u (50 + 2 * x1.toNatClampNeg) 1) x1 (mI u (51 + 2 * x1.toNatClampNeg)) ∧ a1 = (if 0 ≤ x1 ∧ x1 < 6 then (if 0 < mI u (mR u 2 10) 0 then -3 else -4) else -1) ∧ nwS u u1 (mI u 7 1)))) (q2 : Mo (mB ++ mNw) u1 u2 ∧ ((gonK (mI u1 76 10) (mI u1 76 11) (mI u1 78 x1.toNatClampNeg) x1 (fun k => mI u1 79 (40 * x1.toNatClampNeg + k)) ∧ a2 = mI u1 79 (40 * x1.toNatClampNeg) ∧ mI u2 76 18 = mI u1 79 (40 * x1.toNatClampNeg) ∧ mI u2 76 19 = mI u1 79 (40 * x1.toNatClampNeg + 1) ∧ ∀ s, s < (mI u1 76 11).toNatClampNeg → mI u2 84 s = mI u1 79 (40 * x1.toNatClampNeg + (2 + s))) ∨ (¬ gonK (mI u1 76 10) (mI u1 76 11) (mI u1 78 x1.toNatClampNeg) x1 (fun k => mI u1 79 (40 * x1.toNatClampNeg + k)) ∧ a2 = (if 0 ≤ x1 ∧ x1 < 6 then (if 0 < mI u1 76 10 then -3 else -4) else -1) ∧ nmS u1 u2 (mI u1 76 19)))) : a1 = a2 ∧ RX u2 := by
  have e := (h.rn q1.1).2.2
  have w := h.nw q1.1
  have hM1 := hM.clx q1.1
  have m7 : nN u1 ≤ 7 := m7N hM1
  have n30 := hM1.n30
  have m := hM1.m7
  have rw_ := h.rw' q1.1
  obtain ⟨c1, p⟩ := q1
  obtain ⟨c2, r⟩ := q2
  rw [e.1, e.2] at p
  have en : mI u2 76 10 = mI u1 76 10 ∧ nN u2 = nN u1 := nm_n c2 (by decide)
  have same : gonK (mI u1 76 10) (mI u1 76 11) (mI u (50 + 2 * x1.toNatClampNeg) 1) x1 (mI u (51 + 2 * x1.toNatClampNeg)) ↔ gonK (mI u1 76 10) (mI u1 76 11) (mI u1 78 x1.toNatClampNeg) x1 (fun k => mI u1 79 (40 * x1.toNatClampNeg + k)) := by
    constructor
    · intro k
      have o := rw_ _ (rO k.1).2
      refine ⟨k.1, k.2.1, ?_, k.2.2.2.cg m7 (fun t ht => o.2 t ht)⟩
      rcases o.1 with z | z
      · have := z.1; rw [k.2.2.1] at this; exact absurd this (Int32.not_lt.mpr (by grind))
      · rw [← z.2]; exact k.2.2.1
    · intro k
      have o := rw_ _ (rO k.1).2
      refine ⟨k.1, k.2.1, ?_, k.2.2.2.cg m7 (fun t ht => (o.2 t ht).symm)⟩
      rcases o.1 with z | z
      · have := z.2; rw [k.2.2.1] at this; exact absurd this (Int32.not_lt.mpr (by grind))
      · rw [z.2]; exact k.2.2.1
  rcases p with ⟨k, ea, a0, a1', ad⟩ | ⟨k, ea, a⟩
  · rcases r with ⟨k', eb, b0, b1, bd⟩ | ⟨k', _⟩
    · have o := (rw_ _ (rO k.1).2).2
      have im := k'.2.2.2
      refine ⟨by rw [ea, eb]; exact o 0 (by decide), h.now hM c1 c2 ?_⟩
      unfold NoW stK
      rw [en.1, en.2, a0, b0, a1', b1]
      exact ⟨o 0 (by decide), o 1 (by decide), fun s hs => by rw [ad s hs, bd s hs]; exact o _ (by omega), im.1, bn_set n30 im.2.1, fun i hi => by rw [bd i hi]; exact im.2.2.2.1 i hi⟩
    · exact absurd (same.mp k) k'
  · rcases r with ⟨k', _⟩ | ⟨_, eb, b⟩
    · exact absurd (same.mpr k') k
    · rw [w.2.1] at a
      exact ⟨by rw [ea, eb], h.now hM c1 c2 (w.S a b en w.2.2.2.2.1)⟩
/-! the diary -/
theorem RX.dia (h : RX u) (hM : InvM u) (q1 : Cl (qB ++ qJ) u u1) (q2 : Mo (mB ++ mJn) u1 u2) (d : DI u1 u2) : RX u2 := RX.st q2 q2.1 (tRT h q1 q2) (tRN h q1 q2) (tRW h q1 q2) (tSQ h q1 q2 hM) (tNW h q1 q2) (tKP h q1 q2) d
def Y_back {x1 : Int32} (_ : RX u) (hC : InvC u) (_ : InvM u) := d_backy (G := G) (u := u) (x1 := x1) hC
def Z_back {L : List Nat} {x1 : Int32} (_ : RX u) (_ : InvM u) (_ : Cl L u u1) (hM : InvM u1) := e_backy (G := G) (u := u1) (x1 := x1) hM
theorem X_back {x1 a1 a2 : Int32} (h : RX u) (_ : InvC u) (hM : InvM u) (q1 : Cl (qB ++ qJ) u u1 ∧ (backA (mI u 14 0) x1).1 = a1 ∧ mI u1 14 0 = (backA (mI u 14 0) x1).2 ∧ ∀ n k, 15 ≤ n → n ≤ 17 → mI u1 n k = mI u n k) (q2 : Mo (mB ++ mJn) u1 u2 ∧ (backA (mI u1 76 28) x1).1 = a2 ∧ mI u2 76 28 = (backA (mI u1 76 28) x1).2 ∧ ∀ k, mI u2 92 k = mI u1 92 k) : a1 = a2 ∧ RX u2 := by
  have d := h.di q1.1
  obtain ⟨c1, p1, p2, p3⟩ := q1
  obtain ⟨c2, r1, r2, r3⟩ := q2
  rw [d.1] at p1 p2
  refine ⟨p1.symm.trans r1, h.dia hM c1 c2 ?_⟩
  have le : (backA (mI u1 76 28) x1).2 ≤ mI u1 76 28 := by
    unfold backA
    split
    · rename_i z; exact z.2
    · exact Int32.le_refl _
  unfold DI
  rw [p2, r2]
  refine ⟨rfl, fun e he => ?_⟩
  have l := tn_le le
  rw [p3 15 _ (by decide) (by decide), p3 16 _ (by decide) (by decide), p3 17 _ (by decide) (by decide), r3, r3, r3]
  exact d.2 e (by omega)
def Y_note {x1 x2 x3 : Int32} (h : RX u) (hC : InvC u) (hM : InvM u) := d_notey (G := G) (u := u) (x1 := x1) (x2 := x2) (x3 := x3) hC (by rw [h.2.2.2.2.2.2.1]; exact hM.2.2.2.2.2.1) (h.m1 hM).2
def Z_note {L : List Nat} {x1 x2 x3 : Int32} (_ : RX u) (_ : InvM u) (_ : Cl L u u1) (hM : InvM u1) := e_notey (G := G) (u := u1) (x1 := x1) (x2 := x2) (x3 := x3) hM
theorem X_note {x1 x2 x3 a1 a2 : Int32} (h : RX u) (_ : InvC u) (hM : InvM u) (q1 : Cl (qB ++ qJ) u u1 ∧ noteA (mI u (mR u 2 10) 0) (mI u (mR u 2 10) 1) (mI u 14 0) x1 x2 x3 = a1 ∧ ((noteK (mI u (mR u 2 10) 0) (mI u (mR u 2 10) 1) (mI u 14 0) x1 x2 x3 ∧ mI u1 14 0 = mI u 14 0 + 1 ∧ mI u1 15 = setF (mI u 15) (mI u 14 0).toNatClampNeg x1 ∧ mI u1 16 = setF (mI u 16) (mI u 14 0).toNatClampNeg x2 ∧ mI u1 17 = setF (mI u 17) (mI u 14 0).toNatClampNeg x3) ∨ (¬ noteK (mI u (mR u 2 10) 0) (mI u (mR u 2 10) 1) (mI u 14 0) x1 x2 x3 ∧ ∀ n k, 14 ≤ n → n ≤ 17 → mI u1 n k = mI u n k))) (q2 : Mo (mB ++ mJn) u1 u2 ∧ noteA (mI u1 76 10) (mI u1 76 11) (mI u1 76 28) x1 x2 x3 = a2 ∧ ((noteK (mI u1 76 10) (mI u1 76 11) (mI u1 76 28) x1 x2 x3 ∧ mI u2 76 28 = mI u1 76 28 + 1 ∧ mI u2 92 = setF (setF (setF (mI u1 92) (3 * (mI u1 76 28).toNatClampNeg) x1) (3 * (mI u1 76 28).toNatClampNeg + 1) x2) (3 * (mI u1 76 28).toNatClampNeg + 2) x3) ∨ (¬ noteK (mI u1 76 10) (mI u1 76 11) (mI u1 76 28) x1 x2 x3 ∧ mI u2 76 28 = mI u1 76 28 ∧ ∀ k, mI u2 92 k = mI u1 92 k))) : a1 = a2 ∧ RX u2 := by
  have d := h.di q1.1
  have e := (h.rn q1.1).2.2
  have hM1 := hM.clx q1.1
  have o := hM1.2.2.2.2.2
  obtain ⟨c1, p1, p2⟩ := q1
  obtain ⟨c2, r1, r2⟩ := q2
  rw [e.1, e.2, d.1] at p1 p2
  refine ⟨p1.symm.trans r1, h.dia hM c1 c2 ?_⟩
  rcases p2 with ⟨k, a, b, c, f⟩ | ⟨k, a⟩
  · rcases r2 with ⟨_, a', b'⟩ | ⟨k', _⟩
    · have sx : (mI u1 76 28 + 1).toNatClampNeg = (mI u1 76 28).toNatClampNeg + 1 := tn_succ (b := 100) o.1 (by have := o.2; grind)
      unfold DI
      rw [a, a', b, b', c, f, sx]
      refine ⟨rfl, fun t ht => ?_⟩
      unfold setF
      by_cases g : t = (mI u1 76 28).toNatClampNeg
      · rw [g]
        refine ⟨?_, ?_, ?_⟩
        · rw [if_pos rfl, if_neg (by omega), if_neg (by omega), if_pos rfl]
        · rw [if_pos rfl, if_neg (by omega), if_pos rfl]
        · rw [if_pos rfl, if_pos rfl]
      · have q := d.2 t (by omega)
        refine ⟨?_, ?_, ?_⟩
        · rw [if_neg g, if_neg (by omega), if_neg (by omega), if_neg (by omega)]; exact q.1
        · rw [if_neg g, if_neg (by omega), if_neg (by omega), if_neg (by omega)]; exact q.2.1
        · rw [if_neg g, if_neg (by omega), if_neg (by omega), if_neg (by omega)]; exact q.2.2
    · exact absurd k k'
  · rcases r2 with ⟨k', _⟩ | ⟨_, b, c⟩
    · exact absurd k' k
    · exact (d.fc a).fm b c
end KEEP2
