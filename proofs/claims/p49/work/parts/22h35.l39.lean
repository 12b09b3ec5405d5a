/-! ===== dearest, with what upper and lower are then ===== -/
theorem mLx_eq {u : pM} {n k : Nat} {v : Int64} : mL (pL u n k v) n k = v := by show up2 (mL u) n k v n k = _; simp [up2]
theorem mLx_nk {u : pM} {n b k : Nat} {v : Int64} (h : b ≠ k) : mL (pL u n k v) n b = mL u n b := by show up2 (mL u) n k v n b = _; simp [up2, h]
theorem lgzx (y : Int64) : lg_cmp y 0 = 0 ↔ y = 0 := by
  unfold lg_cmp
  by_cases a : y > 0
  · rw [if_pos a]; exact ⟨fun z => absurd z (by decide), fun z => by rw [z] at a; exact absurd a (by decide)⟩
  · rw [if_neg a]
    by_cases b : y = 0
    · rw [if_pos b]; exact ⟨fun _ => b, fun _ => rfl⟩
    · rw [if_neg b]; exact ⟨fun z => absurd z (by decide), fun z => absurd z b⟩
theorem lgpx {y : Int64} (h : 0 < y.toInt) : ¬ lg_cmp y 0 ≤ 0 := by
  have p : y > 0 := Int64.lt_iff_toInt_lt.mpr (by have d0 : (0 : Int64).toInt = 0 := (by decide); omega)
  unfold lg_cmp
  rw [if_pos p]
  decide
def frV (a b p q : Int64) : Prop := ∃ g : Int64, g.toInt = ((Nat.gcd a.toInt.natAbs b.toInt.natAbs : Nat) : Int) ∧ p = a / g ∧ q = b / g
theorem frV.u {a b p q p' q' : Int64} (h : frV a b p q) (h' : frV a b p' q') : p = p' ∧ q = q' := by
  obtain ⟨g, e, e1, e2⟩ := h
  obtain ⟨g', e', e1', e2'⟩ := h'
  have z : g = g' := Int64.toInt_inj.mp (e.trans e'.symm)
  rw [e1, e2, e1', e2', z]
  exact ⟨rfl, rfl⟩
def deaP (sz n m x1 x2 : Int32) (f : Nat → Int32) (dw : Nat → Nat → Int32) : Prop := deaK x1 x2 ∧ pasV sz n f = 0 ∧ ¬ smR (fun s => rnS f dw s x2.toNatClampNeg) m.toNatClampNeg = 0
def deaL (sz n m x1 x2 : Int32) (f : Nat → Int32) (dw : Nat → Nat → Int32) (p q : Int64) (K : Prop) : Prop := (deaP sz n m x1 x2 f dw ∧ frV (rnS f dw (deF (fun s => rnS f dw s x2.toNatClampNeg) m.toNatClampNeg) x2.toNatClampNeg).toInt64 (smR (fun s => rnS f dw s x2.toNatClampNeg) m.toNatClampNeg).toInt64 p q) ∨ (¬ deaP sz n m x1 x2 f dw ∧ K)
theorem smR_b {R : Nat → Int32} : ∀ m, m ≤ 7 → (∀ s, s < m → 0 ≤ (R s).toInt ∧ (R s).toInt ≤ 5940) → 0 ≤ (smR R m).toInt ∧ (smR R m).toInt ≤ 5940 * m
  | 0, _, _ => by
    have d0 : (0 : Int32).toInt = 0 := by decide
    show 0 ≤ (0 : Int32).toInt ∧ (0 : Int32).toInt ≤ 5940 * (0 : Nat)
    omega
  | m + 1, h7, h => by
    have a := smR_b m (by omega) (fun s hs => h s (by omega))
    have b := h m (by omega)
    rw [smR, Int32.toInt_add, Int.bmod_eq_of_le (by omega) (by omega)]
    omega
theorem sm_b {R : Nat → Int32} {m : Nat} (h7 : m ≤ 7) (hb : ∀ s, s < m → 0 ≤ (R s).toInt ∧ (R s).toInt ≤ 5940) (d : ¬ smR R m = 0) : (0 ≤ (R (deF R m)).toInt64.toInt ∧ (R (deF R m)).toInt64.toInt < 65536) ∧ 0 < (smR R m).toInt64.toInt ∧ (smR R m).toInt64.toInt < 65536 := by
  have d0 : (0 : Int32).toInt = 0 := by decide
  have mp : 0 < m := by
    rcases Nat.eq_zero_or_pos m with q | q
    · rw [q] at d; exact absurd rfl d
    · exact q
  have l := deF_lt (R := R) (m - 1)
  rw [show m - 1 + 1 = m by omega] at l
  have a := hb (deF R m) (by omega)
  have s := smR_b m h7 hb
  have n0 : ¬ (smR R m).toInt = 0 := fun q => d (Int32.toInt_inj.mp (q.trans d0.symm))
  rw [Int32.toInt_toInt64, Int32.toInt_toInt64]
  omega
section LNG
variable {G : pG} {u v : pM} {Q : Option Value → pM → Prop} {L L' : List Nat}
theorem mL_dF {f : Int32} {n k : Nat} : mL (dF u f) n k = mL u n k := by
  unfold dF
  split <;> rfl
theorem mL_mt {f : Int32} {n k : Nat} : mL (mt u f) n k = mL u n k := rfl
theorem Cq.lift (h : Cq L u v) (hL : ∀ x ∈ L, x ∈ L') : Cq L' u v := ⟨h.1, h.2.1, h.2.2.mono hL⟩
theorem FRc.l4 (h : FRc u v) : mL v 2 13 = mL u 2 13 ∧ mL v 2 14 = mL u 2 14 := ⟨h.1.2.2.2.1 (by decide), h.1.2.2.2.2.1 (by decide)⟩
theorem Mq.l4 (h : Mq mB u v) : mL v 76 3 = mL u 76 3 ∧ mL v 76 4 = mL u 76 4 := ⟨h.2.2.1.2.2.2.1 (by decide), h.2.2.1.2.2.2.2 (by decide)⟩
theorem c_gcdL {x0 x2 : Int64} {g : Nat} (h0 : 0 ≤ x0.toInt ∧ x0.toInt < 65536) (h2 : 0 < x2.toInt ∧ x2.toInt < 65536) (hg : Nat.gcd x0.toInt.natAbs x2.toInt.natAbs = g) : Ws G D_greatestCommon 0 [(0, .long x0), (2, .long x2)] [] u (RJ fun a u' => u = u' ∧ a.toInt = (g : Int)) := by
  have d0 : (0 : Int64).toInt = 0 := by decide
  have i0 : (0 : Int32).toInt = 0 := by decide
  have i1 : (1 : Int32).toInt = 1 := by decide
  have i8 : (128 : Int32).toInt = 128 := by decide
  have fin : ∀ x y : Int64, 0 ≤ x.toInt → y = 0 → Nat.gcd x.toInt.natAbs y.toInt.natAbs = g → x.toInt = (g : Int) := fun x y hx y0 e => by
    rw [y0, d0, Int.natAbs_zero, Nat.gcd_zero_right] at e
    omega
  have half : ∀ a b : Nat, 0 < b → b ≤ a → 2 * (a % b) ≤ a := fun a b b0 ba => by
    have l := Nat.mod_lt a b0
    have e := Nat.div_add_mod a b
    have q : 1 ≤ a / b := (Nat.le_div_iff_mul_le b0).mpr (by omega)
    have : b * 1 ≤ b * (a / b) := Nat.mul_le_mul_left b q
    omega
  have key : ∀ (k : Nat) (x y : Int64) (i : Int32), y.toInt.natAbs * x.toInt.natAbs < 2 ^ k → 0 ≤ y.toInt → y.toInt ≤ x.toInt → 0 ≤ i.toInt → i.toInt + k ≤ 100 → Nat.gcd x.toInt.natAbs y.toInt.natAbs = g → Ws G D_greatestCommon 15 [(4, .long x), (6, .long y), (8, .int i)] [] u (RJ fun a u' => u = u' ∧ a.toInt = (g : Int)) := by
    intro k
    induction k with
    | zero =>
      intro x y i hp hy hyx hi hik e
      have y0 : y = 0 := Int64.toInt_inj.mp (by
        rcases Nat.mul_eq_zero.mp (show y.toInt.natAbs * x.toInt.natAbs = 0 by omega) with q | q <;> omega)
      exact sg_D_greatestCommon_15 ⟨fun _ => ⟨_, rfl, rfl, fin x y (by omega) y0 e⟩, fun _ => ⟨fun _ => ⟨_, rfl, rfl, fin x y (by omega) y0 e⟩, fun z => absurd ((lgzx y).mpr y0) z⟩⟩
    | succ k ih =>
      intro x y i hp hy hyx hi hik e
      refine sg_D_greatestCommon_15 ⟨fun c => ?_, fun _ => ⟨fun z => ⟨_, rfl, rfl, fin x y (by omega) ((lgzx y).mp z) e⟩, fun z => ?_⟩⟩
      · have l := Int32.le_iff_toInt_le.mp c
        omega
      · have z2 : ¬ y = 0 := fun q => z ((lgzx y).mpr q)
        have hk : ¬ y.toInt = 0 := fun q => z2 (Int64.toInt_inj.mp (by omega))
        have em := rmL_toInt (x := x) z2
        have ei : (i + 1).toInt = i.toInt + 1 := by
          rw [Int32.toInt_add, i1, Int.bmod_eq_of_le (by omega) (by omega)]
        have lt := Nat.mod_lt x.toInt.natAbs (y := y.toInt.natAbs) (by omega)
        have hf := half x.toInt.natAbs y.toInt.natAbs (by omega) (by omega)
        have e1 := Int.natAbs_tmod x.toInt y.toInt
        obtain ⟨r, hr⟩ : ∃ r, x.toInt.natAbs % y.toInt.natAbs = r := ⟨_, rfl⟩
        rw [hr] at lt hf e1
        have en : (x - x / y * y).toInt = ((r : Nat) : Int) := by
          rw [em]
          have e2 := Int.tmod_nonneg y.toInt (show 0 ≤ x.toInt by omega)
          omega
        refine ⟨z2, ih _ _ _ ?_ (by omega) (by omega) (by omega) (by omega) ?_⟩
        · rw [en, Int.natAbs_natCast]
          have hm := Nat.mul_le_mul_left y.toInt.natAbs hf
          rw [show y.toInt.natAbs * (2 * r) = 2 * (r * y.toInt.natAbs) by rw [Nat.mul_comm r, Nat.mul_left_comm]] at hm
          rw [Nat.pow_succ] at hp
          omega
        · rw [em, Int.natAbs_tmod, Nat.gcd_comm, ← Nat.gcd_rec, Nat.gcd_comm]; exact e
  refine sg_D_greatestCommon_0 ?_
  have e0 : (if 0 < x0 then x0 else -x0) = x0 := by
    by_cases c : 0 < x0
    · exact if_pos c
    · have l := Int64.le_iff_toInt_le.mp (Int64.not_lt.mp c)
      have z : x0 = 0 := Int64.toInt_inj.mp (by omega)
      rw [z]
      decide +kernel
  have e2 : (if 0 < x2 then x2 else -x2) = x2 := if_pos (Int64.lt_iff_toInt_lt.mpr (by omega))
  rw [e0, e2]
  have z2 : ¬ x2 = 0 := fun q => by rw [q, d0] at h2; omega
  refine sg_D_greatestCommon_15 ⟨fun c => absurd c (by decide), fun _ => ⟨fun z => absurd ((lgzx x2).mp z) z2, fun _ => ⟨z2, ?_⟩⟩⟩
  have em := rmL_toInt (x := x0) z2
  have lt := Nat.mod_lt x0.toInt.natAbs (y := x2.toInt.natAbs) (by omega)
  have e1 := Int.natAbs_tmod x0.toInt x2.toInt
  obtain ⟨r, hr⟩ : ∃ r, x0.toInt.natAbs % x2.toInt.natAbs = r := ⟨_, rfl⟩
  rw [hr] at lt e1
  have en : (x0 - x0 / x2 * x2).toInt = ((r : Nat) : Int) := by
    rw [em]
    have e2 := Int.tmod_nonneg x2.toInt h0.1
    omega
  refine key 32 _ _ _ ?_ (by omega) (by omega) (by decide +kernel) (by decide +kernel) ?_
  · rw [en, Int.natAbs_natCast]
    have a1 : r ≤ 65535 := by omega
    have a2 : x2.toInt.natAbs ≤ 65535 := by omega
    have := Nat.mul_le_mul a1 a2
    omega
  · rw [em, Int.natAbs_tmod, Nat.gcd_comm, ← Nat.gcd_rec, Nat.gcd_comm]; exact hg
theorem h_tellL {x1 x3 : Int64} (h1 : 0 ≤ x1.toInt ∧ x1.toInt < 65536) (h3 : 0 < x3.toInt ∧ x3.toInt < 65536) : Ws G D_tellFraction 0 [(0, .ref 2), (1, .long x1), (3, .long x3)] [] u (RV fun u' => Cq (qB ++ qL) u u' ∧ frV x1 x3 (mL u' 2 13) (mL u' 2 14)) := by
  have d0 : (0 : Int64).toInt = 0 := by decide
  have gp : 0 < Nat.gcd x1.toInt.natAbs x3.toInt.natAbs := Nat.gcd_pos_of_pos_right _ (by omega)
  refine sg_D_tellFraction_0 (kJ (c_gcdL h1 h3 rfl) (fun a w h => ?_))
  obtain ⟨rfl, e⟩ := h
  have nz : ¬ a = 0 := fun z => by rw [z, d0] at e; omega
  refine ⟨fun c => absurd c (lgpx (by omega)), fun _ => ⟨nz, nz, rfl, (Cq.rf.pL (by decide)).pL (by decide), a, e, by rw [mLx_nk (by decide), mLx_eq], by rw [mLx_eq]⟩⟩
theorem e_partL {x1 x3 : Int64} {x5 : Int32} (h1 : 0 ≤ x1.toInt) (h3 : 0 < x3.toInt) : Ws G m_part 0 [(0, .ref 76), (1, .long x1), (3, .long x3), (5, .int x5)] [] u (RI fun _ u' => Mq (mB ++ mLg) u u' ∧ frV x1 x3 (mL u' 76 3) (mL u' 76 4)) := by
  have d0 : (0 : Int64).toInt = 0 := by decide
  obtain ⟨g, hg⟩ : ∃ g, Nat.gcd x1.toInt.natAbs x3.toInt.natAbs = g := ⟨_, rfl⟩
  have fin : ∀ x y : Int64, 0 ≤ x.toInt → y = 0 → Nat.gcd x.toInt.natAbs y.toInt.natAbs = g → x.toInt = (g : Int) := fun x y hx y0 e => by
    rw [y0, d0, Int.natAbs_zero, Nat.gcd_zero_right] at e
    omega
  have gp : 0 < g := by rw [← hg]; exact Nat.gcd_pos_of_pos_right _ (by omega)
  have nz : ∀ x : Int64, x.toInt = (g : Int) → ¬ x = 0 := fun x e z => by rw [z, d0] at e; omega
  have post : ∀ x : Int64, x.toInt = (g : Int) → (RI fun _ u' => Mq (mB ++ mLg) u u' ∧ frV x1 x3 (mL u' 76 3) (mL u' 76 4)) (some (.int x5)) (pL (pL u 76 3 (x1 / x)) 76 4 (x3 / x)) := fun x e => ⟨_, rfl, (Mq.rf.wL (by decide)).wL (by decide), x, by rw [hg]; exact e, by rw [mLx_nk (by decide), mLx_eq], by rw [mLx_eq]⟩
  have key : ∀ (k : Nat) (x y : Int64), y.toInt.natAbs ≤ k → 0 ≤ x.toInt → 0 ≤ y.toInt → Nat.gcd x.toInt.natAbs y.toInt.natAbs = g → Ws G m_part 6 [(0, .ref 76), (1, .long x1), (3, .long x3), (5, .int x5), (6, .long x), (8, .long y)] [] u (RI fun _ u' => Mq (mB ++ mLg) u u' ∧ frV x1 x3 (mL u' 76 3) (mL u' 76 4)) := by
    intro k
    induction k with
    | zero =>
      intro x y hy hx hy0 e
      have y0 : y = 0 := Int64.toInt_inj.mp (by omega)
      have ex := fin x y hx y0 e
      exact sg_m_part_6 ⟨fun _ => ⟨nz x ex, nz x ex, post x ex⟩, fun z => absurd ((lgzx y).mpr y0) z⟩
    | succ k ih =>
      intro x y hy hx hy0 e
      refine sg_m_part_6 ⟨fun z => ?_, fun z => ?_⟩
      · have ex := fin x y hx ((lgzx y).mp z) e
        exact ⟨nz x ex, nz x ex, post x ex⟩
      · have z2 : ¬ y = 0 := fun q => z ((lgzx y).mpr q)
        have hk : ¬ y.toInt = 0 := fun q => z2 (Int64.toInt_inj.mp (by omega))
        have em := rmL_toInt (x := x) z2
        have lt := Nat.mod_lt x.toInt.natAbs (y := y.toInt.natAbs) (by omega)
        refine ⟨z2, ih _ _ ?_ hy0 ?_ ?_⟩
        · rw [em, Int.natAbs_tmod]; omega
        · rw [em]; exact Int.tmod_nonneg _ hx
        · rw [em, Int.natAbs_tmod, Nat.gcd_comm, ← Nat.gcd_rec, Nat.gcd_comm]; exact e
  exact sg_m_part_0 (key _ _ _ (Nat.le_refl _) h1 (by omega) hg)
theorem d_dearestL {x1 x2 : Int32} (hC : InvC u) (hm : 0 ≤ mI u (mR u 2 10) 1 ∧ mI u (mR u 2 10) 1 ≤ 7) (hn : mI u (mR u 2 10) 0 ≤ 30) (hK : 0 < mI u (mR u 2 10) 1 → PlK u (mR u 2 10)) (hd : ∀ s, s < (mI u (mR u 2 10) 1).toNatClampNeg → 0 ≤ mI u 8 s ∧ mI u 8 s < mI u (mR u 2 10) 0) : Ws G D_dearest 0 [(0, .ref 2), (1, .int x1), (2, .int x2)] [] u (RI fun a u' => Cl (qB ++ qL) u u' ∧ deaL (mI u (50 + 2 * x1.toNatClampNeg) 1) (mI u (mR u 2 10) 0) (mI u (mR u 2 10) 1) x1 x2 (mI u (51 + 2 * x1.toNatClampNeg)) (dwC u) (mL u' 2 13) (mL u' 2 14) (mL u' 2 13 = mL u 2 13 ∧ mL u' 2 14 = mL u 2 14)) := by
  refine sg_D_dearest_0 ⟨fun a => ⟨fun c => ?_, fun c => ⟨_, rfl, Cl.rf hC, .inr ⟨fun z => c z.1.2, rfl, rfl⟩⟩⟩, fun a => ⟨_, rfl, Cl.rf hC, .inr ⟨fun z => a z.1.1, rfl, rfl⟩⟩⟩
  have k : deaK x1 x2 := ⟨a, c⟩
  obtain ⟨eo, hr⟩ := rO a
  rw [eo]
  refine kI (c_passersx hr hn) (fun f v q => ?_)
  obtain ⟨rfl, ef⟩ := q
  refine ⟨fun z => ?_, fun z => ⟨_, rfl, (cq_dF Cq.rf (by decide)).cl hC, .inr ⟨fun y => z (ef.trans y.2.1), mL_dF, mL_dF⟩⟩⟩
  rw [ef] at z
  have pz := pasV_0 z
  have m7 : (mI u (mR u 2 10) 1).toNatClampNeg ≤ 7 := by have := tn_le hm.2; have e : (7 : Int32).toNatClampNeg = 7 := (by decide); omega
  have b60 : x2.toNatClampNeg ≤ 60 := by have := tn_le c.2; have e : (60 : Int32).toNatClampNeg = 60 := (by decide); omega
  generalize hRR : (fun s => rnS (mI u (51 + 2 * x1.toNatClampNeg)) (dwC u) s x2.toNatClampNeg) = R
  have eR : ∀ s, rnS (mI u (51 + 2 * x1.toNatClampNeg)) (dwC u) s x2.toNatClampNeg = R s := fun s => by rw [← hRR]
  have hb : ∀ s, s < (mI u (mR u 2 10) 1).toNatClampNeg → 0 ≤ (R s).toInt ∧ (R s).toInt ≤ 5940 := fun s hs => by
    have hK' := hK (Int32.not_le.mp (fun q => by have l := tn_le q; have z0 : (0 : Int32).toNatClampNeg = 0 := (by decide); omega))
    have rb := rnS_b (f := mI u (51 + 2 * x1.toNatClampNeg)) (dw := dwC u) (s := s) (N := (mI u (mR u 2 10) 0).toNatClampNeg) (fun w => by
      have rr := pws_rx (w := mI u 7 0) (shut := mI u 7 1) (sh := shF u (mR u 2 10)) (ord := ordF u (mR u 2 10)) hK'.1.1 hK'.1.2 hd w _ hs
      exact tn_lt rr.1 rr.2) pz.2 x2.toNatClampNeg b60
    rw [eR] at rb
    omega
  have key : ∀ x v (x5 x6 x7 : Int32), 0 ≤ x → x ≤ mI u (mR u 2 10) 1 → FRc u v → x5 = Int32.ofNat (deF R x.toNatClampNeg) → (x6 = R (deF R x.toNatClampNeg) ∨ (x.toNatClampNeg = 0 ∧ x6 = 0)) → x7 = smR R x.toNatClampNeg → Ws G D_dearest 53 [(0, .ref 2), (2, .int x2), (3, .ref (50 + 2 * x1.toNatClampNeg)), (5, .int x5), (6, .int x6), (7, .int x7), (8, .int x)] [] v (RI fun a u' => Cl (qB ++ qL) u u' ∧ deaL (mI u (50 + 2 * x1.toNatClampNeg) 1) (mI u (mR u 2 10) 0) (mI u (mR u 2 10) 1) x1 x2 (mI u (51 + 2 * x1.toNatClampNeg)) (dwC u) (mL u' 2 13) (mL u' 2 14) (mL u' 2 13 = mL u 2 13 ∧ mL u' 2 14 = mL u 2 14)) := by
    refine upI (mI u (mR u 2 10) 1) _ (fun x ih v x5 x6 x7 h0 hx hF h5 h6 h7 => ?_)
    refine sg_D_dearest_53 (rL hr).1 (fun hp => ?_)
    rw [hF.ro] at hp ⊢
    have ko := pl_ok hp
    have k10 : okS 10 5 := by decide
    have pn := pl_st k10 ko
    have e0 : mI v (mR u 2 10) 0 = mI u (mR u 2 10) 0 := hF.2 _ _ pn.1.1 pn.1.2
    have e1 : mI v (mR u 2 10) 1 = mI u (mR u 2 10) 1 := hF.2 _ _ pn.1.1 pn.1.2
    rw [e1]
    refine ⟨fun c => ⟨fun d => ?_, fun d => ⟨_, rfl, (cq_dF (hF.1.lift (by decide)) (by decide)).cl hC, .inr ⟨fun y => y.2.2 ?_, by rw [mL_dF]; exact hF.l4.1, by rw [mL_dF]; exact hF.l4.2⟩⟩⟩, fun c => ?_⟩
    · have ex := Int32.le_antisymm hx c
      rw [ex] at h5 h6 h7
      have dS : ¬ smR R (mI u (mR u 2 10) 1).toNatClampNeg = 0 := by rw [← h7]; exact d
      have e6 : x6 = R (deF R (mI u (mR u 2 10) 1).toNatClampNeg) := by
        rcases h6 with h6 | ⟨h6, _⟩
        · exact h6
        · rw [h6] at dS; exact absurd rfl dS
      have B := sm_b (R := R) m7 hb dS
      rw [e6, h7]
      refine kV (h_tellL B.1 B.2) (fun v' hq => ⟨_, rfl, ((hF.1.lift (by decide)).tr hq.1).cl hC, .inl ⟨⟨k, z, ?_⟩, ?_⟩⟩)
      · rw [hRR]; exact dS
      · rw [hRR, eR]; exact hq.2
    · rw [hRR, ← Int32.le_antisymm hx c, ← h7]; exact d
    have xm := Int32.not_le.mp c
    have sN := tn_lt h0 xm
    have su := stU h0 c
    have sx := tn_succ h0 c
    have hK' := hK (Int32.lt_of_le_of_lt h0 xm)
    have f51 : mI v (51 + 2 * x1.toNatClampNeg) = mI u (51 + 2 * x1.toNatClampNeg) := funext (fun j => hF.2 _ j (by omega) (by omega))
    have vro := hF.ro
    refine kI (c_rentOfx (u := v) hr (by rw [vro]; exact hp) (by rw [vro, e1]; exact hm) (by rw [vro]; exact hK'.cg k10 ko hF.2) (by rw [vro, e1, e0]; exact fun s hs => by rw [hF.2 8 s (by decide) (by decide)]; exact hd s hs) (by rw [vro, e0, hF.2 _ _ (by omega) (by omega)]; exact pz.1) ⟨h0, by rw [vro, e1]; exact xm⟩ (Int32.le_trans (by decide) ‹1 ≤ x2 ∧ x2 ≤ 60›.1)) (fun y v' q => ?_)
    obtain ⟨hF', ey⟩ := q
    rw [f51, hF.dw ko, eR] at ey
    have hF2 := hF.tr hF'
    have pos : 0 ≤ y := by
      rw [ey, ← eR]
      have rb := rnS_b (f := mI u (51 + 2 * x1.toNatClampNeg)) (dw := dwC u) (s := x.toNatClampNeg) (N := (mI u (mR u 2 10) 0).toNatClampNeg) (fun w => by
        have rr := pws_rx (w := mI u 7 0) (shut := mI u 7 1) (sh := shF u (mR u 2 10)) (ord := ordF u (mR u 2 10)) hK'.1.1 hK'.1.2 hd w _ sN
        exact tn_lt rr.1 rr.2) pz.2 x2.toNatClampNeg b60
      exact Int32.le_iff_toInt_le.mpr (by have d0 : (0 : Int32).toInt = 0 := (by decide); omega)
    refine ⟨fun d => ih c v' _ _ _ su.1 su.2 hF2 ?_ ?_ (by rw [sx, smR, h7, ey]), fun d => ih c v' _ _ _ su.1 su.2 hF2 ?_ ?_ (by rw [sx, smR, h7, ey])⟩
    · rw [sx, deF, h5]
      rcases h6 with h6 | ⟨h6, h6'⟩
      · rw [if_pos (by rw [← h6, ← ey]; exact d)]
      · rw [h6, show deF R 0 = 0 from rfl, if_pos (Int32.le_refl _)]
    · left
      rw [sx, deF]
      rcases h6 with h6 | ⟨h6, h6'⟩
      · rw [if_pos (by rw [← h6, ← ey]; exact d)]; exact h6
      · rw [h6, show deF R 0 = 0 from rfl, if_pos (Int32.le_refl _)]
        rw [h6] at ey
        rw [← ey, h6']
        exact (Int32.le_antisymm (by rw [h6'] at d; exact d) pos).symm
    · rw [sx, deF]
      rcases h6 with h6 | ⟨h6, h6'⟩
      · rw [if_neg (by rw [← h6, ← ey]; exact d)]; exact (i32_nat h0).symm
      · rw [h6, show deF R 0 = 0 from rfl, if_pos (Int32.le_refl _)]
        have e := i32_nat h0
        rw [h6] at e
        exact e.symm
    · left
      rw [sx, deF]
      rcases h6 with h6 | ⟨h6, h6'⟩
      · rw [if_neg (by rw [← h6, ← ey]; exact d)]; exact ey
      · rw [h6] at ey ⊢
        rw [show deF R 0 = 0 from rfl, if_pos (Int32.le_refl _)]
        exact ey
  have z0 : (0 : Int32).toNatClampNeg = 0 := by decide
  exact key 0 _ _ _ _ (by decide) hm.1 ⟨Cq.rf, fun _ _ _ _ => rfl⟩ (by rw [z0]; rfl) (.inr ⟨z0, rfl⟩) (by rw [z0]; rfl)
theorem e_dearestL {x1 x2 : Int32} {ord : Nat → Nat} (hM : InvM u) (ho : OrdP (shM u) (mI u 76 11).toNatClampNeg ord) (hd : ∀ s, s < (mI u 76 11).toNatClampNeg → 0 ≤ mI u 84 s ∧ mI u 84 s < mI u 76 10) : Ws G m_dearest 0 [(0, .ref 76), (1, .int x1), (2, .int x2)] [] u (RI fun a u' => Mo (mB ++ mLg) u u' ∧ deaL (mI u 78 x1.toNatClampNeg) (mI u 76 10) (mI u 76 11) x1 x2 (fun k => mI u 79 (40 * x1.toNatClampNeg + k)) (dwM u ord) (mL u' 76 3) (mL u' 76 4) (mL u' 76 3 = mL u 76 3 ∧ mL u' 76 4 = mL u 76 4)) := by
  have m7 := hM.m7
  refine sg_m_dearest_0 ⟨fun a => ⟨fun c => ?_, fun c => ⟨_, rfl, Mo.rf hM, .inr ⟨fun z => c z.1.2, rfl, rfl⟩⟩⟩, fun a => ⟨_, rfl, Mo.rf hM, .inr ⟨fun z => a ⟨z.1.1.1, by obtain ⟨p', q'⟩ := z.1.1; grind⟩, rfl, rfl⟩⟩⟩
  have k : deaK x1 x2 := ⟨⟨a.1, by have := a.2; grind⟩, c⟩
  refine kI (e_askedRentsx hM a) (fun f v q => ?_)
  rcases q with ⟨z, ef, rfl⟩ | ⟨z, ef, ev⟩
  rotate_left
  · refine ⟨fun n => absurd n (by rw [ef]; decide), fun _ => ⟨_, rfl, ?_, .inr ⟨fun y => z y.2.1, ?_, ?_⟩⟩⟩
    · rw [ev]
      exact (Mq.rf.tm).mo hM
    · rw [ev]; exact mL_mt
    · rw [ev]; exact mL_mt
  refine ⟨fun _ => ?_, fun n => absurd (show (0 : Int32) ≤ f by rw [ef]; decide) n⟩
  refine kV (e_setRentsx hM ho a (Int32.le_trans (by decide) c.1)) (fun v' h => ?_)
  generalize hRR : (fun s => rnS (fun k => mI v 79 (40 * x1.toNatClampNeg + k)) (dwM v ord) s x2.toNatClampNeg) = R
  have eR : ∀ s, rnS (fun k => mI v 79 (40 * x1.toNatClampNeg + k)) (dwM v ord) s x2.toNatClampNeg = R s := fun s => by rw [← hRR]
  have pz := pasV_0 z
  have b60 : x2.toNatClampNeg ≤ 60 := by have := tn_le c.2; have e : (60 : Int32).toNatClampNeg = 60 := (by decide); omega
  have m7N : (mI v 76 11).toNatClampNeg ≤ 7 := by have := tn_le m7.2; have e : (7 : Int32).toNatClampNeg = 7 := (by decide); omega
  have hb : ∀ s, s < (mI v 76 11).toNatClampNeg → 0 ≤ (R s).toInt ∧ (R s).toInt ≤ 5940 := fun s hs => by
    have z0 : (0 : Int32).toNatClampNeg = 0 := by decide
    have n30 : 10 ≤ mI v 76 10 ∧ mI v 76 10 ≤ 30 := by
      rcases hM.2.1 with ⟨_, q⟩ | ⟨q1, q2, _⟩
      · rw [q, z0] at hs; omega
      · exact ⟨q1, q2⟩
    have rb := rnS_b (f := fun k => mI v 79 (40 * x1.toNatClampNeg + k)) (dw := dwM v ord) (s := s) (N := (mI v 76 10).toNatClampNeg) (fun w => by
      have rr := pws_rx (w := mI v 76 18) (shut := mI v 76 19) (sh := shM v) (ord := ord) n30.1 n30.2 hd w _ hs
      exact tn_lt rr.1 rr.2) pz.2 x2.toNatClampNeg b60
    rw [eR] at rb
    omega
  have h93 : ∀ s, s < (mI v 76 11).toNatClampNeg → mI v' 93 s = R s := fun s hs => (h.2.2 s hs).trans (eR s)
  have e11 := h.1.m
  have key : ∀ x (x4 x5 : Int32), 0 ≤ x → x ≤ mI v 76 11 → x5 = Int32.ofNat (deF R x.toNatClampNeg) → x4 = smR R x.toNatClampNeg → Ws G m_dearest 46 [(0, .ref 76), (4, .int x4), (5, .int x5), (6, .int x)] [] v' (RI fun a u' => Mo (mB ++ mLg) v u' ∧ deaL (mI v 78 x1.toNatClampNeg) (mI v 76 10) (mI v 76 11) x1 x2 (fun k => mI v 79 (40 * x1.toNatClampNeg + k)) (dwM v ord) (mL u' 76 3) (mL u' 76 4) (mL u' 76 3 = mL v 76 3 ∧ mL u' 76 4 = mL v 76 4)) := by
    refine upI (mI v 76 11) _ (fun x ih x4 x5 h0 hx h5 h4 => ?_)
    have l5 : x5.toNatClampNeg = deF R x.toNatClampNeg := by
      have l := deF_le (R := R) x.toNatClampNeg
      have l2 := tn_le hx
      have l3 := tn_le m7.2
      have e7 : (7 : Int32).toNatClampNeg = 7 := by decide
      rw [h5]
      exact (show ∀ k, k < 8 → (Int32.ofNat k).toNatClampNeg = k from by decide) _ (by omega)
    have p5 : 0 ≤ x5 := by
      have l := deF_le (R := R) x.toNatClampNeg
      have l2 := tn_le hx
      have l3 := tn_le m7.2
      have e7 : (7 : Int32).toNatClampNeg = 7 := by decide
      rw [h5]
      exact (show ∀ k, k < 8 → 0 ≤ Int32.ofNat k from by decide) _ (by omega)
    refine sg_m_dearest_46 ⟨fun c => ?_, fun c => ?_⟩
    · rw [e11] at c
      have ex := Int32.le_antisymm hx c
      refine ⟨fun d => ?_, fun d => ⟨_, rfl, (h.1.up (by decide)).tm.mo hM, .inr ⟨fun y => y.2.2 ?_, by rw [mL_mt]; exact h.1.l4.1, by rw [mL_mt]; exact h.1.l4.2⟩⟩⟩
      · have mp : 0 < (mI v 76 11).toNatClampNeg := by
          rcases Nat.eq_zero_or_pos (mI v 76 11).toNatClampNeg with q | q
          · rw [h4, ex, q] at d; exact absurd rfl d
          · exact q
        have l := deF_lt (R := R) ((mI v 76 11).toNatClampNeg - 1)
        rw [show (mI v 76 11).toNatClampNeg - 1 + 1 = (mI v 76 11).toNatClampNeg by omega] at l
        have l3 := tn_le m7.2
        have e7 : (7 : Int32).toNatClampNeg = 7 := by decide
        have x57 : x5 < 7 := by
          rw [h5, ex]
          exact (show ∀ k, k < 7 → Int32.ofNat k < 7 from by decide) _ (by omega)
        refine ⟨vin p5 (show (_ : Int32) < 7 from x57) (by decide), ?_⟩
        have dS : ¬ smR R (mI v 76 11).toNatClampNeg = 0 := by rw [← ex, ← h4]; exact d
        have B := sm_b (R := R) m7N hb dS
        rw [l5, h4, ex, h93 (deF R (mI v 76 11).toNatClampNeg) (by omega)]
        refine kI (e_partL B.1.1 B.2.1) (fun y v2 q => ⟨_, rfl, ((h.1.up (by decide)).tr q.1).mo hM, .inl ⟨⟨k, z, ?_⟩, ?_⟩⟩)
        · rw [hRR]; exact dS
        · rw [hRR, eR]; exact q.2
      · rw [hRR, ← ex, ← h4]; exact d
    rw [e11] at c
    have xm := Int32.not_le.mp c
    have sN := tn_lt h0 xm
    have su := stU h0 c
    have sx := tn_succ h0 c
    have v7 : vp_in x 7 := vin h0 (show (_ : Int32) < 7 from Int32.lt_of_lt_of_le xm m7.2) (by decide)
    have ld := deF_le (R := R) x.toNatClampNeg
    have w7 : vp_in x5 7 := vin p5 (show (_ : Int32) < 7 by
      have l3 := tn_le m7.2
      have e7 : (7 : Int32).toNatClampNeg = 7 := by decide
      rw [h5]
      exact (show ∀ k, k < 7 → Int32.ofNat k < 7 from by decide) _ (by omega)) (by decide)
    rw [h93 _ sN, l5, h93 (deF R x.toNatClampNeg) (by omega)]
    refine ⟨v7, v7, w7, fun d => ih c _ _ su.1 su.2 ?_ (by rw [sx, smR, h4]), fun d => ih c _ _ su.1 su.2 ?_ (by rw [sx, smR, h4])⟩
    · rw [sx, deF, if_pos d]; exact h5
    · rw [sx, deF, if_neg d]; exact (i32_nat h0).symm
  have z0 : (0 : Int32).toNatClampNeg = 0 := by decide
  exact key 0 _ _ (by decide) m7.1 (by rw [z0]; rfl) (by rw [z0]; rfl)
theorem d_upperv (hC : InvC u) : Ws G D_upper 0 [(0, .ref 2)] [] u (RJ fun a u' => Cl qB u u' ∧ a = mL u 2 13) := sg_D_upper_0 ⟨_, rfl, Cl.rf hC, rfl⟩
theorem e_upperv (hM : InvM u) : Ws G m_upper 0 [(0, .ref 76)] [] u (RJ fun a u' => Mo mB u u' ∧ a = mL u 76 3) := sg_m_upper_0 ⟨_, rfl, Mo.rf hM, rfl⟩
theorem d_lowerv (hC : InvC u) : Ws G D_lower 0 [(0, .ref 2)] [] u (RJ fun a u' => Cl qB u u' ∧ a = mL u 2 14) := sg_D_lower_0 ⟨_, rfl, Cl.rf hC, rfl⟩
theorem e_lowerv (hM : InvM u) : Ws G m_lower 0 [(0, .ref 76)] [] u (RJ fun a u' => Mo mB u u' ∧ a = mL u 76 4) := sg_m_lower_0 ⟨_, rfl, Mo.rf hM, rfl⟩
end LNG
