/-! ===== by remainders: meets, never, joins, quiet, busy ===== -/
theorem stp9 {x : Int32} (h : -9 ≤ x ∧ x ≤ 9) : -9 ≤ x.toInt ∧ x.toInt ≤ 9 := by
  have a := Int32.le_iff_toInt_le.mp h.1
  have b := Int32.le_iff_toInt_le.mp h.2
  have e1 : (-9 : Int32).toInt = -9 := by decide
  have e2 : (9 : Int32).toInt = 9 := by decide
  omega
theorem st30 {x n : Int32} (hn : n ≤ 30) (h : 0 ≤ x ∧ x < n) : 0 ≤ x.toInt ∧ x.toInt < 30 := by
  have a := Int32.le_iff_toInt_le.mp h.1
  have b := Int32.lt_iff_toInt_lt.mp h.2
  have c := Int32.le_iff_toInt_le.mp hn
  have e1 : (0 : Int32).toInt = 0 := by decide
  have e2 : (30 : Int32).toInt = 30 := by decide
  omega
theorem nI30 {n : Int32} (hn : 10 ≤ n ∧ n ≤ 30) : 10 ≤ n.toInt ∧ n.toInt ≤ 30 := by
  have a := Int32.le_iff_toInt_le.mp hn.1
  have b := Int32.le_iff_toInt_le.mp hn.2
  have e1 : (10 : Int32).toInt = 10 := by decide
  have e2 : (30 : Int32).toInt = 30 := by decide
  omega
theorem sub3x {a b : Int32} (ha : -500 ≤ a.toInt ∧ a.toInt ≤ 500) (hb : -500 ≤ b.toInt ∧ b.toInt ≤ 500) : (a - b).toInt = a.toInt - b.toInt := by
  rw [Int32.toInt_sub, Int.bmod_eq_of_le (by omega) (by omega)]
/-- the greatest common divisor -/
def gV (n d : Int32) : Int32 := Int32.ofNat (Nat.gcd n.toInt.natAbs d.toInt.natAbs)
theorem gV_i {n d : Int32} (hn : 10 ≤ n ∧ n ≤ 30) : (gV n d).toInt = (Nat.gcd n.toInt.natAbs d.toInt.natAbs : Nat) ∧ (0 < (gV n d).toInt ∧ (gV n d).toInt ≤ 30) ∧ (gV n d).toInt ∣ n.toInt := by
  have hi := nI30 hn
  have dv : Nat.gcd n.toInt.natAbs d.toInt.natAbs ∣ n.toInt.natAbs := Nat.gcd_dvd_left _ _
  have ps : 0 < Nat.gcd n.toInt.natAbs d.toInt.natAbs := Nat.gcd_pos_of_pos_left _ (by omega)
  have le := Nat.le_of_dvd (by omega) dv
  have E : (gV n d).toInt = (Nat.gcd n.toInt.natAbs d.toInt.natAbs : Nat) := by
    unfold gV
    exact (show ∀ k, k < 31 → (Int32.ofNat k).toInt = ((k : Nat) : Int) from by decide) _ (by omega)
  refine ⟨E, ⟨by omega, by omega⟩, ?_⟩
  rw [E]
  exact Int.ofNat_dvd_left.mpr dv
theorem gV_nz {n d : Int32} (hn : 10 ≤ n ∧ n ≤ 30) : ¬ gV n d = 0 := fun z => by
  have h := (gV_i (d := d) hn).2.1.1
  rw [z] at h
  exact absurd h (by decide)
theorem rmz {x y : Int32} (hy : ¬ y = 0) : (x - x / y * y = 0) ↔ y.toInt ∣ x.toInt := by
  have d0 : (0 : Int32).toInt = 0 := by decide
  have e := rmI_toInt (x := x) hy
  constructor
  · intro z
    rw [z, d0] at e
    exact Int.dvd_of_tmod_eq_zero e.symm
  · intro z
    rw [Int.tmod_eq_zero_of_dvd z] at e
    exact Int32.toInt_inj.mp (e.trans d0.symm)
theorem dvd_em {g n E : Int} (h : g ∣ n) : g ∣ E % n ↔ g ∣ E := by
  obtain ⟨c, hc⟩ := h
  have e := Int.mul_ediv_add_emod E n
  constructor
  · intro ⟨d, hd⟩
    exact ⟨c * (E / n) + d, by rw [Int.mul_add, ← Int.mul_assoc, ← hc, ← hd]; exact e.symm⟩
  · intro ⟨d, hd⟩
    exact ⟨d - c * (E / n), by rw [Int.mul_sub, ← Int.mul_assoc, ← hc, ← hd]; omega⟩
theorem dm_cm {n d : Int32} {E : Int64} (hn : 10 ≤ n ∧ n ≤ 30) : (dAt n E - dAt n E / gV n d * gV n d = 0) ↔ (gV n d).toInt ∣ E.toInt := by
  have hi := nI30 hn
  rw [rmz (gV_nz hn), dAt_toInt (by omega)]
  exact dvd_em (gV_i hn).2.2
theorem lgz (y : Int64) : lg_cmp y 0 = 0 ↔ y = 0 := by
  unfold lg_cmp
  by_cases a : y > 0
  · rw [if_pos a]; exact ⟨fun z => absurd z (by decide), fun z => by rw [z] at a; exact absurd a (by decide)⟩
  · rw [if_neg a]
    by_cases b : y = 0
    · rw [if_pos b]; exact ⟨fun _ => b, fun _ => rfl⟩
    · rw [if_neg b]; exact ⟨fun z => absurd z (by decide), fun z => absurd z b⟩
def gapV (dr : Nat → Int32) (x1 x2 : Int32) : Int32 := dr x2.toNatClampNeg - dr x1.toNatClampNeg
def gnV (sh : Nat → Sh5) (x1 x2 : Int32) : Int32 := (sh x2.toNatClampNeg).2.2.1 - (sh x1.toNatClampNeg).2.2.1
def metK (n m x1 x2 x3 : Int32) : Prop := besK m x1 x2 ∧ 0 ≤ x3 ∧ x3 < n
def nevC (n x1 x2 x3 : Int32) (dr : Nat → Int32) (sh : Nat → Sh5) : Prop := (gV n (gnV sh x1 x2)).toInt ∣ x3.toInt - (dr x2.toNatClampNeg).toInt + (dr x1.toNatClampNeg).toInt
def nevQ (n m x1 x2 x3 : Int32) (dr : Nat → Int32) (sh : Nat → Sh5) (a k : Int32) (S : Prop) : Prop := (metK n m x1 x2 x3 ∧ nevC n x1 x2 x3 dr sh ∧ a = 0 ∧ k = gV n (gnV sh x1 x2)) ∨ (metK n m x1 x2 x3 ∧ ¬ nevC n x1 x2 x3 dr sh ∧ a = 1 ∧ k = gV n (gnV sh x1 x2)) ∨ (¬ metK n m x1 x2 x3 ∧ a = -1 ∧ S)
section ANF
variable {G : pG} {u v : pM} {Q : Option Value → pM → Prop}
theorem c_gcdx {x0 x2 : Int64} {g : Nat} (h0 : 0 < x0.toInt) (h2 : -90 ≤ x2.toInt ∧ x2.toInt ≤ 90) (hg : Nat.gcd x0.toInt.natAbs x2.toInt.natAbs = g) : Ws G D_greatestCommon 0 [(0, .long x0), (2, .long x2)] [] u (RJ fun a u' => u = u' ∧ a.toInt = (g : Int)) := by
  have d0 : (0 : Int64).toInt = 0 := by decide
  have i0 : (0 : Int32).toInt = 0 := by decide
  have i8 : (128 : Int32).toInt = 128 := by decide
  have fin : ∀ x y : Int64, 0 ≤ x.toInt → y = 0 → Nat.gcd x.toInt.natAbs y.toInt.natAbs = g → x.toInt = (g : Int) := fun x y hx y0 e => by
    rw [y0, d0, Int.natAbs_zero, Nat.gcd_zero_right] at e
    omega
  have key : ∀ (k : Nat) (x y : Int64) (i : Int32), y.toInt.natAbs ≤ k → 0 ≤ x.toInt → 0 ≤ y.toInt → 0 ≤ i.toInt → i.toInt + k ≤ 100 → Nat.gcd x.toInt.natAbs y.toInt.natAbs = g → Ws G D_greatestCommon 15 [(4, .long x), (6, .long y), (8, .int i)] [] u (RJ fun a u' => u = u' ∧ a.toInt = (g : Int)) := by
    intro k
    induction k with
    | zero =>
      intro x y i hy hx hy0 hi hik e
      have y0 : y = 0 := Int64.toInt_inj.mp (by omega)
      exact sg_D_greatestCommon_15 ⟨fun _ => ⟨_, rfl, rfl, fin x y hx y0 e⟩, fun _ => ⟨fun _ => ⟨_, rfl, rfl, fin x y hx y0 e⟩, fun z => absurd ((lgz y).mpr y0) z⟩⟩
    | succ k ih =>
      intro x y i hy hx hy0 hi hik e
      refine sg_D_greatestCommon_15 ⟨fun c => ?_, fun _ => ⟨fun z => ⟨_, rfl, rfl, fin x y hx ((lgz y).mp z) e⟩, fun z => ?_⟩⟩
      · have l := Int32.le_iff_toInt_le.mp c
        omega
      · have z2 : ¬ y = 0 := fun q => z ((lgz y).mpr q)
        have hk : ¬ y.toInt = 0 := fun q => z2 (Int64.toInt_inj.mp (by omega))
        have em := rmL_toInt (x := x) z2
        have ei : (i + 1).toInt = i.toInt + 1 := by
          rw [Int32.toInt_add, show (1 : Int32).toInt = 1 by decide, Int.bmod_eq_of_le (by omega) (by omega)]
        have lt := Nat.mod_lt x.toInt.natAbs (y := y.toInt.natAbs) (by omega)
        refine ⟨z2, ih _ _ _ ?_ hy0 ?_ (by omega) (by omega) ?_⟩
        · rw [em, Int.natAbs_tmod]; omega
        · rw [em]; exact Int.tmod_nonneg _ hx
        · rw [em, Int.natAbs_tmod, Nat.gcd_comm, ← Nat.gcd_rec, Nat.gcd_comm]; exact e
  refine sg_D_greatestCommon_0 ?_
  have p0 : (0 : Int64) < x0 := Int64.lt_iff_toInt_lt.mpr (by omega)
  rw [if_pos p0]
  by_cases c : 0 < x2
  · rw [if_pos c]
    have l := Int64.lt_iff_toInt_lt.mp c
    exact key 90 _ _ 0 (by omega) (by omega) (by omega) (by omega) (by omega) hg
  · rw [if_neg c]
    have l := Int64.le_iff_toInt_le.mp (Int64.not_lt.mp c)
    have en : (-x2).toInt = -x2.toInt := by rw [Int64.toInt_neg, Int.bmod_eq_of_le (by omega) (by omega)]
    exact key 90 _ _ 0 (by omega) (by omega) (by omega) (by omega) (by omega) (by rw [en, Int.natAbs_neg]; exact hg)
theorem c_commonx {o0 : Nat} {x1 : Int32} (k0 : okS o0 2) (hn : 10 ≤ mI u o0 0 ∧ mI u o0 0 ≤ 30) (hx : -90 ≤ x1.toInt ∧ x1.toInt ≤ 90) : Ws G Pl_commonWith 0 [(0, .ref o0), (1, .int x1)] [] u (RI fun a u' => u = u' ∧ a = gV (mI u o0 0) x1) := by
  have gi := gV_i (d := x1) hn
  have hi := nI30 hn
  refine sg_Pl_commonWith_0 k0 (kJ (c_gcdx (g := Nat.gcd (mI u o0 0).toInt.natAbs x1.toInt.natAbs) (by rw [Int32.toInt_toInt64]; omega) (by rw [Int32.toInt_toInt64]; exact hx) (by rw [Int32.toInt_toInt64, Int32.toInt_toInt64])) (fun y v q => ⟨_, rfl, q.1, ?_⟩))
  apply Int32.toInt_inj.mp
  rw [gi.1, Int64.toInt_toInt32, q.2]
  exact Int.bmod_eq_of_le (by omega) (by omega)
abbrev cmK (n gap gain : Int32) : Prop := (gV n gain).toInt ∣ gap.toInt
theorem c_canMeetx {o0 : Nat} {x1 x2 : Int32} (k0 : okS o0 2) (hn : 10 ≤ mI u o0 0 ∧ mI u o0 0 ≤ 30) (hx : -90 ≤ x2.toInt ∧ x2.toInt ≤ 90) : Ws G Pl_canMeet 0 [(0, .ref o0), (1, .int x1), (2, .int x2)] [] u (RI fun a u' => u = u' ∧ (¬ a = 0 ↔ cmK (mI u o0 0) x1 x2)) := by
  have gi := gV_i (d := x2) hn
  have gz := gV_nz (d := x2) hn
  refine sg_Pl_canMeet_0 k0 (kI (c_commonx k0 hn hx) (fun g v q => ?_))
  obtain ⟨rfl, rfl⟩ := q
  refine ⟨fun c => ?_, fun c => ⟨gz, fun d => ⟨_, rfl, rfl, ?_⟩, fun d => ⟨_, rfl, rfl, ?_⟩⟩⟩
  · have l := Int32.le_iff_toInt_le.mp c
    have e : (0 : Int32).toInt = 0 := by decide
    omega
  · exact ⟨fun z => absurd rfl z, fun z => absurd ((rmz gz).mpr z) d⟩
  · exact ⟨fun _ => (rmz gz).mp d, fun _ => by decide⟩
theorem e_divisorx {x1 : Int32} (hn : 10 ≤ mI u 76 10 ∧ mI u 76 10 ≤ 30) (hx : -90 ≤ x1.toInt ∧ x1.toInt ≤ 90) : Ws G m_divisor 0 [(0, .ref 76), (1, .int x1)] [] u (RI fun a u' => u = u' ∧ a = gV (mI u 76 10) x1) := by
  have hi := nI30 hn
  have d0 : (0 : Int32).toInt = 0 := by decide
  have key : ∀ (k : Nat) (x y : Int32), y.toInt.natAbs ≤ k → 0 ≤ x.toInt → Nat.gcd x.toInt.natAbs y.toInt.natAbs = Nat.gcd (mI u 76 10).toInt.natAbs x1.toInt.natAbs → 0 ≤ y.toInt → Ws G m_divisor 16 [(2, .int x), (3, .int y)] [] u (RI fun a u' => u = u' ∧ a = gV (mI u 76 10) x1) := by
    have fin : ∀ x y : Int32, 0 ≤ x.toInt → y = 0 → Nat.gcd x.toInt.natAbs y.toInt.natAbs = Nat.gcd (mI u 76 10).toInt.natAbs x1.toInt.natAbs → x = gV (mI u 76 10) x1 := fun x y hx y0 e => by
      rw [y0, d0, Int.natAbs_zero, Nat.gcd_zero_right] at e
      apply Int32.toInt_inj.mp
      rw [(gV_i (d := x1) hn).1]
      omega
    intro k
    induction k with
    | zero =>
      intro x y hy hx e hy0
      have y0 : y = 0 := Int32.toInt_inj.mp (by omega)
      exact sg_m_divisor_16 ⟨fun z => ⟨_, rfl, rfl, fin x y hx z e⟩, fun z => absurd y0 z⟩
    | succ k ih =>
      intro x y hy hx e hy0
      refine sg_m_divisor_16 ⟨fun z => ⟨_, rfl, rfl, fin x y hx z e⟩, fun z => ⟨z, ?_⟩⟩
      have hk : ¬ y.toInt = 0 := fun q => z (Int32.toInt_inj.mp (by omega))
      have em := rmI_toInt (x := x) z
      have lt := Nat.mod_lt x.toInt.natAbs (y := y.toInt.natAbs) (by omega)
      refine ih _ _ ?_ hy0 ?_ ?_
      · rw [em, Int.natAbs_tmod]; omega
      · rw [em, Int.natAbs_tmod, Nat.gcd_comm, ← Nat.gcd_rec, Nat.gcd_comm]; exact e
      · rw [em]; exact Int.tmod_nonneg _ hx
  refine sg_m_divisor_0 ⟨fun c => ?_, fun c => ?_⟩
  · have l := Int32.le_iff_toInt_le.mp c
    exact key _ _ _ (Nat.le_refl _) (by omega) rfl (by omega)
  · have l := Int32.lt_iff_toInt_lt.mp (Int32.not_le.mp c)
    have en : (-x1).toInt = -x1.toInt := by rw [Int32.toInt_neg, Int.bmod_eq_of_le (by omega) (by omega)]
    exact key _ _ _ (Nat.le_refl _) (by omega) (by rw [en, Int.natAbs_neg]) (by omega)
/-! meets -/
theorem e_pairx {x1 x2 x3 : Int32} (hM : InvM u) (A : metK (mI u 76 10) (mI u 76 11) x1 x2 x3 → Q (some (.int 1)) u) (B : ¬ metK (mI u 76 10) (mI u 76 11) x1 x2 x3 → Q (some (.int 0)) u) : Ws G m_isPair 0 [(0, .ref 76), (1, .int x1), (2, .int x2), (3, .int x3)] [] u Q := by
  have m7 := hM.m7
  have n30 := hM.n30
  have up : ∀ x m : Int32, m ≤ 30 → 0 ≤ m → 0 ≤ x ∧ x < m → 0 ≤ x ∧ x ≤ m - 1 := fun x m a b c => by obtain ⟨p, q⟩ := c; exact ⟨p, by grind⟩
  have dn : ∀ x m : Int32, m ≤ 30 → 0 ≤ m → 0 ≤ x ∧ x ≤ m - 1 → 0 ≤ x ∧ x < m := fun x m a b c => by obtain ⟨p, q⟩ := c; exact ⟨p, by grind⟩
  have m30 : mI u 76 11 ≤ 30 := Int32.le_trans m7.2 (by decide)
  exact sg_m_isPair_0 ⟨fun a => ⟨fun b => ⟨fun c => B (fun z => z.1.2.2 c), fun c => ⟨fun d => A ⟨⟨dn _ _ m30 m7.1 a, dn _ _ m30 m7.1 b, c⟩, dn _ _ n30.2 n30.1 d⟩, fun d => B (fun z => d (up _ _ n30.2 n30.1 z.2))⟩⟩, fun b => B (fun z => b (up _ _ m30 m7.1 z.1.2.1))⟩, fun a => B (fun z => a (up _ _ m30 m7.1 z.1.1))⟩
/-! never -/
theorem d_neverq {x1 x2 x3 : Int32} (hC : InvC u) (hm : 0 ≤ mI u (mR u 2 10) 1 ∧ mI u (mR u 2 10) 1 ≤ 7) (hK : 0 < mI u (mR u 2 10) 1 → PlK u (mR u 2 10)) (hd : ∀ s, s < (mI u (mR u 2 10) 1).toNatClampNeg → 0 ≤ mI u 8 s ∧ mI u 8 s < mI u (mR u 2 10) 0) (hQ : ∀ a u', Cl qB u u' → nevQ (mI u (mR u 2 10) 0) (mI u (mR u 2 10) 1) x1 x2 x3 (mI u 8) (shF u (mR u 2 10)) a (mI u' 2 12) (u' = u) → Q (some (.int a)) u') : Ws G D_never 0 [(0, .ref 2), (1, .int x1), (2, .int x2), (3, .int x3)] [] u Q := by
  have no : ¬ metK (mI u (mR u 2 10) 0) (mI u (mR u 2 10) 1) x1 x2 x3 → Q (some (.int (-1))) u := fun n => hQ _ _ (Cl.rf hC) (.inr (.inr ⟨n, rfl, rfl⟩))
  refine sg_D_never_0 (kI (c_areTwox hm.2) (fun t v0 h0 => ?_))
  obtain ⟨rfl, ht⟩ := h0
  refine ⟨fun d => no (fun z => ht.mpr z.1 d), fun d hp => ⟨fun b _ _ _ => ?_, fun b => no (fun z => b z.2)⟩⟩
  have k := ht.mp d
  have kk : metK (mI u (mR u 2 10) 0) (mI u (mR u 2 10) 1) x1 x2 x3 := ⟨k, b⟩
  have hK' := hK (Int32.lt_of_le_of_lt k.1.1 k.1.2)
  have l1 := Int32.lt_of_lt_of_le k.1.2 hm.2
  have l2 := Int32.lt_of_lt_of_le k.2.1.2 hm.2
  have s1 := stp9 (hK'.2.2.1 _ (tn_lt k.1.1 k.1.2)).2.2.2.1
  have s2 := stp9 (hK'.2.2.1 _ (tn_lt k.2.1.1 k.2.1.2)).2.2.2.1
  have r1 := st30 hK'.1.2 (hd _ (tn_lt k.1.1 k.1.2))
  have r2 := st30 hK'.1.2 (hd _ (tn_lt k.2.1.1 k.2.1.2))
  have r3 := st30 hK'.1.2 b
  have eg : mI u (shO u (mR u 2 10) x2) 2 - mI u (shO u (mR u 2 10) x1) 2 = gnV (shF u (mR u 2 10)) x1 x2 := by
    rw [shO_in k.2.1.1 k.2.1.2 l2, shO_in k.1.1 k.1.2 l1]
    rfl
  have ed : snD u 7 x2 - snD u 7 x1 = mI u 8 x2.toNatClampNeg - mI u 8 x1.toNatClampNeg := by
    unfold snD
    rw [if_pos ⟨k.2.1.1, l2⟩, if_pos ⟨k.1.1, l1⟩]
  have gb : -90 ≤ (gnV (shF u (mR u 2 10)) x1 x2).toInt ∧ (gnV (shF u (mR u 2 10)) x1 x2).toInt ≤ 90 := by
    unfold gnV
    rw [sub3x (by omega) (by omega)]
    omega
  have e1 : (mI u 8 x2.toNatClampNeg - mI u 8 x1.toNatClampNeg).toInt = (mI u 8 x2.toNatClampNeg).toInt - (mI u 8 x1.toNatClampNeg).toInt := sub3x (by omega) (by omega)
  have e2 : (x3 - (mI u 8 x2.toNatClampNeg - mI u 8 x1.toNatClampNeg)).toInt = x3.toInt - (mI u 8 x2.toNatClampNeg).toInt + (mI u 8 x1.toNatClampNeg).toInt := by
    rw [sub3x (by omega) (by omega), e1]
    omega
  rw [eg, ed]
  refine kI (c_commonx (pl_ok hp) hK'.1 gb) (fun g v q => ?_)
  obtain ⟨rfl, rfl⟩ := q
  refine fun _ => kI (c_canMeetx (pl_ok hp) hK'.1 gb) (fun t v q => ?_)
  obtain ⟨rfl, hc⟩ := q
  have hc' : ¬ t = 0 ↔ nevC (mI u (mR u 2 10) 0) x1 x2 x3 (mI u 8) (shF u (mR u 2 10)) := by
    rw [hc]
    unfold cmK nevC
    rw [e2]
  exact ⟨fun z => hQ _ _ ((Cq.rf.pI wr_D (by decide)).cl hC) (.inr (.inl ⟨kk, fun q => hc'.mpr q z, rfl, mI_eq⟩)), fun z => hQ _ _ ((Cq.rf.pI wr_D (by decide)).cl hC) (.inl ⟨kk, hc'.mp z, rfl, mI_eq⟩)⟩
theorem d_nevery {x1 x2 x3 : Int32} (hC : InvC u) (hm : 0 ≤ mI u (mR u 2 10) 1 ∧ mI u (mR u 2 10) 1 ≤ 7) (hK : 0 < mI u (mR u 2 10) 1 → PlK u (mR u 2 10)) (hd : ∀ s, s < (mI u (mR u 2 10) 1).toNatClampNeg → 0 ≤ mI u 8 s ∧ mI u 8 s < mI u (mR u 2 10) 0) : Ws G D_never 0 [(0, .ref 2), (1, .int x1), (2, .int x2), (3, .int x3)] [] u (RI fun a u' => Cl qB u u' ∧ nevQ (mI u (mR u 2 10) 0) (mI u (mR u 2 10) 1) x1 x2 x3 (mI u 8) (shF u (mR u 2 10)) a (mI u' 2 12) (u' = u)) := d_neverq hC hm hK hd (fun a _ h1 h2 => ⟨a, rfl, h1, h2⟩)
theorem e_neverq {x1 x2 x3 : Int32} (hM : InvM u) (hs : ∀ s, s < (mI u 76 11).toNatClampNeg → shV (shM u s)) (hd : ∀ s, s < (mI u 76 11).toNatClampNeg → 0 ≤ mI u 84 s ∧ mI u 84 s < mI u 76 10) (hQ : ∀ a u', Mo mB u u' → nevQ (mI u 76 10) (mI u 76 11) x1 x2 x3 (mI u 84) (shM u) a (mI u' 76 2) (u' = u) → Q (some (.int a)) u') : Ws G m_never 0 [(0, .ref 76), (1, .int x1), (2, .int x2), (3, .int x3)] [] u Q := by
  have m7 := hM.m7
  refine sg_m_never_0 (e_pairx hM (fun kk => ⟨_, rfl, fun _ => ?_, fun z => absurd z (by decide)⟩) (fun n => ⟨_, rfl, fun z => absurd rfl z, fun _ => hQ _ _ (Mo.rf hM) (.inr (.inr ⟨n, rfl, rfl⟩))⟩))
  have k := kk.1
  have hn := hM.n10 (s := x1) k.1.1 k.1.2
  have l1 := Int32.lt_of_lt_of_le k.1.2 m7.2
  have l2 := Int32.lt_of_lt_of_le k.2.1.2 m7.2
  have s1 := stp9 (hs _ (tn_lt k.1.1 k.1.2)).2.2.2.1
  have s2 := stp9 (hs _ (tn_lt k.2.1.1 k.2.1.2)).2.2.2.1
  have r1 := st30 hn.2 (hd _ (tn_lt k.1.1 k.1.2))
  have r2 := st30 hn.2 (hd _ (tn_lt k.2.1.1 k.2.1.2))
  have r3 := st30 hn.2 kk.2
  have i1 := ix5 k.1.1 l1
  have i2 := ix5 k.2.1.1 l2
  have v70 : ∀ x : Int32, 0 ≤ x → x < 7 → vp_in (5 * x + 2) 70 := fun x a b => vin (by grind) (show (_ : Int32) < 70 by grind) (by decide)
  have v7 : ∀ x : Int32, 0 ≤ x → x < 7 → vp_in x 7 := fun x a b => vin a (show (_ : Int32) < 7 from b) (by decide)
  refine ⟨v70 _ k.2.1.1 l2, v70 _ k.1.1 l1, ?_⟩
  have eg : mI u 83 (5 * x2 + 2 : Int32).toNatClampNeg - mI u 83 (5 * x1 + 2 : Int32).toNatClampNeg = gnV (shM u) x1 x2 := by
    rw [i2.2.2.1, i1.2.2.1]
    rfl
  have gb : -90 ≤ (gnV (shM u) x1 x2).toInt ∧ (gnV (shM u) x1 x2).toInt ≤ 90 := by
    unfold gnV
    rw [sub3x (by omega) (by omega)]
    omega
  rw [eg]
  have gz := gV_nz (d := gnV (shM u) x1 x2) hn
  have nz : ¬ (mI u 76 10).toInt64 = 0 := i64_ne (Int32.lt_of_lt_of_le (by decide) hn.1)
  refine kI (e_divisorx hn gb) (fun g v q => ?_)
  obtain ⟨rfl, rfl⟩ := q
  have e2 : (x3.toInt64 - (mI u 84 x2.toNatClampNeg).toInt64 + (mI u 84 x1.toNatClampNeg).toInt64).toInt = x3.toInt - (mI u 84 x2.toNatClampNeg).toInt + (mI u 84 x1.toNatClampNeg).toInt := by
    rw [Int64.toInt_add, Int64.toInt_sub, Int32.toInt_toInt64, Int32.toInt_toInt64, Int32.toInt_toInt64, Int.bmod_eq_of_le (n := x3.toInt - (mI u 84 x2.toNatClampNeg).toInt) (by omega) (by omega), Int.bmod_eq_of_le (by omega) (by omega)]
  have hc := dm_cm (d := gnV (shM u) x1 x2) (E := x3.toInt64 - (mI u 84 x2.toNatClampNeg).toInt64 + (mI u 84 x1.toNatClampNeg).toInt64) hn
  rw [e2] at hc
  exact ⟨v7 _ k.2.1.1 l2, v7 _ k.1.1 l1, nz, gz, fun z => hQ _ _ ((Mq.rf.pF (by decide)).mo hM) (.inr (.inl ⟨kk, fun q => z (hc.mpr q), rfl, mI_eq⟩)), fun z => hQ _ _ ((Mq.rf.pF (by decide)).mo hM) (.inl ⟨kk, hc.mp z, rfl, mI_eq⟩)⟩
theorem e_nevery {x1 x2 x3 : Int32} (hM : InvM u) (hs : ∀ s, s < (mI u 76 11).toNatClampNeg → shV (shM u s)) (hd : ∀ s, s < (mI u 76 11).toNatClampNeg → 0 ≤ mI u 84 s ∧ mI u 84 s < mI u 76 10) : Ws G m_never 0 [(0, .ref 76), (1, .int x1), (2, .int x2), (3, .int x3)] [] u (RI fun a u' => Mo mB u u' ∧ nevQ (mI u 76 10) (mI u 76 11) x1 x2 x3 (mI u 84) (shM u) a (mI u' 76 2) (u' = u)) := e_neverq hM hs hd (fun a _ h1 h2 => ⟨a, rfl, h1, h2⟩)
/-! joins -/
/-! quiet, busy: door and step by one number -/
end ANF
