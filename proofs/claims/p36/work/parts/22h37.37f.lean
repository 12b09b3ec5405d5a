/-! ===== by remainders: meets, never, joins, quiet, busy ===== -/
theorem stp9 {x : Int32} (h : -9 ≤ x ∧ x ≤ 9) : -9 ≤ x.toInt ∧ x.toInt ≤ 9 := by
  have a := Int32.le_iff_toInt_le.mp h.1
  have b := Int32.le_iff_toInt_le.mp h.2
  have e1 : (-9 : Int32).toInt = -9 := by decide
  have e2 : (9 : Int32).toInt = 9 := by decide
  omega
theorem st30 {x n : Int32} (hn : n ≤ 30) (h : 0 ≤ x ∧ x < n) : 0 ≤ x.toInt ∧ x.toInt < 30 := by
  have a := Int32.le_iff_toInt_le.mp h.1
  have b := Int32.lt_iff_toInt_lt.mp h.2
  have c := Int32.le_iff_toInt_le.mp hn
  have e1 : (0 : Int32).toInt = 0 := by decide
  have e2 : (30 : Int32).toInt = 30 := by decide
  omega
theorem nI30 {n : Int32} (hn : 10 ≤ n ∧ n ≤ 30) : 10 ≤ n.toInt ∧ n.toInt ≤ 30 := by
  have a := Int32.le_iff_toInt_le.mp hn.1
  have b := Int32.le_iff_toInt_le.mp hn.2
  have e1 : (10 : Int32).toInt = 10 := by decide
  have e2 : (30 : Int32).toInt = 30 := by decide
  omega
theorem sub3x {a b : Int32} (ha : -500 ≤ a.toInt ∧ a.toInt ≤ 500) (hb : -500 ≤ b.toInt ∧ b.toInt ≤ 500) : (a - b).toInt = a.toInt - b.toInt := by
  rw [Int32.toInt_sub, Int.bmod_eq_of_le (by omega) (by omega)]
/-- the greatest common divisor -/
def gV (n d : Int32) : Int32 := Int32.ofNat (Nat.gcd n.toInt.natAbs d.toInt.natAbs)
theorem gV_i {n d : Int32} (hn : 10 ≤ n ∧ n ≤ 30) : (gV n d).toInt = (Nat.gcd n.toInt.natAbs d.toInt.natAbs : Nat) ∧ (0 < (gV n d).toInt ∧ (gV n d).toInt ≤ 30) ∧ (gV n d).toInt ∣ n.toInt := by
  have hi := nI30 hn
  have dv : Nat.gcd n.toInt.natAbs d.toInt.natAbs ∣ n.toInt.natAbs := Nat.gcd_dvd_left _ _
  have ps : 0 < Nat.gcd n.toInt.natAbs d.toInt.natAbs := Nat.gcd_pos_of_pos_left _ (by omega)
  have le := Nat.le_of_dvd (by omega) dv
  have E : (gV n d).toInt = (Nat.gcd n.toInt.natAbs d.toInt.natAbs : Nat) := by
    unfold gV
    exact (show ∀ k, k < 31 → (Int32.ofNat k).toInt = ((k : Nat) : Int) from by decide) _ (by omega)
  refine ⟨E, ⟨by omega, by omega⟩, ?_⟩
  rw [E]
  exact Int.ofNat_dvd_left.mpr dv
theorem gV_nz {n d : Int32} (hn : 10 ≤ n ∧ n ≤ 30) : ¬ gV n d = 0 := fun z => by
  have h := (gV_i (d := d) hn).2.1.1
  rw [z] at h
  exact absurd h (by decide)
theorem gV_sw {n a b : Int32} (ha : -500 ≤ a.toInt ∧ a.toInt ≤ 500) (hb : -500 ≤ b.toInt ∧ b.toInt ≤ 500) : gV n (a - b) = gV n (b - a) := by
  unfold gV
  rw [sub3x ha hb, sub3x hb ha, show (a.toInt - b.toInt).natAbs = (b.toInt - a.toInt).natAbs by omega]
theorem rmz {x y : Int32} (hy : ¬ y = 0) : (x - x / y * y = 0) ↔ y.toInt ∣ x.toInt := by
  have d0 : (0 : Int32).toInt = 0 := by decide
  have e := rmI_toInt (x := x) hy
  constructor
  · intro z
    rw [z, d0] at e
    exact Int.dvd_of_tmod_eq_zero e.symm
  · intro z
    rw [Int.tmod_eq_zero_of_dvd z] at e
    exact Int32.toInt_inj.mp (e.trans d0.symm)
theorem dvd_em {g n E : Int} (h : g ∣ n) : g ∣ E % n ↔ g ∣ E := by
  obtain ⟨c, hc⟩ := h
  have e := Int.mul_ediv_add_emod E n
  constructor
  · intro ⟨d, hd⟩
    exact ⟨c * (E / n) + d, by rw [Int.mul_add, ← Int.mul_assoc, ← hc, ← hd]; exact e.symm⟩
  · intro ⟨d, hd⟩
    exact ⟨d - c * (E / n), by rw [Int.mul_sub, ← Int.mul_assoc, ← hc, ← hd]; omega⟩
theorem dm_cm {n d : Int32} {E : Int64} (hn : 10 ≤ n ∧ n ≤ 30) : (dAt n E - dAt n E / gV n d * gV n d = 0) ↔ (gV n d).toInt ∣ E.toInt := by
  have hi := nI30 hn
  rw [rmz (gV_nz hn), dAt_toInt (by omega)]
  exact dvd_em (gV_i hn).2.2
theorem lgz (y : Int64) : lg_cmp y 0 = 0 ↔ y = 0 := by
  unfold lg_cmp
  by_cases a : y > 0
  · rw [if_pos a]; exact ⟨fun z => absurd z (by decide), fun z => by rw [z] at a; exact absurd a (by decide)⟩
  · rw [if_neg a]
    by_cases b : y = 0
    · rw [if_pos b]; exact ⟨fun _ => b, fun _ => rfl⟩
    · rw [if_neg b]; exact ⟨fun z => absurd z (by decide), fun z => absurd z b⟩
/-- the shops that a new one would meet, as a set -/
def jmV (c : Nat → Bool) : Nat → Int32
  | 0 => 0
  | s + 1 => if c s = true then jmV c s ||| (1 <<< (Int32.ofNat s &&& 31)) else jmV c s
theorem jmV_0 {c : Nat → Bool} {s : Nat} (h : c s = false) : jmV c (s + 1) = jmV c s := by rw [jmV, if_neg (by rw [h]; decide)]
theorem jmV_1 {c : Nat → Bool} {s : Nat} (h : c s = true) : jmV c (s + 1) = jmV c s ||| (1 <<< (Int32.ofNat s &&& 31)) := by rw [jmV, if_pos h]
theorem jmV_cg {c c' : Nat → Bool} : ∀ m, (∀ s, s < m → c' s = c s) → jmV c' m = jmV c m
  | 0, _ => rfl
  | m + 1, e => by rw [jmV, jmV, jmV_cg m (fun s hs => e s (by omega)), e m (by omega)]
theorem jmV_s : ∀ m, m < 7 → ∀ r, r < 128 → r < 2 ^ m → (Int32.ofNat r ||| (1 <<< (Int32.ofNat m &&& 31))) = Int32.ofNat (r + 2 ^ m) := by decide +kernel
theorem jmV_r {c : Nat → Bool} : ∀ m, m ≤ 7 → ∃ r, r < 2 ^ m ∧ jmV c m = Int32.ofNat r
  | 0, _ => ⟨0, by decide, rfl⟩
  | m + 1, h => by
    obtain ⟨r, hr, e⟩ := jmV_r (c := c) m (by omega)
    have h7 : 2 ^ m ≤ 2 ^ 6 := Nat.pow_le_pow_right (by decide) (by omega)
    have p : 2 ^ (m + 1) = 2 ^ m + 2 ^ m := by rw [Nat.pow_succ]; omega
    cases k : c m with
    | false => exact ⟨r, by omega, by rw [jmV_0 k, e]⟩
    | true => exact ⟨r + 2 ^ m, by omega, by rw [jmV_1 k, e]; exact jmV_s m (by omega) r (by omega) hr⟩
theorem jmV_p {c : Nat → Bool} {m : Nat} (h : m ≤ 7) : 0 ≤ jmV c m := by
  obtain ⟨r, hr, e⟩ := jmV_r (c := c) m h
  have h7 : 2 ^ m ≤ 2 ^ 7 := Nat.pow_le_pow_right (by decide) h
  rw [e]
  exact (show ∀ k, k < 128 → 0 ≤ Int32.ofNat k from by decide +kernel) r (by omega)
theorem bcV_p (x : Int32) : 0 ≤ bcV x := by
  rw [(bcV_cnt x).1]
  exact (show ∀ k, k < 33 → 0 ≤ Int32.ofNat k from by decide) _ (by have := (bcV_cnt x).2; omega)
theorem bcV_31 {x a : Int32} (h : 0 ≤ x) (ha : a.toInt = (cnt x 31 : Int)) : a = bcV x := by
  have l := cnt_le x 31
  rw [(bcV_cnt x).1, nn_31 h]
  apply Int32.toInt_inj.mp
  rw [ha]
  exact ((show ∀ k, k < 32 → (Int32.ofNat k).toInt = ((k : Nat) : Int) from by decide) _ (by omega)).symm
def jmC (n x1 x2 : Int32) (dr : Nat → Int32) (sh : Nat → Sh5) (s : Nat) : Bool := decide ((gV n (x2 - (sh s).2.2.1)).toInt ∣ (dr s - x1).toInt)
def gapV (dr : Nat → Int32) (x1 x2 : Int32) : Int32 := dr x2.toNatClampNeg - dr x1.toNatClampNeg
def gnV (sh : Nat → Sh5) (x1 x2 : Int32) : Int32 := (sh x2.toNatClampNeg).2.2.1 - (sh x1.toNatClampNeg).2.2.1
section ANF
variable {G : pG} {u v : pM} {Q : Option Value → pM → Prop}
theorem c_gcdx {x0 x2 : Int64} {g : Nat} (h0 : 0 < x0.toInt) (h2 : -90 ≤ x2.toInt ∧ x2.toInt ≤ 90) (hg : Nat.gcd x0.toInt.natAbs x2.toInt.natAbs = g) : Ws G D_greatestCommon 0 [(0, .long x0), (2, .long x2)] [] u (RJ fun a u' => u = u' ∧ a.toInt = (g : Int)) := by
  have d0 : (0 : Int64).toInt = 0 := by decide
  have i0 : (0 : Int32).toInt = 0 := by decide
  have i8 : (128 : Int32).toInt = 128 := by decide
  have fin : ∀ x y : Int64, 0 ≤ x.toInt → y = 0 → Nat.gcd x.toInt.natAbs y.toInt.natAbs = g → x.toInt = (g : Int) := fun x y hx y0 e => by
    rw [y0, d0, Int.natAbs_zero, Nat.gcd_zero_right] at e
    omega
  have key : ∀ (k : Nat) (x y : Int64) (i : Int32), y.toInt.natAbs ≤ k → 0 ≤ x.toInt → 0 ≤ y.toInt → 0 ≤ i.toInt → i.toInt + k ≤ 100 → Nat.gcd x.toInt.natAbs y.toInt.natAbs = g → Ws G D_greatestCommon 15 [(4, .long x), (6, .long y), (8, .int i)] [] u (RJ fun a u' => u = u' ∧ a.toInt = (g : Int)) := by
    intro k
    induction k with
    | zero =>
      intro x y i hy hx hy0 hi hik e
      have y0 : y = 0 := Int64.toInt_inj.mp (by omega)
      exact sg_D_greatestCommon_15 ⟨fun _ => ⟨_, rfl, rfl, fin x y hx y0 e⟩, fun _ => ⟨fun _ => ⟨_, rfl, rfl, fin x y hx y0 e⟩, fun z => absurd ((lgz y).mpr y0) z⟩⟩
    | succ k ih =>
      intro x y i hy hx hy0 hi hik e
      refine sg_D_greatestCommon_15 ⟨fun c => ?_, fun _ => ⟨fun z => ⟨_, rfl, rfl, fin x y hx ((lgz y).mp z) e⟩, fun z => ?_⟩⟩
      · have l := Int32.le_iff_toInt_le.mp c
        omega
      · have z2 : ¬ y = 0 := fun q => z ((lgz y).mpr q)
        have hk : ¬ y.toInt = 0 := fun q => z2 (Int64.toInt_inj.mp (by omega))
        have em := rmL_toInt (x := x) z2
        have ei : (i + 1).toInt = i.toInt + 1 := by
          rw [Int32.toInt_add, show (1 : Int32).toInt = 1 by decide, Int.bmod_eq_of_le (by omega) (by omega)]
        have lt := Nat.mod_lt x.toInt.natAbs (y := y.toInt.natAbs) (by omega)
        refine ⟨z2, ih _ _ _ ?_ hy0 ?_ (by omega) (by omega) ?_⟩
        · rw [em, Int.natAbs_tmod]; omega
        · rw [em]; exact Int.tmod_nonneg _ hx
        · rw [em, Int.natAbs_tmod, Nat.gcd_comm, ← Nat.gcd_rec, Nat.gcd_comm]; exact e
  refine sg_D_greatestCommon_0 ?_
  have p0 : (0 : Int64) < x0 := Int64.lt_iff_toInt_lt.mpr (by omega)
  rw [if_pos p0]
  by_cases c : 0 < x2
  · rw [if_pos c]
    have l := Int64.lt_iff_toInt_lt.mp c
    exact key 90 _ _ 0 (by omega) (by omega) (by omega) (by omega) (by omega) hg
  · rw [if_neg c]
    have l := Int64.le_iff_toInt_le.mp (Int64.not_lt.mp c)
    have en : (-x2).toInt = -x2.toInt := by rw [Int64.toInt_neg, Int.bmod_eq_of_le (by omega) (by omega)]
    exact key 90 _ _ 0 (by omega) (by omega) (by omega) (by omega) (by omega) (by rw [en, Int.natAbs_neg]; exact hg)
theorem c_commonx {o0 : Nat} {x1 : Int32} (k0 : okS o0 2) (hn : 10 ≤ mI u o0 0 ∧ mI u o0 0 ≤ 30) (hx : -90 ≤ x1.toInt ∧ x1.toInt ≤ 90) : Ws G Pl_commonWith 0 [(0, .ref o0), (1, .int x1)] [] u (RI fun a u' => u = u' ∧ a = gV (mI u o0 0) x1) := by
  have gi := gV_i (d := x1) hn
  have hi := nI30 hn
  refine sg_Pl_commonWith_0 k0 (kJ (c_gcdx (g := Nat.gcd (mI u o0 0).toInt.natAbs x1.toInt.natAbs) (by rw [Int32.toInt_toInt64]; omega) (by rw [Int32.toInt_toInt64]; exact hx) (by rw [Int32.toInt_toInt64, Int32.toInt_toInt64])) (fun y v q => ⟨_, rfl, q.1, ?_⟩))
  apply Int32.toInt_inj.mp
  rw [gi.1, Int64.toInt_toInt32, q.2]
  exact Int.bmod_eq_of_le (by omega) (by omega)
abbrev cmK (n gap gain : Int32) : Prop := (gV n gain).toInt ∣ gap.toInt
theorem c_canMeetx {o0 : Nat} {x1 x2 : Int32} (k0 : okS o0 2) (hn : 10 ≤ mI u o0 0 ∧ mI u o0 0 ≤ 30) (hx : -90 ≤ x2.toInt ∧ x2.toInt ≤ 90) : Ws G Pl_canMeet 0 [(0, .ref o0), (1, .int x1), (2, .int x2)] [] u (RI fun a u' => u = u' ∧ (¬ a = 0 ↔ cmK (mI u o0 0) x1 x2)) := by
  have gi := gV_i (d := x2) hn
  have gz := gV_nz (d := x2) hn
  refine sg_Pl_canMeet_0 k0 (kI (c_commonx k0 hn hx) (fun g v q => ?_))
  obtain ⟨rfl, rfl⟩ := q
  refine ⟨fun c => ?_, fun c => ⟨gz, fun d => ⟨_, rfl, rfl, ?_⟩, fun d => ⟨_, rfl, rfl, ?_⟩⟩⟩
  · have l := Int32.le_iff_toInt_le.mp c
    have e : (0 : Int32).toInt = 0 := by decide
    omega
  · exact ⟨fun z => absurd rfl z, fun z => absurd ((rmz gz).mpr z) d⟩
  · exact ⟨fun _ => (rmz gz).mp d, fun _ => by decide⟩
theorem e_divisorx {x1 : Int32} (hn : 10 ≤ mI u 76 10 ∧ mI u 76 10 ≤ 30) (hx : -90 ≤ x1.toInt ∧ x1.toInt ≤ 90) : Ws G m_divisor 0 [(0, .ref 76), (1, .int x1)] [] u (RI fun a u' => u = u' ∧ a = gV (mI u 76 10) x1) := by
  have hi := nI30 hn
  have d0 : (0 : Int32).toInt = 0 := by decide
  have key : ∀ (k : Nat) (x y : Int32), y.toInt.natAbs ≤ k → 0 ≤ x.toInt → Nat.gcd x.toInt.natAbs y.toInt.natAbs = Nat.gcd (mI u 76 10).toInt.natAbs x1.toInt.natAbs → 0 ≤ y.toInt → Ws G m_divisor 16 [(2, .int x), (3, .int y)] [] u (RI fun a u' => u = u' ∧ a = gV (mI u 76 10) x1) := by
    have fin : ∀ x y : Int32, 0 ≤ x.toInt → y = 0 → Nat.gcd x.toInt.natAbs y.toInt.natAbs = Nat.gcd (mI u 76 10).toInt.natAbs x1.toInt.natAbs → x = gV (mI u 76 10) x1 := fun x y hx y0 e => by
      rw [y0, d0, Int.natAbs_zero, Nat.gcd_zero_right] at e
      apply Int32.toInt_inj.mp
      rw [(gV_i (d := x1) hn).1]
      omega
    intro k
    induction k with
    | zero =>
      intro x y hy hx e hy0
      have y0 : y = 0 := Int32.toInt_inj.mp (by omega)
      exact sg_m_divisor_16 ⟨fun z => ⟨_, rfl, rfl, fin x y hx z e⟩, fun z => absurd y0 z⟩
    | succ k ih =>
      intro x y hy hx e hy0
      refine sg_m_divisor_16 ⟨fun z => ⟨_, rfl, rfl, fin x y hx z e⟩, fun z => ⟨z, ?_⟩⟩
      have hk : ¬ y.toInt = 0 := fun q => z (Int32.toInt_inj.mp (by omega))
      have em := rmI_toInt (x := x) z
      have lt := Nat.mod_lt x.toInt.natAbs (y := y.toInt.natAbs) (by omega)
      refine ih _ _ ?_ hy0 ?_ ?_
      · rw [em, Int.natAbs_tmod]; omega
      · rw [em, Int.natAbs_tmod, Nat.gcd_comm, ← Nat.gcd_rec, Nat.gcd_comm]; exact e
      · rw [em]; exact Int.tmod_nonneg _ hx
  refine sg_m_divisor_0 ⟨fun c => ?_, fun c => ?_⟩
  · have l := Int32.le_iff_toInt_le.mp c
    exact key _ _ _ (Nat.le_refl _) (by omega) rfl (by omega)
  · have l := Int32.lt_iff_toInt_lt.mp (Int32.not_le.mp c)
    have en : (-x1).toInt = -x1.toInt := by rw [Int32.toInt_neg, Int.bmod_eq_of_le (by omega) (by omega)]
    exact key _ _ _ (Nat.le_refl _) (by omega) (by rw [en, Int.natAbs_neg]) (by omega)
/-! meets -/
/-! never -/
/-! joins -/
theorem c_metByx {x1 x2 : Int32} (hp : pl (mR u 2 10)) (hK : PlK u (mR u 2 10)) (h2 : -9 ≤ x2 ∧ x2 ≤ 9) : Ws G D_metBy 0 [(0, .ref 2), (1, .int x1), (2, .int x2)] [] u (RI fun a u' => u = u' ∧ a = jmV (jmC (mI u (mR u 2 10) 0) x1 x2 (mI u 8) (shF u (mR u 2 10))) (mI u (mR u 2 10) 1).toNatClampNeg) := by
  have hm := hK.2.1
  have b2 := stp9 h2
  have key : ∀ x : Int32, 0 ≤ x → x ≤ mI u (mR u 2 10) 1 → Ws G D_metBy 5 [(0, .ref 2), (1, .int x1), (2, .int x2), (3, .int (jmV (jmC (mI u (mR u 2 10) 0) x1 x2 (mI u 8) (shF u (mR u 2 10))) x.toNatClampNeg)), (4, .int x)] [] u (RI fun a u' => u = u' ∧ a = jmV (jmC (mI u (mR u 2 10) 0) x1 x2 (mI u 8) (shF u (mR u 2 10))) (mI u (mR u 2 10) 1).toNatClampNeg) := by
    refine upI (mI u (mR u 2 10) 1) _ (fun x ih h0 hx => sg_D_metBy_5 (fun _ => ⟨fun c => ⟨_, rfl, rfl, by rw [Int32.le_antisymm hx c]⟩, fun c _ _ => ?_⟩))
    have xm := Int32.not_le.mp c
    have l1 := Int32.lt_of_lt_of_le xm hm.2
    have s1 := stp9 (hK.2.2.1 _ (tn_lt h0 xm)).2.2.2.1
    have su := stU h0 c
    have eg : mI u (shO u (mR u 2 10) x) 2 = (shF u (mR u 2 10) x.toNatClampNeg).2.2.1 := by
      rw [shO_in h0 xm l1]
      rfl
    have ed : snD u 7 x = mI u 8 x.toNatClampNeg := by
      unfold snD
      rw [if_pos ⟨h0, l1⟩]
    have gb : -90 ≤ (x2 - (shF u (mR u 2 10) x.toNatClampNeg).2.2.1).toInt ∧ (x2 - (shF u (mR u 2 10) x.toNatClampNeg).2.2.1).toInt ≤ 90 := by
      rw [sub3x (by omega) (by omega)]
      omega
    rw [eg, ed]
    refine kI (c_canMeetx (pl_ok hp) hK.1 gb) (fun t v q => ?_)
    obtain ⟨rfl, ht⟩ := q
    have i := ih c su.1 su.2
    rw [tn_succ h0 c] at i
    refine ⟨fun e => ?_, fun e => ?_⟩
    · rw [jmV_0 (decide_eq_false (fun z => ht.mpr z e))] at i
      exact i
    · rw [jmV_1 (decide_eq_true (ht.mp e)), i32_nat h0] at i
      exact i
  have z0 : (0 : Int32).toNatClampNeg = 0 := by decide
  have k0 := key 0 (by decide) hm.1
  rw [z0] at k0
  exact sg_D_metBy_0 k0
theorem e_joinsOfx {x1 x2 : Int32} (hM : InvM u) (hs : ∀ s, s < (mI u 76 11).toNatClampNeg → shV (shM u s)) (hd : ∀ s, s < (mI u 76 11).toNatClampNeg → 0 ≤ mI u 84 s ∧ mI u 84 s < mI u 76 10) (h1 : 0 ≤ x1 ∧ x1 < mI u 76 10) (h2 : -9 ≤ x2 ∧ x2 ≤ 9) : Ws G m_joinsOf 0 [(0, .ref 76), (1, .int x1), (2, .int x2)] [] u (RI fun a u' => u = u' ∧ a = jmV (jmC (mI u 76 10) x1 x2 (mI u 84) (shM u)) (mI u 76 11).toNatClampNeg) := by
  have hm := hM.m7
  have b2 := stp9 h2
  have key : ∀ x : Int32, 0 ≤ x → x ≤ mI u 76 11 → Ws G m_joinsOf 5 [(0, .ref 76), (1, .int x1), (2, .int x2), (3, .int (jmV (jmC (mI u 76 10) x1 x2 (mI u 84) (shM u)) x.toNatClampNeg)), (4, .int x)] [] u (RI fun a u' => u = u' ∧ a = jmV (jmC (mI u 76 10) x1 x2 (mI u 84) (shM u)) (mI u 76 11).toNatClampNeg) := by
    refine upI (mI u 76 11) _ (fun x ih h0 hx => sg_m_joinsOf_5 ⟨fun c => ⟨_, rfl, rfl, by rw [Int32.le_antisymm hx c]⟩, fun c => ?_⟩)
    have xm := Int32.not_le.mp c
    have l1 := Int32.lt_of_lt_of_le xm hm.2
    have hn := hM.n10 (s := x) h0 xm
    have s1 := stp9 (hs _ (tn_lt h0 xm)).2.2.2.1
    have r1 := st30 hn.2 (hd _ (tn_lt h0 xm))
    have r0 := st30 hn.2 h1
    have su := stU h0 c
    have i5 := ix5 h0 l1
    have eg : mI u 83 (5 * x + 2 : Int32).toNatClampNeg = (shM u x.toNatClampNeg).2.2.1 := by
      rw [i5.2.2.1]
      rfl
    have gb : -90 ≤ ((shM u x.toNatClampNeg).2.2.1 - x2).toInt ∧ ((shM u x.toNatClampNeg).2.2.1 - x2).toInt ≤ 90 := by
      rw [sub3x (by omega) (by omega)]
      omega
    have gs : gV (mI u 76 10) ((shM u x.toNatClampNeg).2.2.1 - x2) = gV (mI u 76 10) (x2 - (shM u x.toNatClampNeg).2.2.1) := gV_sw (by omega) (by omega)
    have e2 : ((mI u 84 x.toNatClampNeg).toInt64 - x1.toInt64).toInt = (mI u 84 x.toNatClampNeg - x1).toInt := by
      rw [Int64.toInt_sub, Int32.toInt_toInt64, Int32.toInt_toInt64, sub3x (by omega) (by omega), Int.bmod_eq_of_le (by omega) (by omega)]
    have hc := dm_cm (d := x2 - (shM u x.toNatClampNeg).2.2.1) (E := (mI u 84 x.toNatClampNeg).toInt64 - x1.toInt64) hn
    rw [e2] at hc
    rw [eg]
    refine ⟨vin (by grind) (show (_ : Int32) < 70 by grind) (by decide), kI (e_divisorx hn gb) (fun g v q => ?_)⟩
    obtain ⟨rfl, eq⟩ := q
    rw [gs] at eq
    rw [eq]
    have i := ih c su.1 su.2
    rw [tn_succ h0 c] at i
    refine ⟨vin h0 (show (_ : Int32) < 7 from l1) (by decide), i64_ne (Int32.lt_of_lt_of_le (by decide) hn.1), gV_nz hn, fun e => ?_, fun e => ?_⟩
    · rw [jmV_0 (decide_eq_false (fun z => e (hc.mpr z)))] at i
      rw [Int32.or_zero]
      exact i
    · rw [jmV_1 (decide_eq_true (hc.mp e)), i32_nat h0] at i
      exact i
  have z0 : (0 : Int32).toNatClampNeg = 0 := by decide
  have k0 := key 0 (by decide) hm.1
  rw [z0] at k0
  exact sg_m_joinsOf_0 k0
/-! quiet, busy: door and step by one number -/
def quC (j : Nat) : Int32 := 100 * Int32.ofNat (j / 19) + (Int32.ofNat (j % 19) - 9) + 9
def quM (n : Int32) (m : Nat) (dr : Nat → Int32) (sh : Nat → Sh5) (j : Nat) : Int32 := jmV (jmC n (Int32.ofNat (j / 19)) (Int32.ofNat (j % 19) - 9) dr sh) m
/-- a step between -9 and 9, as a place -/
theorem qu_y {y : Int32} (y0 : -9 ≤ y) (y1 : y ≤ 10) : 0 ≤ y + 9 ∧ (¬ 9 < y → (y + 9).toNatClampNeg < 19 ∧ (y + 1 + 9).toNatClampNeg = (y + 9).toNatClampNeg + 1 ∧ Int32.ofNat (y + 9).toNatClampNeg - 9 = y ∧ ¬ 10 ≤ y ∧ -9 ≤ y + 1 ∧ y + 1 ≤ 10) ∧ (9 < y → (y + 9).toNatClampNeg = 19) := by
  have a0 : 0 ≤ y + 9 := by grind
  refine ⟨a0, fun c => ?_, fun c => ?_⟩
  · have l : ¬ 19 ≤ y + 9 := by grind
    have t := tn_lt a0 (Int32.not_le.mp l)
    have e : (19 : Int32).toNatClampNeg = 19 := by decide
    refine ⟨by omega, ?_, ?_, by grind, by grind, by grind⟩
    · rw [show y + 1 + 9 = y + 9 + 1 by grind]
      exact tn_succ a0 l
    · rw [i32_nat a0]
      grind
  · have e : y = 10 := by grind
    rw [e]
    decide
theorem qu_j {d y : Int32} (h0 : 0 ≤ d) (t : (y + 9).toNatClampNeg < 19) (ey : Int32.ofNat (y + 9).toNatClampNeg - 9 = y) : quC (19 * d.toNatClampNeg + (y + 9).toNatClampNeg) = 100 * d + y + 9 ∧ ∀ n m dr sh, quM n m dr sh (19 * d.toNatClampNeg + (y + 9).toNatClampNeg) = jmV (jmC n d y dr sh) m := by
  have dd := dm_ (w := d.toNatClampNeg) t
  refine ⟨?_, fun n m dr sh => ?_⟩
  · unfold quC
    rw [dd.1, dd.2, i32_nat h0, ey]
  · unfold quM
    rw [dd.1, dd.2, i32_nat h0, ey]
def busV (n : Int32) (m : Nat) (dr : Nat → Int32) (sh : Nat → Sh5) (j : Nat) : Int32 := bcV (quM n m dr sh j)
def busQ (n : Int32) (m : Nat) (dr : Nat → Int32) (sh : Nat → Sh5) (a k : Int32) (S : Prop) : Prop := (0 < n ∧ gsI kpG quC (busV n m dr sh) a k (19 * n.toNatClampNeg)) ∨ (¬ 0 < n ∧ a = -4 ∧ S)
theorem bus_0 {n : Int32} {m : Nat} {dr : Nat → Int32} {sh : Nat → Sh5} {a : Int32} : gsI kpG quC (busV n m dr sh) a (-1) 0 := by
  refine kpG_f (fun q => ?_)
  exact absurd (Int32.le_trans (bcV_p (quM n m dr sh 0)) q) (by decide)
theorem d_busyq (hC : InvC u) (hK : 0 < mI u (mR u 2 10) 0 → PlK u (mR u 2 10)) (hQ : ∀ a u', Cl qB u u' → busQ (mI u (mR u 2 10) 0) (mI u (mR u 2 10) 1).toNatClampNeg (mI u 8) (shF u (mR u 2 10)) a (mI u' 2 12) (u' = u) → Q (some (.int a)) u') : Ws G D_busy 0 [(0, .ref 2)] [] u Q := by
  refine sg_D_busy_0 (fun hp => ⟨fun a => ?_, fun a => hQ _ _ (Cl.rf hC) (.inr ⟨a, rfl, rfl⟩)⟩)
  have hK' := hK a
  have key : ∀ d x1 x2 : Int32, 0 ≤ d → d ≤ mI u (mR u 2 10) 0 → gsI kpG quC (busV (mI u (mR u 2 10) 0) (mI u (mR u 2 10) 1).toNatClampNeg (mI u 8) (shF u (mR u 2 10))) x1 x2 (19 * d.toNatClampNeg) → Ws G D_busy 20 [(0, .ref 2), (1, .int x1), (2, .int x2), (3, .int d)] [] u Q := by
    refine upI (mI u (mR u 2 10) 0) _ (fun d ih x1 x2 h0 hd e => ?_)
    refine sg_D_busy_20 (fun _ => ⟨fun c => ?_, fun c => ?_⟩)
    · rw [Int32.le_antisymm hd c] at e
      exact hQ _ _ ((Cq.rf.pI wr_D (by decide)).cl hC) (.inl ⟨a, by rw [mI_eq]; exact e⟩)
    · have su := stU h0 c
      have inn : ∀ y x1 x2 : Int32, -9 ≤ y → y ≤ 10 → gsI kpG quC (busV (mI u (mR u 2 10) 0) (mI u (mR u 2 10) 1).toNatClampNeg (mI u 8) (shF u (mR u 2 10))) x1 x2 (19 * d.toNatClampNeg + (y + 9).toNatClampNeg) → Ws G D_busy 35 [(0, .ref 2), (1, .int x1), (2, .int x2), (3, .int d), (4, .int y)] [] u Q := by
        refine upI 10 _ (fun y ihy x1 x2 y0 y1 e => ?_)
        obtain ⟨_, A, B⟩ := qu_y y0 y1
        refine sg_D_busy_35 ⟨fun b => ih c x1 x2 su.1 su.2 ?_, fun b => ?_⟩
        · rw [B b] at e; rw [tn_succ h0 c, Nat.mul_succ]; exact e
        · obtain ⟨t, t1, t2, t3, t4, t5⟩ := A b
          have j := qu_j h0 t t2
          refine kI (c_metByx hp hK' ⟨y0, Int32.not_lt.mp b⟩) (fun r v q => ?_)
          obtain ⟨rfl, er⟩ := q
          have eM : busV (mI u (mR u 2 10) 0) (mI u (mR u 2 10) 1).toNatClampNeg (mI u 8) (shF u (mR u 2 10)) (19 * d.toNatClampNeg + (y + 9).toNatClampNeg) = bcV r := by
            unfold busV
            rw [j.2, ← er]
          refine ⟨fun z => ihy t3 x1 x2 t4 t5 ?_, fun z => ihy t3 _ _ t4 t5 ?_⟩
          · rw [t1, ← Nat.add_assoc]; exact gs_k e (kpG_t (by rw [eM]; exact z))
          · rw [t1, ← Nat.add_assoc, ← j.1, ← eM]; exact gs_r e (kpG_f (by rw [eM]; exact z))
      exact inn (-9) x1 x2 (by decide) (by decide) e
  have z0 : (0 : Int32).toNatClampNeg = 0 := by decide
  exact key 0 (-9) (-1) (by decide) (Int32.le_of_lt a) (by rw [z0]; exact bus_0)
theorem d_busyy (hC : InvC u) (hK : 0 < mI u (mR u 2 10) 0 → PlK u (mR u 2 10)) : Ws G D_busy 0 [(0, .ref 2)] [] u (RI fun a u' => Cl qB u u' ∧ busQ (mI u (mR u 2 10) 0) (mI u (mR u 2 10) 1).toNatClampNeg (mI u 8) (shF u (mR u 2 10)) a (mI u' 2 12) (u' = u)) := d_busyq hC hK (fun a _ h1 h2 => ⟨a, rfl, h1, h2⟩)
theorem e_busyq (hM : InvM u) (hs : ∀ s, s < (mI u 76 11).toNatClampNeg → shV (shM u s)) (hd : ∀ s, s < (mI u 76 11).toNatClampNeg → 0 ≤ mI u 84 s ∧ mI u 84 s < mI u 76 10) (hQ : ∀ a u', Mo mB u u' → busQ (mI u 76 10) (mI u 76 11).toNatClampNeg (mI u 84) (shM u) a (mI u' 76 2) (u' = u) → Q (some (.int a)) u') : Ws G m_busy 0 [(0, .ref 76)] [] u Q := by
  refine sg_m_busy_0 ⟨fun a => ?_, fun a => hQ _ _ (Mo.rf hM) (.inr ⟨by rw [a]; decide, rfl, rfl⟩)⟩
  have hn := hM.nd a
  have m7 := hM.m7
  have mN7 : (mI u 76 11).toNatClampNeg ≤ 7 := by have := tn_le m7.2; have e : (7 : Int32).toNatClampNeg = 7 := (by decide); omega
  have n0 : 0 < mI u 76 10 := Int32.lt_of_lt_of_le (by decide) hn.1
  have key : ∀ d x1 x2 : Int32, 0 ≤ d → d ≤ mI u 76 10 → gsI kpG quC (busV (mI u 76 10) (mI u 76 11).toNatClampNeg (mI u 84) (shM u)) x1 x2 (19 * d.toNatClampNeg) → Ws G m_busy 16 [(0, .ref 76), (1, .int x1), (2, .int x2), (3, .int d)] [] u Q := by
    refine upI (mI u 76 10) _ (fun d ih x1 x2 h0 hd' e => ?_)
    refine sg_m_busy_16 ⟨fun c => ?_, fun c => ?_⟩
    · rw [Int32.le_antisymm hd' c] at e
      exact hQ _ _ ((Mq.rf.pF (by decide)).mo hM) (.inl ⟨n0, by rw [mI_eq]; exact e⟩)
    · have su := stU h0 c
      have inn : ∀ y x1 x2 : Int32, -9 ≤ y → y ≤ 10 → gsI kpG quC (busV (mI u 76 10) (mI u 76 11).toNatClampNeg (mI u 84) (shM u)) x1 x2 (19 * d.toNatClampNeg + (y + 9).toNatClampNeg) → Ws G m_busy 28 [(0, .ref 76), (1, .int x1), (2, .int x2), (3, .int d), (4, .int y)] [] u Q := by
        refine upI 10 _ (fun y ihy x1 x2 y0 y1 e => ?_)
        obtain ⟨_, A, B⟩ := qu_y y0 y1
        refine sg_m_busy_28 ⟨fun b => ih c x1 x2 su.1 su.2 ?_, fun b => ?_⟩
        · rw [B b] at e; rw [tn_succ h0 c, Nat.mul_succ]; exact e
        · obtain ⟨t, t1, t2, t3, t4, t5⟩ := A b
          have j := qu_j h0 t t2
          refine kI (e_joinsOfx hM hs hd ⟨h0, Int32.not_le.mp c⟩ ⟨y0, Int32.not_lt.mp b⟩) (fun r v q => ?_)
          obtain ⟨rfl, er⟩ := q
          refine kI e_sizeOf (fun w v q => ?_)
          obtain ⟨rfl, ew⟩ := q
          have eM : busV (mI u 76 10) (mI u 76 11).toNatClampNeg (mI u 84) (shM u) (19 * d.toNatClampNeg + (y + 9).toNatClampNeg) = w := by
            unfold busV
            rw [j.2, ← er]
            exact (bcV_31 (by rw [er]; exact jmV_p mN7) ew).symm
          refine ⟨fun z => ⟨fun _ => ihy t3 x1 x2 t4 t5 ?_, fun z' => absurd z z'⟩, fun z => ⟨fun z' => absurd z' z, fun _ => ihy t3 _ _ t4 t5 ?_⟩⟩
          · rw [t1, ← Nat.add_assoc]; exact gs_k e (kpG_t (by rw [eM]; exact z))
          · rw [t1, ← Nat.add_assoc, ← j.1, ← eM]; exact gs_r e (kpG_f (by rw [eM]; exact z))
      exact inn (-9) x1 x2 (by decide) (by decide) e
  have z0 : (0 : Int32).toNatClampNeg = 0 := by decide
  exact key 0 0 (-1) (by decide) (Int32.le_of_lt n0) (by rw [z0]; exact bus_0)
theorem e_busyy (hM : InvM u) (hs : ∀ s, s < (mI u 76 11).toNatClampNeg → shV (shM u s)) (hd : ∀ s, s < (mI u 76 11).toNatClampNeg → 0 ≤ mI u 84 s ∧ mI u 84 s < mI u 76 10) : Ws G m_busy 0 [(0, .ref 76)] [] u (RI fun a u' => Mo mB u u' ∧ busQ (mI u 76 10) (mI u 76 11).toNatClampNeg (mI u 84) (shM u) a (mI u' 76 2) (u' = u)) := e_busyq hM hs hd (fun a _ h1 h2 => ⟨a, rfl, h1, h2⟩)
end ANF
