section MOD
variable {G : pG} {u w : pM} {L : List Nat}
theorem rmI_toInt {x y : Int32} (hy : ¬ y = 0) : (x - x / y * y).toInt = x.toInt.tmod y.toInt := by
  have d0 : (0 : Int32).toInt = 0 := by decide
  have hk : ¬ y.toInt = 0 := fun z => hy (Int32.toInt_inj.mp (by omega))
  rw [Int32.toInt_sub, Int32.toInt_mul, Int32.toInt_div]
  have e := Int.mul_tdiv_add_tmod x.toInt y.toInt
  have h1 : (x.toInt.tmod y.toInt).natAbs < y.toInt.natAbs := by rw [Int.natAbs_tmod]; exact Nat.mod_lt _ (by omega)
  have h3 := Int32.toInt_lt y
  have h4 := Int32.le_toInt y
  have : x.toInt - x.toInt.tdiv y.toInt * y.toInt = x.toInt.tmod y.toInt := by
    rw [Int.mul_comm (x.toInt.tdiv y.toInt)]; omega
  rw [← this] at h1 ⊢
  simp
  exact Int.bmod_eq_of_le (by omega) (by omega)
theorem rmL_toInt {x y : Int64} (hy : ¬ y = 0) : (x - x / y * y).toInt = x.toInt.tmod y.toInt := by
  have d0 : (0 : Int64).toInt = 0 := by decide
  have hk : ¬ y.toInt = 0 := fun z => hy (Int64.toInt_inj.mp (by omega))
  rw [Int64.toInt_sub, Int64.toInt_mul, Int64.toInt_div]
  have e := Int.mul_tdiv_add_tmod x.toInt y.toInt
  have h1 : (x.toInt.tmod y.toInt).natAbs < y.toInt.natAbs := by rw [Int.natAbs_tmod]; exact Nat.mod_lt _ (by omega)
  have h3 := Int64.toInt_lt y
  have h4 := Int64.le_toInt y
  have : x.toInt - x.toInt.tdiv y.toInt * y.toInt = x.toInt.tmod y.toInt := by
    rw [Int.mul_comm (x.toInt.tdiv y.toInt)]; omega
  rw [← this] at h1 ⊢
  simp
  exact Int.bmod_eq_of_le (by omega) (by omega)
theorem e_divisor {x1 : Int32} (hn : 10 ≤ mI u 76 10) : Ws G m_divisor 0 [(0, .ref 76), (1, .int x1)] [] u (RI fun a u' => u = u' ∧ ¬ a = 0) := by
  have key : ∀ (k : Nat) (x y : Int32), y.toInt.natAbs ≤ k → (y = 0 → ¬ x = 0) → Ws G m_divisor 16 [(2, .int x), (3, .int y)] [] u (RI fun a u' => u = u' ∧ ¬ a = 0) := by
    intro k
    induction k with
    | zero =>
      intro x y hy hx
      have d0 : (0 : Int32).toInt = 0 := by decide
      have : y = 0 := Int32.toInt_inj.mp (by omega)
      exact sg_m_divisor_16 ⟨fun z => ⟨_, rfl, rfl, hx z⟩, fun z => absurd this z⟩
    | succ k ih =>
      intro x y hy hx
      refine sg_m_divisor_16 ⟨fun z => ⟨_, rfl, rfl, hx z⟩, fun z => ⟨z, ih _ _ ?_ (fun _ => z)⟩⟩
      have d0 : (0 : Int32).toInt = 0 := by decide
      have hk : ¬ y.toInt = 0 := fun q => z (Int32.toInt_inj.mp (by omega))
      rw [rmI_toInt z, Int.natAbs_tmod]
      have := Nat.mod_lt x.toInt.natAbs (y := y.toInt.natAbs) (by omega)
      omega
  exact sg_m_divisor_0 ⟨fun _ => key _ _ _ (Nat.le_refl _) (fun _ => by grind), fun _ => key _ _ _ (Nat.le_refl _) (fun _ => by grind)⟩
theorem set128 {m x : Int32} (h : 0 ≤ m ∧ m ≤ 7) (hx : x ≤ (1 <<< (m &&& 31)) - 1) : x < 128 := by
  have key : ∀ j, j < 8 → ((1 : Int32) <<< (Int32.ofNat j &&& 31)) - 1 < 128 := by decide
  have l := tn_le h.2
  have e7 : (7 : Int32).toNatClampNeg = 7 := by decide
  have := key m.toNatClampNeg (by omega)
  rw [i32_nat h.1] at this
  grind
theorem e_isPair {x1 : Int32} {x2 : Int32} {x3 : Int32} (m7 : 0 ≤ mI u 76 11 ∧ mI u 76 11 ≤ 7) : Ws G m_isPair 0 [(0, .ref 76), (1, .int x1), (2, .int x2), (3, .int x3)] [] u (RI fun a u' => u = u' ∧ (¬ a = 0 → 0 ≤ x1 ∧ x1 < mI u 76 11 ∧ 0 ≤ x2 ∧ x2 < mI u 76 11)) := by
  exact sg_m_isPair_0 ⟨fun a => ⟨fun b => ⟨fun _ => ⟨_, rfl, rfl, fun z => absurd rfl z⟩, fun _ => ⟨fun _ => ⟨_, rfl, rfl, fun _ => ⟨a.1, by grind, b.1, by grind⟩⟩, fun _ => ⟨_, rfl, rfl, fun z => absurd rfl z⟩⟩⟩, fun _ => ⟨_, rfl, rfl, fun z => absurd rfl z⟩⟩, fun _ => ⟨_, rfl, rfl, fun z => absurd rfl z⟩⟩
theorem e_meets {x1 : Int32} {x2 : Int32} {x3 : Int32} (hM : InvM u) : Ws G m_meets 0 [(0, .ref 76), (1, .int x1), (2, .int x2), (3, .int x3)] [] u (RI fun _ u' => Mo mB u u') := by
  have m7 := hM.m7
  have key : 0 ≤ x1 ∧ x1 < mI u 76 11 ∧ 0 ≤ x2 ∧ x2 < mI u 76 11 → ∀ x (x4 : Int32), Ws G m_meets 30 [(0, .ref 76), (1, .int x1), (2, .int x2), (3, .int x3), (4, .int x4), (5, .int x)] [] u (RI fun _ u' => Mo mB u u') := by
    intro h
    have n1 := hM.n10 h.1 h.2.1
    refine upI (mI u 76 10) _ (fun x ih x4 => ?_)
    exact sg_m_meets_30 ⟨fun _ => lfM hM Mq.rf, fun c => ⟨(vin (by grind) (show (_ : Int32) < 7 by grind) (by decide)), (vin (by grind) (show (_ : Int32) < 7 by grind) (by decide)), i64_ne (by grind), fun _ => ih c _, fun _ => kI (e_divisor n1.1) (fun a v h => ⟨h.2, by rw [← h.1]; exact lfM hM (Mq.rf.pF (by decide))⟩)⟩⟩
  refine sg_m_meets_0 (kI (e_isPair m7) (fun a v h => ?_))
  obtain ⟨rfl, h⟩ := h
  exact ⟨fun z => by have q := h z; exact ⟨(vin (by grind) (show (_ : Int32) < 70 by grind) (by decide)), (vin (by grind) (show (_ : Int32) < 70 by grind) (by decide)), key q _ _⟩, fun _ => lfM hM Mq.rf⟩
theorem e_never {x1 : Int32} {x2 : Int32} {x3 : Int32} (hM : InvM u) : Ws G m_never 0 [(0, .ref 76), (1, .int x1), (2, .int x2), (3, .int x3)] [] u (RI fun _ u' => Mo mB u u') := by
  have m7 := hM.m7
  refine sg_m_never_0 (kI (e_isPair m7) (fun a v h => ?_))
  obtain ⟨rfl, h⟩ := h
  refine ⟨fun z => ?_, fun _ => lfM hM Mq.rf⟩
  have q := h z
  have n1 := hM.n10 q.1 q.2.1
  refine ⟨(vin (by grind) (show (_ : Int32) < 70 by grind) (by decide)), (vin (by grind) (show (_ : Int32) < 70 by grind) (by decide)), kI (e_divisor n1.1) (fun a v h => ?_)⟩
  obtain ⟨rfl, h⟩ := h
  exact ⟨(vin (by grind) (show (_ : Int32) < 7 by grind) (by decide)), (vin (by grind) (show (_ : Int32) < 7 by grind) (by decide)), i64_ne (by grind), h, fun _ => lfM hM (Mq.rf.pF (by decide)), fun _ => lfM hM (Mq.rf.pF (by decide))⟩
theorem e_walkOf {x1 : Int32} {x2 : Int32} (h1 : 10 ≤ mI u 76 10 ∧ mI u 76 10 ≤ 30) : Ws G m_walkOf 0 [(0, .ref 76), (1, .int x1), (2, .int x2)] [] u (RI fun _ u' => u = u') := by
  exact sg_m_walkOf_0 ⟨i64_ne (by grind), fun _ => ⟨_, rfl, rfl⟩, fun _ => ⟨_, rfl, rfl⟩⟩
theorem InvM.d10 (h : InvM u) {d : Int32} (h0 : 0 ≤ d) (h1 : d < mI u 76 10) : 10 ≤ mI u 76 10 ∧ mI u 76 10 ≤ 30 := by
  rcases h.2.1 with ⟨b, _⟩ | ⟨a, b, _⟩
  · rw [b] at h1; grind
  · exact ⟨a, b⟩
theorem e_walk {x1 : Int32} {x2 : Int32} (hM : InvM u) : Ws G m_walk 0 [(0, .ref 76), (1, .int x1), (2, .int x2)] [] u (RI fun _ u' => Mo mB u u') := by
  have n30 := hM.n30
  exact sg_m_walk_0 ⟨fun a => ⟨fun _ => kIe (e_walkOf (hM.d10 a.1 (by grind))) (fun _ => lfM hM Mq.rf), fun _ => lfM hM Mq.rf⟩, fun _ => lfM hM Mq.rf⟩
theorem e_roundOf {x1 : Int32} {x2 : Int32} (hM : InvM u) (h2 : x2 < 128) : Ws G m_roundOf 0 [(0, .ref 76), (1, .int x1), (2, .int x2)] [] u (RI fun a u' => u = u' ∧ 0 ≤ a ∧ a ≤ 30) := by
  have m7 := hM.m7
  have n30 := hM.n30
  have key : ∀ x (x3 : Int32), 0 ≤ x3 → x3 ≤ 30 → Ws G m_roundOf 8 [(0, .ref 76), (1, .int x1), (2, .int x2), (3, .int x3), (4, .int x)] [] u (RI fun a u' => u = u' ∧ 0 ≤ a ∧ a ≤ 30) := by
    refine upI 128 _ (fun x ih x3 r0 r1 => ?_)
    refine sg_m_roundOf_8 ⟨fun _ => ⟨fun _ => ⟨_, rfl, rfl, r0, r1⟩, fun _ => ⟨_, rfl, rfl, by decide, by decide⟩⟩, fun c => ⟨fun _ => ih (by grind) _ r0 r1, fun _ => ?_⟩⟩
    have inn : ∀ y (p q : Int32), 0 ≤ y → 0 ≤ p → p ≤ 30 → 0 ≤ q → q ≤ 30 → Ws G m_roundOf 32 [(0, .ref 76), (1, .int x1), (2, .int x2), (3, .int x3), (4, .int x), (5, .int p), (6, .int q), (7, .int y)] [] u (RI fun a u' => u = u' ∧ 0 ≤ a ∧ a ≤ 30) := by
      refine upI (mI u 76 11) _ (fun y ihy p q h0 p0 p1 q0 q1 => ?_)
      refine sg_m_roundOf_32 ⟨fun _ => ⟨fun _ => ih (by grind) _ r0 r1, fun g => ih (by grind) _ (by grind) (by grind)⟩, fun cy => ?_⟩
      have n1 := hM.n10 h0 (Int32.not_le.mp cy)
      have rg := dAt_rg (x := (mI u 85 (y : Int32).toNatClampNeg).toInt64 - (x1 : Int32).toInt64) n1.1 n1.2
      have hI : ∀ p q : Int32, 0 ≤ p → p ≤ 30 → 0 ≤ q → q ≤ 30 → Ws G m_roundOf 32 [(0, .ref 76), (1, .int x1), (2, .int x2), (3, .int x3), (4, .int x), (5, .int p), (6, .int q), (7, .int (y + 1))] [] u (RI fun a u' => u = u' ∧ 0 ≤ a ∧ a ≤ 30) := fun p q a b c d => ihy cy p q (by grind) a b c d
      have sb : ∀ D N : Int32, 0 ≤ D → D < N → N ≤ 30 → 0 ≤ N - D ∧ N - D ≤ 30 ∧ D ≤ 30 := by intro D N a b c; grind
      have s1 := sb _ _ rg.1 rg.2 n1.2
      exact ⟨(vin (by grind) (show (_ : Int32) < 7 by grind) (by decide)), i64_ne (by grind), fun _ => ⟨fun _ => hI p q p0 p1 q0 q1, fun _ => ⟨fun _ => ⟨fun _ => hI p q p0 p1 q0 q1, fun _ => hI p _ p0 p1 s1.1 s1.2.1⟩, fun _ => ⟨fun _ => hI p q p0 p1 q0 q1, fun _ => hI p 0 p0 p1 (by decide) (by decide)⟩⟩⟩, fun _ => ⟨fun _ => hI p q p0 p1 q0 q1, fun _ => hI _ q rg.1 s1.2.2 q0 q1⟩⟩
    exact inn 0 0 0 (by decide) (by decide) (by decide) (by decide) (by decide)
  exact sg_m_roundOf_0 (key 0 _ n30.1 n30.2)
theorem e_round {x1 : Int32} {x2 : Int32} (hM : InvM u) : Ws G m_round 0 [(0, .ref 76), (1, .int x1), (2, .int x2)] [] u (RI fun _ u' => Mo mB u u') := by
  have m7 := hM.m7
  exact sg_m_round_0 ⟨fun _ => ⟨fun b => kVm (u := u) (L := mB) (e_fromNow hM) Mq.rf (fun v hq => kI (e_roundOf (hq.inv hM) (set128 m7 b.2)) (fun a v' h => by rw [← h.1]; exact lfM hM hq)), fun _ => lfM hM Mq.rf⟩, fun _ => lfM hM Mq.rf⟩
theorem e_best {x1 : Int32} {x2 : Int32} {x3 : Int32} (hM : InvM u) : Ws G m_best 0 [(0, .ref 76), (1, .int x1), (2, .int x2), (3, .int x3)] [] u (RI fun _ u' => Mo mB u u') := by
  have m7 := hM.m7
  have key : x2 < 128 → x3 ≤ 60 → ∀ x v (x4 x5 : Int32), Mq mB u v → Ws G m_best 42 [(0, .ref 76), (1, .int x1), (2, .int x2), (3, .int x3), (4, .int x4), (5, .int x5), (6, .int x)] [] v (RI fun _ u' => Mo mB u u') := by
    intro h2 h3
    refine upI 61 _ (fun x ih v x4 x5 hq => ?_)
    refine sg_m_best_42 ⟨fun _ => lfM hM (hq.pF (by decide)), fun c => kI (e_roundOf (hq.inv hM) h2) (fun a v' h => ?_)⟩
    obtain ⟨rfl, h⟩ := h
    have hP : ∀ (p q : Int32), Ws G m_passOne 0 [(0, .ref 76), (1, .int ((mI v 76 18) + x)), (2, .int (mI v 76 19))] [] v (RV fun u5 => Ws G m_best 42 [(0, .ref 76), (1, .int x1), (2, .int x2), (3, .int x3), (4, .int p), (5, .int q), (6, .int (x + 1))] [] u5 (RI fun _ u' => Mo mB u u')) := fun p q => kVm (u := u) (L := mB) (e_pass (hq.inv hM)) hq (fun v hq => ih (by grind) _ _ _ hq)
    exact ⟨fun _ => ⟨fun _ => hP _ _, fun _ => hP _ _⟩, fun _ => ⟨fun _ => hP _ _, fun _ => hP _ _⟩⟩
  exact sg_m_best_0 ⟨fun _ => ⟨fun b => ⟨fun c => kVm (u := u) (L := mB) (e_fromNow hM) Mq.rf (fun v hq => key (set128 m7 b.2) c.2 0 v _ _ hq), fun _ => lfM hM Mq.rf⟩, fun _ => lfM hM Mq.rf⟩, fun _ => lfM hM Mq.rf⟩
theorem e_agree {x1 : Int32} {x2 : Int32} {x3 : Int32} (hM : InvM u) : Ws G m_agree 0 [(0, .ref 76), (1, .int x1), (2, .int x2), (3, .int x3)] [] u (RI fun _ u' => Mo mB u u') := by
  have m7 := hM.m7
  have n30 := hM.n30
  have key : x3 ≤ 60 → 10 ≤ mI u 76 10 ∧ mI u 76 10 ≤ 30 → ∀ x v (x4 x5 : Int32), Mq mB u v → Ws G m_agree 55 [(0, .ref 76), (1, .int x1), (2, .int x2), (3, .int x3), (4, .int x4), (5, .int x5), (6, .int x)] [] v (RI fun _ u' => Mo mB u u') := by
    intro h3 n1
    refine upI 61 _ (fun x ih v x4 x5 hq => ?_)
    refine sg_m_agree_55 ⟨fun _ => lfM hM (hq.pF (by decide)), fun c => ?_⟩
    have n2 : 10 ≤ mI v 76 10 ∧ mI v 76 10 ≤ 30 := by rw [hq.n]; exact n1
    have hm := hq.m
    have inn : ∀ y (x4 x5 : Int32), 0 ≤ y → Ws G m_agree 64 [(0, .ref 76), (1, .int x1), (2, .int x2), (3, .int x3), (4, .int x4), (5, .int x5), (6, .int x), (7, .int y)] [] v (RI fun _ u' => Mo mB u u') := by
      refine upI (mI v 76 11) _ (fun y ihy x4 x5 h0 => ?_)
      refine sg_m_agree_64 ⟨fun _ => kVm (u := u) (L := mB) (e_pass (hq.inv hM)) hq (fun v hq => ih (by grind) _ _ _ hq), fun cy => ?_⟩
      have v7 : vp_in y 7 := (vin (by grind) (show (_ : Int32) < 7 by grind) (by decide))
      exact ⟨v7, kIe (e_walkOf n2) (fun _ => ⟨v7, kIe (e_walkOf n2) (fun _ => ⟨fun _ => ⟨fun _ => ihy cy _ _ (by grind), fun _ => ihy cy _ _ (by grind)⟩, fun _ => ⟨fun _ => ihy cy _ _ (by grind), fun _ => ihy cy _ _ (by grind)⟩⟩)⟩)⟩
    exact inn 0 _ _ (by decide)
  exact sg_m_agree_0 ⟨fun a => ⟨fun b => ⟨fun c => ⟨fun _ => kVm (u := u) (L := mB) (e_fromNow hM) Mq.rf (fun v hq => key c.2 (hM.d10 a.1 (by grind)) 0 v _ _ hq), fun _ => lfM hM Mq.rf.tm⟩, fun _ => lfM hM Mq.rf⟩, fun _ => lfM hM Mq.rf⟩, fun _ => lfM hM Mq.rf⟩
end MOD
