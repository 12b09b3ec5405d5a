/-! ===== count ===== -/
theorem cb_cut {f : Nat → Bool} {m : Nat} : ∀ N, cbN (fun k => decide (k < m) && f k) N = cbN f (min N m)
  | 0 => by rw [Nat.zero_min]; rfl
  | N + 1 => by
    have i := cb_cut (f := f) (m := m) N
    by_cases h : N < m
    · rw [Nat.min_eq_left (by omega)] at i
      rw [Nat.min_eq_left (by omega), cbN, cbN, i]
      show _ + (if (decide (N < m) && f N) = true then 1 else 0) = _
      rw [decide_eq_true h, Bool.true_and]
    · rw [Nat.min_eq_right (by omega)] at i
      rw [Nat.min_eq_right (by omega), cbN, i]
      show _ + (if (decide (N < m) && f N) = true then 1 else 0) = _
      rw [decide_eq_false h, Bool.false_and, if_neg (by decide), Nat.add_zero]
def couC (x : Int32) (m : Nat) (sl rw' tx : Nat → Bool) (k : Nat) : Bool := if x = 3 then decide (k < m) && sl k else if x = 6 then decide (k < 6) && rw' k else if x = 7 then decide (k < 4) && tx k else false
def couV (x n m w sh j : Int32) (sl rw' tx : Nat → Bool) : Int32 := if x = 0 then n else if x = 1 then m else if x = 2 then w else if x = 3 then Int32.ofNat (cbN sl m.toNatClampNeg) else if x = 4 then sh else if x = 5 then j else if x = 6 then Int32.ofNat (cbN rw' 6) else Int32.ofNat (cbN tx 4)
theorem couV_cg {x n m w sh j : Int32} {sl rw' tx sl' rw2 tx' : Nat → Bool} (h1 : ∀ s, s < m.toNatClampNeg → sl' s = sl s) (h2 : ∀ s, s < 6 → rw2 s = rw' s) (h3 : ∀ s, s < 4 → tx' s = tx s) : couV x n m w sh j sl' rw2 tx' = couV x n m w sh j sl rw' tx := by
  unfold couV
  rw [cbN_cg _ h1, cbN_cg _ h2, cbN_cg _ h3]
theorem c07 {x : Int32} (h : 0 ≤ x ∧ x ≤ 7) : x = 0 ∨ x = 1 ∨ x = 2 ∨ x = 3 ∨ x = 4 ∨ x = 5 ∨ x = 6 ∨ x = 7 := by
  have l := tn_le h.2
  have e7 : (7 : Int32).toNatClampNeg = 7 := by decide
  have q := (show ∀ k, k < 8 → Int32.ofNat k = 0 ∨ Int32.ofNat k = 1 ∨ Int32.ofNat k = 2 ∨ Int32.ofNat k = 3 ∨ Int32.ofNat k = 4 ∨ Int32.ofNat k = 5 ∨ Int32.ofNat k = 6 ∨ Int32.ofNat k = 7 from by decide) x.toNatClampNeg (by omega)
  rw [i32_nat h.1] at q
  exact q
def slCx (sh : Nat → Sh5) (s : Nat) : Bool := decide ((sh s).1 = 3 ∨ (sh s).1 = 5)
def rwC (u : pM) (k : Nat) : Bool := decide (0 ≤ mI u (50 + 2 * k) 1)
def txC (u : pM) (k : Nat) : Bool := decide (0 ≤ mI u (62 + 2 * k) 1)
def rwM (u : pM) (k : Nat) : Bool := decide (0 ≤ mI u 78 k)
def txM (u : pM) (k : Nat) : Bool := decide (0 ≤ mI u 81 k)
section ANK
variable {G : pG} {u v : pM} {Q : Option Value → pM → Prop}
theorem c_therex {o0 b N : Nat} (k0 : okS o0 102) (hN : (S0 o0).2 = N) (h6 : N ≤ 6) (hR : ∀ i, i < N → R0 o0 i = b + 2 * i) : Ws G D_countThere 0 [(0, .ref o0)] [] u (RI fun a u' => u = u' ∧ a = Int32.ofNat (cbN (fun k => decide (0 ≤ mI u (b + 2 * k) 1)) N)) := by
  have eN : (Int32.ofNat N).toNatClampNeg = N ∧ 0 ≤ Int32.ofNat N := (show ∀ N, N < 7 → (Int32.ofNat N).toNatClampNeg = N ∧ 0 ≤ Int32.ofNat N from by decide) N (by omega)
  have key : ∀ x a : Int32, 0 ≤ x → x ≤ Int32.ofNat N → a = Int32.ofNat (cbN (fun k => decide (0 ≤ mI u (b + 2 * k) 1)) x.toNatClampNeg) → Ws G D_countThere 4 [(0, .ref o0), (1, .int a), (2, .int x)] [] u (RI fun a u' => u = u' ∧ a = Int32.ofNat (cbN (fun k => decide (0 ≤ mI u (b + 2 * k) 1)) N)) := by
    refine upI (Int32.ofNat N) _ (fun x ih a h0 hx ea => sg_D_countThere_4 k0 ?_)
    rw [hN]
    refine ⟨fun c => ⟨_, rfl, rfl, by rw [ea, Int32.le_antisymm hx c, eN.1]⟩, fun c => ?_⟩
    have xm := Int32.not_le.mp c
    have xN := tn_lt h0 xm
    rw [eN.1] at xN
    have su := stU h0 c
    have sx := tn_succ h0 c
    rw [hR _ xN]
    exact ⟨vin h0 xm (by omega), vin h0 xm (by omega), fun d => ih c _ su.1 su.2 (by rw [sx, cb_1 (decide_eq_true d), ofN_s, ea]), fun d => ih c _ su.1 su.2 (by rw [sx, cb_0 (decide_eq_false d), ea])⟩
  have z0 : (0 : Int32).toNatClampNeg = 0 := by decide
  exact sg_D_countThere_0 k0 (key 0 0 (by decide) eN.2 (by rw [z0]; rfl))
theorem c_sleepersx (hp : pl (mR u 2 10)) (hm : 0 ≤ mI u (mR u 2 10) 1 ∧ mI u (mR u 2 10) 1 ≤ 7) : Ws G Pl_sleepers 0 [(0, .ref (mR u 2 10))] [] u (RI fun a u' => u = u' ∧ a = Int32.ofNat (cbN (slCx (shF u (mR u 2 10))) (mI u (mR u 2 10) 1).toNatClampNeg)) := by
  have key : ∀ x a : Int32, 0 ≤ x → x ≤ mI u (mR u 2 10) 1 → a = Int32.ofNat (cbN (slCx (shF u (mR u 2 10))) x.toNatClampNeg) → Ws G Pl_sleepers 4 [(0, .ref (mR u 2 10)), (1, .int a), (2, .int x)] [] u (RI fun a u' => u = u' ∧ a = Int32.ofNat (cbN (slCx (shF u (mR u 2 10))) (mI u (mR u 2 10) 1).toNatClampNeg)) := by
    refine upI (mI u (mR u 2 10) 1) _ (fun x ih a h0 hx ea => sg_Pl_sleepers_4 (pl_ok hp) ⟨fun c => ⟨_, rfl, rfl, by rw [ea, Int32.le_antisymm hx c]⟩, fun c => ?_⟩)
    have xm := Int32.not_le.mp c
    have su := stU h0 c
    have sx := tn_succ h0 c
    rw [shO_in h0 xm (Int32.lt_of_lt_of_le xm hm.2)]
    refine ⟨fun d => ih c _ su.1 su.2 ?_, fun d => ih c _ su.1 su.2 ?_⟩
    · have t : slCx (shF u (mR u 2 10)) x.toNatClampNeg = true := decide_eq_true (by
        rcases d with d | d
        · exact .inl d.symm
        · exact .inr d.2)
      rw [sx, cb_1 t, ofN_s, ea]
    · have t : slCx (shF u (mR u 2 10)) x.toNatClampNeg = false := decide_eq_false (fun z => d (by
        rcases z with z | z
        · exact .inl z.symm
        · exact .inr ⟨rfl, z⟩))
      rw [sx, cb_0 t, ea, Int32.add_zero]
  have z0 : (0 : Int32).toNatClampNeg = 0 := by decide
  exact sg_Pl_sleepers_0 (pl_ok hp) (key 0 0 (by decide) hm.1 (by rw [z0]; rfl))
theorem c_countOfx {x1 : Int32} (hm : 0 ≤ mI u (mR u 2 10) 1 ∧ mI u (mR u 2 10) 1 ≤ 7) (h1 : 0 ≤ x1 ∧ x1 ≤ 7) : Ws G D_countOf 0 [(0, .ref 2), (1, .int x1)] [] u (RI fun a u' => u = u' ∧ a = couV x1 (mI u (mR u 2 10) 0) (mI u (mR u 2 10) 1) (mI u 7 0) (bcV (mI u 7 1)) (mI u 14 0) (slCx (shF u (mR u 2 10))) (rwC u) (txC u)) := by
  have V : ∀ x : Int32, x1 = x → couV x1 (mI u (mR u 2 10) 0) (mI u (mR u 2 10) 1) (mI u 7 0) (bcV (mI u 7 1)) (mI u 14 0) (slCx (shF u (mR u 2 10))) (rwC u) (txC u) = couV x (mI u (mR u 2 10) 0) (mI u (mR u 2 10) 1) (mI u 7 0) (bcV (mI u 7 1)) (mI u 14 0) (slCx (shF u (mR u 2 10))) (rwC u) (txC u) := fun x e => by rw [e]
  refine sg_D_countOf_0 ⟨fun e _ => ⟨_, rfl, rfl, ?_⟩, fun e _ => ⟨_, rfl, rfl, ?_⟩, fun e => ⟨_, rfl, rfl, ?_⟩, fun e hp => kI (c_sleepersx hp hm) (fun a v q => ?_), fun e => ⟨_, rfl, rfl, ?_⟩, fun e => ⟨_, rfl, rfl, ?_⟩, fun e => kI (c_therex (b := 50) (N := 6) (by decide) (by decide) (by decide) (by decide)) (fun a v q => ?_), fun e => kI (c_therex (b := 62) (N := 4) (by decide) (by decide) (by decide) (by decide)) (fun a v q => ?_)⟩
  · rw [V _ e]; rfl
  · rw [V _ e]; rfl
  · rw [V _ e]; rfl
  · obtain ⟨rfl, ea⟩ := q
    exact ⟨_, rfl, rfl, by rw [V _ e, ea]; rfl⟩
  · rw [V _ e]; rfl
  · rw [V _ e]; rfl
  · obtain ⟨rfl, ea⟩ := q
    exact ⟨_, rfl, rfl, by rw [V _ e, ea]; rfl⟩
  · obtain ⟨rfl, ea⟩ := q
    have e7 : x1 = 7 := by
      rcases c07 h1 with z | z | z | z | z | z | z | z
      · exact absurd z e.1
      · exact absurd z e.2.1
      · exact absurd z e.2.2.1
      · exact absurd z e.2.2.2.1
      · exact absurd z e.2.2.2.2.1
      · exact absurd z e.2.2.2.2.2.1
      · exact absurd z e.2.2.2.2.2.2
      · exact z
    exact ⟨_, rfl, rfl, by rw [V _ e7, ea]; rfl⟩
theorem e_countsx {x1 : Int32} (hM : InvM u) (hb : bnK (mI u 76 10) (mI u 76 19)) (h1 : 0 ≤ x1 ∧ x1 ≤ 7) : Ws G m_counts 0 [(0, .ref 76), (1, .int x1)] [] u (RI fun a u' => u = u' ∧ a = couV x1 (mI u 76 10) (mI u 76 11) (mI u 76 18) (bcV (mI u 76 19)) (mI u 76 28) (slCx (shM u)) (rwM u) (txM u)) := by
  have m7 := hM.m7
  have n30 := hM.n30
  have mN7 : (mI u 76 11).toNatClampNeg ≤ 7 := m7N hM
  have V : ∀ x : Int32, x1 = x → couV x1 (mI u 76 10) (mI u 76 11) (mI u 76 18) (bcV (mI u 76 19)) (mI u 76 28) (slCx (shM u)) (rwM u) (txM u) = couV x (mI u 76 10) (mI u 76 11) (mI u 76 18) (bcV (mI u 76 19)) (mI u 76 28) (slCx (shM u)) (rwM u) (txM u) := fun x e => by rw [e]
  have C3 : x1 = 3 → couC x1 (mI u 76 11).toNatClampNeg (slCx (shM u)) (rwM u) (txM u) = fun k => decide (k < (mI u 76 11).toNatClampNeg) && slCx (shM u) k := fun e => by
    funext k
    unfold couC
    rw [if_pos e]
  have C6 : x1 = 6 → couC x1 (mI u 76 11).toNatClampNeg (slCx (shM u)) (rwM u) (txM u) = fun k => decide (k < 6) && rwM u k := fun e => by
    funext k
    unfold couC
    rw [if_neg (by rw [e]; decide), if_pos e]
  have C7 : x1 = 7 → couC x1 (mI u 76 11).toNatClampNeg (slCx (shM u)) (rwM u) (txM u) = fun k => decide (k < 4) && txM u k := fun e => by
    funext k
    unfold couC
    rw [if_neg (by rw [e]; decide), if_neg (by rw [e]; decide), if_pos e]
  have key : ∀ x a : Int32, 0 ≤ x → x ≤ 7 → a = Int32.ofNat (cbN (couC x1 (mI u 76 11).toNatClampNeg (slCx (shM u)) (rwM u) (txM u)) x.toNatClampNeg) → Ws G m_counts 4 [(0, .ref 76), (1, .int x1), (2, .int a), (3, .int x)] [] u (RI fun a u' => u = u' ∧ a = couV x1 (mI u 76 10) (mI u 76 11) (mI u 76 18) (bcV (mI u 76 19)) (mI u 76 28) (slCx (shM u)) (rwM u) (txM u)) := by
    refine upI 7 _ (fun x ih a h0 hx ea => sg_m_counts_4 ⟨fun c => ?_, fun c => ?_⟩)
    · have e7 : x.toNatClampNeg = 7 := by rw [Int32.le_antisymm hx c]; decide
      rw [e7] at ea
      refine ⟨fun e => ⟨_, rfl, rfl, ?_⟩, fun e => ⟨_, rfl, rfl, ?_⟩, fun e => ⟨_, rfl, rfl, ?_⟩, fun e => ⟨_, rfl, rfl, ?_⟩, fun e => kI (e_shutManyx hM) (fun y v q => ?_), fun e => ⟨_, rfl, rfl, ?_⟩, fun e => ⟨_, rfl, rfl, ?_⟩⟩
      · rw [V _ e]; rfl
      · rw [V _ e]; rfl
      · rw [V _ e]; rfl
      · rw [V _ e, ea, C3 e, cb_cut, Nat.min_eq_right mN7]; rfl
      · obtain ⟨rfl, ey⟩ := q
        exact ⟨_, rfl, rfl, by rw [V _ e, ey, sm_bc n30.2 hb]; rfl⟩
      · rw [V _ e]; rfl
      · have e67 : x1 = 6 ∨ x1 = 7 := by
          rcases c07 h1 with z | z | z | z | z | z | z | z
          · exact absurd z e.1
          · exact absurd z e.2.1
          · exact absurd z e.2.2.1
          · exact absurd z e.2.2.2.1
          · exact absurd z e.2.2.2.2.1
          · exact absurd z e.2.2.2.2.2
          · exact .inl z
          · exact .inr z
        rcases e67 with z | z
        · rw [V _ z, ea, C6 z, cb_cut]; rfl
        · rw [V _ z, ea, C7 z, cb_cut]; rfl
    have x7 := Int32.not_le.mp c
    have xN := tn_lt h0 x7
    have s7 : (7 : Int32).toNatClampNeg = 7 := by decide
    have su := stU h0 c
    have sx := tn_succ h0 c
    have keep : couC x1 (mI u 76 11).toNatClampNeg (slCx (shM u)) (rwM u) (txM u) x.toNatClampNeg = false → Ws G m_counts 4 [(0, .ref 76), (1, .int x1), (2, .int (a + 0)), (3, .int (x + 1))] [] u (RI fun a u' => u = u' ∧ a = couV x1 (mI u 76 10) (mI u 76 11) (mI u 76 18) (bcV (mI u 76 19)) (mI u 76 28) (slCx (shM u)) (rwM u) (txM u)) := fun g => ih c _ su.1 su.2 (by rw [sx, cb_0 g, ea, Int32.add_zero])
    have more : couC x1 (mI u 76 11).toNatClampNeg (slCx (shM u)) (rwM u) (txM u) x.toNatClampNeg = true → Ws G m_counts 4 [(0, .ref 76), (1, .int x1), (2, .int (a + 1)), (3, .int (x + 1))] [] u (RI fun a u' => u = u' ∧ a = couV x1 (mI u 76 10) (mI u 76 11) (mI u 76 18) (bcV (mI u 76 19)) (mI u 76 28) (slCx (shM u)) (rwM u) (txM u)) := fun g => ih c _ su.1 su.2 (by rw [sx, cb_1 g, ea, ofN_s])
    have lt4 : ∀ b : Int32, 0 ≤ b → (b ≤ x → ¬ x.toNatClampNeg < b.toNatClampNeg) ∧ (¬ b ≤ x → x.toNatClampNeg < b.toNatClampNeg) := fun b b0 => ⟨fun z => by have := tn_le z; omega, fun z => tn_lt h0 (Int32.not_le.mp z)⟩
    have s4 : (4 : Int32).toNatClampNeg = 4 := by decide
    have s6 : (6 : Int32).toNatClampNeg = 6 := by decide
    have l4 := lt4 4 (by decide)
    have l6 := lt4 6 (by decide)
    rw [s4] at l4
    rw [s6] at l6
    by_cases e3 : x1 = 3
    · have n6 : ¬ x1 = 6 := by rw [e3]; decide
      have n7 : ¬ x1 = 7 := by rw [e3]; decide
      refine ⟨fun z => absurd e3 z, fun _ => ⟨fun d => ⟨fun _ => ⟨fun _ => keep ?_, fun z => absurd z n7⟩, fun z => absurd z n6⟩, fun d => ?_⟩⟩
      · rw [C3 e3]
        show (decide (x.toNatClampNeg < (mI u 76 11).toNatClampNeg) && _) = false
        rw [decide_eq_false ((lt4 _ m7.1).1 d), Bool.false_and]
      · have i5 := ix5 h0 x7
        have v0 : vp_in (5 * x + 0) 70 := vin (by clear ih keep more; grind) (show (_ : Int32) < 70 by clear ih keep more; grind) (by decide)
        have e0 : mI u 83 (5 * x + 0 : Int32).toNatClampNeg = (shM u x.toNatClampNeg).1 := by
          rw [i5.1]
          rfl
        have t : couC x1 (mI u 76 11).toNatClampNeg (slCx (shM u)) (rwM u) (txM u) x.toNatClampNeg = slCx (shM u) x.toNatClampNeg := by
          rw [C3 e3]
          show (decide (x.toNatClampNeg < (mI u 76 11).toNatClampNeg) && _) = _
          rw [decide_eq_true ((lt4 _ m7.1).2 d), Bool.true_and]
        refine sg_m_isSleeper_0 ⟨v0, fun z => ⟨_, rfl, fun _ => more ?_, fun g => absurd g (by decide)⟩, fun z => ⟨v0, fun y => ⟨_, rfl, fun g => absurd rfl g, fun _ => ⟨fun _ => ⟨fun _ => keep ?_, fun g => absurd g n7⟩, fun g => absurd g n6⟩⟩, fun y => ⟨_, rfl, fun _ => more ?_, fun g => absurd g (by decide)⟩⟩⟩
        · rw [t]; exact decide_eq_true (.inl (e0.symm.trans z))
        · rw [t]
          refine decide_eq_false (fun g => ?_)
          rcases g with g | g
          · exact z (e0.trans g)
          · exact y (e0.trans g)
        · rw [t]; exact decide_eq_true (.inr (e0.symm.trans y))
    · refine ⟨fun _ => ?_, fun z => absurd z e3⟩
      by_cases e6 : x1 = 6
      · have n7 : ¬ x1 = 7 := by rw [e6]; decide
        refine ⟨fun z => absurd e6 z, fun _ => ⟨fun d => ⟨fun _ => keep ?_, fun z => absurd z n7⟩, fun d => ⟨vin h0 (show (_ : Int32) < 6 from Int32.not_le.mp d) (by decide), fun g => more ?_, fun g => ⟨fun _ => keep ?_, fun z => absurd z n7⟩⟩⟩⟩
        · rw [C6 e6]
          show (decide (x.toNatClampNeg < 6) && _) = false
          rw [decide_eq_false (l6.1 d), Bool.false_and]
        · rw [C6 e6]
          show (decide (x.toNatClampNeg < 6) && rwM u x.toNatClampNeg) = true
          rw [decide_eq_true (l6.2 d), Bool.true_and]
          exact decide_eq_true g
        · rw [C6 e6]
          show (decide (x.toNatClampNeg < 6) && rwM u x.toNatClampNeg) = false
          rw [decide_eq_true (l6.2 d), Bool.true_and]
          exact decide_eq_false g
      · refine ⟨fun _ => ⟨fun n7 => keep ?_, fun e7 => ⟨fun d => keep ?_, fun d => ⟨vin h0 (show (_ : Int32) < 4 from Int32.not_le.mp d) (by decide), fun g => keep ?_, fun g => more ?_⟩⟩⟩, fun z => absurd z e6⟩
        · unfold couC
          rw [if_neg e3, if_neg e6, if_neg n7]
        · rw [C7 e7]
          show (decide (x.toNatClampNeg < 4) && _) = false
          rw [decide_eq_false (l4.1 d), Bool.false_and]
        · rw [C7 e7]
          show (decide (x.toNatClampNeg < 4) && txM u x.toNatClampNeg) = false
          rw [decide_eq_true (l4.2 d), Bool.true_and]
          exact decide_eq_false (Int32.not_le.mpr g)
        · rw [C7 e7]
          show (decide (x.toNatClampNeg < 4) && txM u x.toNatClampNeg) = true
          rw [decide_eq_true (l4.2 d), Bool.true_and]
          exact decide_eq_true (Int32.not_lt.mp g)
  have z0 : (0 : Int32).toNatClampNeg = 0 := by decide
  exact sg_m_counts_0 (key 0 0 (by decide) (by decide) (by rw [z0]; rfl))
end ANK
