/-! ===== mark ===== -/
def cbN (c : Nat → Bool) : Nat → Nat
  | 0 => 0
  | s + 1 => cbN c s + (if c s = true then 1 else 0)
theorem cb_1 {c : Nat → Bool} {s : Nat} (h : c s = true) : cbN c (s + 1) = cbN c s + 1 := by rw [cbN, if_pos h]
theorem cb_0 {c : Nat → Bool} {s : Nat} (h : c s = false) : cbN c (s + 1) = cbN c s := by rw [cbN, if_neg (by rw [h]; decide), Nat.add_zero]
theorem wkV_self {n d : Int32} (hn : 10 ≤ n ∧ n ≤ 30) : ¬ wkV n d d = 1 := by
  have hi := nI30 hn
  have d0 : (0 : Int32).toInt = 0 := by decide
  have e : dAt n (d - d).toInt64 = 0 := Int32.toInt_inj.mp (by rw [dAt_toInt (by omega), Int32.toInt_toInt64, Int32.sub_self, d0, Int.zero_emod])
  unfold wkV
  rw [wr_dAt hn.1 hn.2, e]
  obtain ⟨p, q⟩ := hn
  split
  · rename_i c; grind
  · decide
def mkCx (n x2 : Int32) (dr : Nat → Int32) (sh : Nat → Sh5) (w : Int32) (s q : Nat) : Bool := if x2 = 1 then decide (¬ q = s ∧ wkV n (dr s) (dr q) = 1) else decide (¬ q = s ∧ dAt n (dr s + goP (sh s) w).toInt64 = dAt n (dr q + goP (sh q) w).toInt64)
def marK (m x1 x2 : Int32) : Prop := (0 ≤ x1 ∧ x1 < m) ∧ 1 ≤ x2 ∧ x2 ≤ 5
def marT (kind x2 : Int32) : Prop := x2 = kind ∨ (x2 = 3 ∧ kind = 5)
def marV (n : Int32) (m : Nat) (x2 : Int32) (s : Nat) (dr : Nat → Int32) (sh : Nat → Sh5) (w : Int32) : Int32 := if x2 = 3 then (sh s).2.2.2.2 - 1 - (w - w / (sh s).2.2.2.2 * (sh s).2.2.2.2) else if x2 = 4 then (sh s).2.2.2.2 - (w - w / (sh s).2.2.2.2 * (sh s).2.2.2.2) else if x2 = 5 then (sh s).2.2.1 * ((sh s).2.2.2.2 - 2) + 1000 else Int32.ofNat (cbN (mkCx n x2 dr sh w s) m)
def marQ (n m x1 x2 : Int32) (dr : Nat → Int32) (sh : Nat → Sh5) (w a : Int32) (F S : Prop) : Prop := (marK m x1 x2 ∧ marT (sh x1.toNatClampNeg).1 x2 ∧ a = marV n m.toNatClampNeg x2 x1.toNatClampNeg dr sh w ∧ S) ∨ (marK m x1 x2 ∧ ¬ marT (sh x1.toNatClampNeg).1 x2 ∧ a = -3 ∧ F) ∨ (¬ marK m x1 x2 ∧ a = -1 ∧ S)
theorem m_nz {k : Int32} (h : 2 ≤ k ∧ k ≤ 9) : ¬ k = 0 := fun z => by rw [z] at h; exact absurd h.1 (by decide)
/-- a dreamer's way in k weeks -/
theorem way5 {k step : Int32} {a : Int64} {W : Nat} (hk : 2 ≤ k ∧ k ≤ 9) (hs : -9 ≤ step.toInt ∧ step.toInt ≤ 9) (ha : a.toInt = wayZ 5 k step W k.toNatClampNeg) : a.toInt32 = step * (k - 2) := by
  have q := kd29 hk
  have ek := tnX q.1
  have e1 : (k - 2).toInt = (k.toNatClampNeg : Int) - 2 := by
    rw [Int32.toInt_sub, show (2 : Int32).toInt = 2 by decide, Int.bmod_eq_of_le (by omega) (by omega), ek]
  have b := mul9 (B := 9) (D := (k.toNatClampNeg : Int) - 2) hs (by omega)
  have ea : a.toInt = step.toInt * ((k.toNatClampNeg : Int) - 2) := by
    rw [ha]
    unfold wayZ wyN
    rw [if_neg (by decide), if_neg (by decide), if_neg (by decide), if_pos rfl, if_neg (by decide), if_neg (by decide), if_neg (by decide), if_pos rfl, Nat.add_div_right _ (by omega)]
    rw [show (((W + k.toNatClampNeg : Nat) : Int) - 2 * (((W / k.toNatClampNeg).succ : Nat) : Int) - ((W : Int) - 2 * ((W / k.toNatClampNeg : Nat) : Int))) = (k.toNatClampNeg : Int) - 2 by omega]
  apply Int32.toInt_inj.mp
  rw [Int64.toInt_toInt32, ea, Int32.toInt_mul, e1]
section ANH
variable {G : pG} {u v : pM} {Q : Option Value → pM → Prop}
theorem c_neighx {x1 : Int32} (hp : pl (mR u 2 10)) (hK : PlK u (mR u 2 10)) (h1 : 0 ≤ x1 ∧ x1 < mI u (mR u 2 10) 1) : Ws G D_neighbours 0 [(0, .ref 2), (1, .int x1)] [] u (RI fun a u' => u = u' ∧ a = Int32.ofNat (cbN (mkCx (mI u (mR u 2 10) 0) 1 (mI u 8) (shF u (mR u 2 10)) (mI u 7 0) x1.toNatClampNeg) (mI u (mR u 2 10) 1).toNatClampNeg)) := by
  have hm := hK.2.1
  have l1 := Int32.lt_of_lt_of_le h1.2 hm.2
  have e1 : snD u 7 x1 = mI u 8 x1.toNatClampNeg := by
    unfold snD
    rw [if_pos ⟨h1.1, l1⟩]
  have key : ∀ x a : Int32, 0 ≤ x → x ≤ mI u (mR u 2 10) 1 → a = Int32.ofNat (cbN (mkCx (mI u (mR u 2 10) 0) 1 (mI u 8) (shF u (mR u 2 10)) (mI u 7 0) x1.toNatClampNeg) x.toNatClampNeg) → Ws G D_neighbours 4 [(0, .ref 2), (1, .int x1), (2, .int a), (3, .int x)] [] u (RI fun a u' => u = u' ∧ a = Int32.ofNat (cbN (mkCx (mI u (mR u 2 10) 0) 1 (mI u 8) (shF u (mR u 2 10)) (mI u 7 0) x1.toNatClampNeg) (mI u (mR u 2 10) 1).toNatClampNeg)) := by
    refine upI (mI u (mR u 2 10) 1) _ (fun x ih a h0 hx ea => sg_D_neighbours_4 (fun _ => ⟨fun c => ⟨_, rfl, rfl, by rw [ea, Int32.le_antisymm hx c]⟩, fun c _ => ?_⟩))
    have xm := Int32.not_le.mp c
    have lx := Int32.lt_of_lt_of_le xm hm.2
    have su := stU h0 c
    have sx := tn_succ h0 c
    have ex : snD u 7 x = mI u 8 x.toNatClampNeg := by
      unfold snD
      rw [if_pos ⟨h0, lx⟩]
    rw [e1, ex]
    refine ⟨fun d => ih c _ su.1 su.2 ?_, fun d => ih c _ su.1 su.2 ?_⟩
    · rw [sx, cb_0 (by unfold mkCx; rw [if_pos rfl]; exact decide_eq_false (fun z => d z.2)), ea]
    · rw [sx, cb_1 (by
        unfold mkCx
        rw [if_pos rfl]
        refine decide_eq_true ⟨fun z => ?_, d⟩
        rw [z] at d
        exact wkV_self hK.1 d), ofN_s, ea]
  have z0 : (0 : Int32).toNatClampNeg = 0 := by decide
  exact sg_D_neighbours_0 (key 0 0 (by decide) hm.1 (by rw [z0]; rfl))
theorem c_wantedx {x : Int32} (hp : pl (mR u 2 10)) (hK : PlK u (mR u 2 10)) (h1 : 0 ≤ x ∧ x < mI u (mR u 2 10) 1) : Ws G Sn_wanted 0 [(0, .ref 7), (1, .ref (mR u 2 10)), (2, .int x)] [] u (RI fun a u' => u = u' ∧ a = dAt (mI u (mR u 2 10) 0) (mI u 8 x.toNatClampNeg + goP (shF u (mR u 2 10) x.toNatClampNeg) (mI u 7 0)).toInt64) := by
  have l1 := Int32.lt_of_lt_of_le h1.2 hK.2.1.2
  have eg : goC (mI u (R0 (mR u 2 10 + 1) x.toNatClampNeg) 0) (mI u (R0 (mR u 2 10 + 1) x.toNatClampNeg) 4) (mI u (R0 (mR u 2 10 + 1) x.toNatClampNeg) 2) (mI u 7 0) = goP (shF u (mR u 2 10) x.toNatClampNeg) (mI u 7 0) := go_P (hK.2.2.1 _ (tn_lt h1.1 h1.2))
  have ed : snD u 7 x = mI u 8 x.toNatClampNeg := by
    unfold snD
    rw [if_pos ⟨h1.1, l1⟩]
  refine sg_Sn_wanted_0 (by decide) (pl_ok hp) ⟨_, rfl, rfl, ?_⟩
  rw [shO_in h1.1 h1.2 l1, eg, ed, wr_dAt hK.1.1 hK.1.2]
theorem c_rivalsx {x1 : Int32} (hp : pl (mR u 2 10)) (hK : PlK u (mR u 2 10)) (h1 : 0 ≤ x1 ∧ x1 < mI u (mR u 2 10) 1) : Ws G D_rivals 0 [(0, .ref 2), (1, .int x1)] [] u (RI fun a u' => u = u' ∧ a = Int32.ofNat (cbN (mkCx (mI u (mR u 2 10) 0) 2 (mI u 8) (shF u (mR u 2 10)) (mI u 7 0) x1.toNatClampNeg) (mI u (mR u 2 10) 1).toNatClampNeg)) := by
  have hm := hK.2.1
  have n12 : ¬ (2 : Int32) = 1 := by decide
  have key : ∀ x a : Int32, 0 ≤ x → x ≤ mI u (mR u 2 10) 1 → a = Int32.ofNat (cbN (mkCx (mI u (mR u 2 10) 0) 2 (mI u 8) (shF u (mR u 2 10)) (mI u 7 0) x1.toNatClampNeg) x.toNatClampNeg) → Ws G D_rivals 4 [(0, .ref 2), (1, .int x1), (2, .int a), (3, .int x)] [] u (RI fun a u' => u = u' ∧ a = Int32.ofNat (cbN (mkCx (mI u (mR u 2 10) 0) 2 (mI u 8) (shF u (mR u 2 10)) (mI u 7 0) x1.toNatClampNeg) (mI u (mR u 2 10) 1).toNatClampNeg)) := by
    refine upI (mI u (mR u 2 10) 1) _ (fun x ih a h0 hx ea => sg_D_rivals_4 (fun _ => ⟨fun c => ⟨_, rfl, rfl, by rw [ea, Int32.le_antisymm hx c]⟩, fun c => ?_⟩))
    have xm := Int32.not_le.mp c
    have su := stU h0 c
    have sx := tn_succ h0 c
    refine ⟨fun d => ih c _ su.1 su.2 ?_, fun d _ => kI (c_wantedx hp hK ⟨h0, xm⟩) (fun t v q => ?_)⟩
    · rw [sx, cb_0 (by unfold mkCx; rw [if_neg n12]; exact decide_eq_false (fun z => z.1 (by rw [d]))), ea]
    obtain ⟨rfl, et⟩ := q
    refine fun _ => kI (c_wantedx hp hK h1) (fun t' v q => ?_)
    obtain ⟨rfl, et'⟩ := q
    have ne : ¬ x.toNatClampNeg = x1.toNatClampNeg := fun z => d (tn_inj h0 h1.1 z)
    refine ⟨fun g => ih c _ su.1 su.2 ?_, fun g => ih c _ su.1 su.2 ?_⟩
    · rw [sx, cb_0 (by unfold mkCx; rw [if_neg n12]; exact decide_eq_false (fun z => g (by rw [et, et']; exact z.2.symm))), ea]
    · rw [sx, cb_1 (by unfold mkCx; rw [if_neg n12]; exact decide_eq_true ⟨ne, by rw [← et, ← et']; exact g.symm⟩), ofN_s, ea]
  have z0 : (0 : Int32).toNatClampNeg = 0 := by decide
  exact sg_D_rivals_0 (key 0 0 (by decide) hm.1 (by rw [z0]; rfl))
theorem d_marky {x1 x2 : Int32} (hC : InvC u) (hm : 0 ≤ mI u (mR u 2 10) 1 ∧ mI u (mR u 2 10) 1 ≤ 7) (hK : 0 < mI u (mR u 2 10) 1 → PlK u (mR u 2 10)) (hw : 0 ≤ mI u 7 0 ∧ mI u 7 0 ≤ 100000) (h0 : ¬ (marK (mI u (mR u 2 10) 1) x1 x2 ∧ ¬ marT (shF u (mR u 2 10) x1.toNatClampNeg).1 x2)) : Ws G D_mark 0 [(0, .ref 2), (1, .int x1), (2, .int x2)] [] u (RI fun a u' => Cl qB u u' ∧ marQ (mI u (mR u 2 10) 0) (mI u (mR u 2 10) 1) x1 x2 (mI u 8) (shF u (mR u 2 10)) (mI u 7 0) a (u' = dF u 3) (u' = u)) := by
  have no : ¬ marK (mI u (mR u 2 10) 1) x1 x2 → (RI fun a u' => Cl qB u u' ∧ marQ (mI u (mR u 2 10) 0) (mI u (mR u 2 10) 1) x1 x2 (mI u 8) (shF u (mR u 2 10)) (mI u 7 0) a (u' = dF u 3) (u' = u)) (some (.int (-1))) u := fun n => ⟨_, rfl, Cl.rf hC, .inr (.inr ⟨n, rfl, rfl⟩)⟩
  refine sg_D_mark_0 (fun hp => ⟨fun a => ⟨fun b => no (fun z => absurd b (Int32.not_lt.mpr z.2.1)), fun b => ⟨fun c _ => ?_, fun c => no (fun z => c z.2.2)⟩⟩, fun a => no (fun z => a ⟨z.1.1, z.1.2, Int32.lt_of_lt_of_le z.1.2 hm.2⟩)⟩)
  have a' : 0 ≤ x1 ∧ x1 < mI u (mR u 2 10) 1 ∧ x1 < 7 := a
  have k : marK (mI u (mR u 2 10) 1) x1 x2 := ⟨⟨a'.1, a'.2.1⟩, Int32.not_lt.mp b, c⟩
  have hK' := hK (Int32.lt_of_le_of_lt a'.1 a'.2.1)
  have sN := tn_lt a'.1 a'.2.1
  have sv := hK'.2.2.1 _ sN
  have s9 := stp9 sv.2.2.2.1
  have ok : okS (R0 (mR u 2 10 + 1) x1.toNatClampNeg) 4 := by rw [← shO_in a'.1 a'.2.1 a'.2.2]; exact shO_ok (pl_ok hp)
  rw [shO_in a'.1 a'.2.1 a'.2.2]
  have fin : marT (shF u (mR u 2 10) x1.toNatClampNeg).1 x2 → ∀ y, y = marV (mI u (mR u 2 10) 0) (mI u (mR u 2 10) 1).toNatClampNeg x2 x1.toNatClampNeg (mI u 8) (shF u (mR u 2 10)) (mI u 7 0) → (RI fun a u' => Cl qB u u' ∧ marQ (mI u (mR u 2 10) 0) (mI u (mR u 2 10) 1) x1 x2 (mI u 8) (shF u (mR u 2 10)) (mI u 7 0) a (u' = dF u 3) (u' = u)) (some (.int y)) u := fun t y e => ⟨_, rfl, Cl.rf hC, .inl ⟨k, t, e, rfl⟩⟩
  refine ⟨fun t => ⟨fun d => ?_, fun d => ?_, fun d => fin t _ ?_, fun d => fin t _ ?_, fun d => ?_⟩, fun t => absurd ⟨k, t⟩ h0⟩
  · refine kI (c_neighx hp hK' ⟨a'.1, a'.2.1⟩) (fun y v q => ?_)
    obtain ⟨rfl, e⟩ := q
    refine fin t _ ?_
    unfold marV
    rw [if_neg (by rw [d]; decide), if_neg (by rw [d]; decide), if_neg (by rw [d]; decide), d]
    exact e
  · refine kI (c_rivalsx hp hK' ⟨a'.1, a'.2.1⟩) (fun y v q => ?_)
    obtain ⟨rfl, e⟩ := q
    refine fin t _ ?_
    unfold marV
    rw [if_neg (by rw [d]; decide), if_neg (by rw [d]; decide), if_neg (by rw [d]; decide), d]
    exact e
  · have kk : 2 ≤ (shF u (mR u 2 10) x1.toNatClampNeg).2.2.2.2 ∧ (shF u (mR u 2 10) x1.toNatClampNeg).2.2.2.2 ≤ 9 := sv.2.2.1 (by
      rcases t with t | t
      · show 3 ≤ mI u (R0 (mR u 2 10 + 1) x1.toNatClampNeg) 0
        rw [← t, d]; decide
      · show 3 ≤ mI u (R0 (mR u 2 10 + 1) x1.toNatClampNeg) 0
        rw [t.2]; decide)
    unfold marV wtS
    rw [if_pos d, if_pos (show 2 ≤ mI u (R0 (mR u 2 10 + 1) x1.toNatClampNeg) 4 from kk.1)]
    rfl
  · have kk : 2 ≤ (shF u (mR u 2 10) x1.toNatClampNeg).2.2.2.2 ∧ (shF u (mR u 2 10) x1.toNatClampNeg).2.2.2.2 ≤ 9 := sv.2.2.1 (by
      rcases t with t | t
      · show 3 ≤ mI u (R0 (mR u 2 10 + 1) x1.toNatClampNeg) 0
        rw [← t, d]; decide
      · show 3 ≤ mI u (R0 (mR u 2 10 + 1) x1.toNatClampNeg) 0
        rw [t.2]; decide)
    unfold marV wtT
    rw [if_pos (show 2 ≤ mI u (R0 (mR u 2 10 + 1) x1.toNatClampNeg) 4 from kk.1), if_neg (show ¬ x2 = 3 by rw [d]; decide), if_pos d]
    rfl
  · have d5 : x2 = 5 := by obtain ⟨⟨_, _⟩, p, q⟩ := k; obtain ⟨d1, d2, d3, d4⟩ := d; clear fin no t; grind
    have k5 : (shF u (mR u 2 10) x1.toNatClampNeg).1 = 5 := by
      rcases t with t | t
      · exact t.symm.trans d5
      · exact t.2
    have kk : 2 ≤ (shF u (mR u 2 10) x1.toNatClampNeg).2.2.2.2 ∧ (shF u (mR u 2 10) x1.toNatClampNeg).2.2.2.2 ≤ 9 := sv.2.2.1 (by rw [k5]; decide)
    refine sg_Sh_way_0 ok (kJ (c_wayOfx (kind := (shF u (mR u 2 10) x1.toNatClampNeg).1) (k := (shF u (mR u 2 10) x1.toNatClampNeg).2.2.2.2) (step := (shF u (mR u 2 10) x1.toNatClampNeg).2.2.1) (n := (shF u (mR u 2 10) x1.toNatClampNeg).2.2.2.2) sv.kd s9 hw ⟨(kd29 kk).1, Int32.le_trans kk.2 (by decide)⟩) (fun y v q => ⟨_, rfl, ?_⟩))
    obtain ⟨rfl, e⟩ := q
    refine fin t _ ?_
    rw [k5] at e
    unfold marV
    rw [if_neg (by rw [d5]; decide), if_neg (by rw [d5]; decide), if_pos d5, way5 kk s9 e]
theorem e_mark61 {x1 x2 : Int32} (hM : InvM u) (hs : ∀ s, s < (mI u 76 11).toNatClampNeg → shV (shM u s)) (hd : ∀ s, s < (mI u 76 11).toNatClampNeg → 0 ≤ mI u 84 s ∧ mI u 84 s < mI u 76 10) (k : marK (mI u 76 11) x1 x2) (t : marT (shM u x1.toNatClampNeg).1 x2) (hQ : Q (some (.int (marV (mI u 76 10) (mI u 76 11).toNatClampNeg x2 x1.toNatClampNeg (mI u 84) (shM u) (mI u 76 18)))) u) : Ws G m_mark 61 [(0, .ref 76), (1, .int x1), (2, .int x2), (3, .int (mI u 83 (5 * x1 + 4 : Int32).toNatClampNeg)), (4, .int 0), (5, .int 0)] [] u Q := by
  have m7 := hM.m7
  have l1 := Int32.lt_of_lt_of_le k.1.2 m7.2
  have hn := hM.n10 (s := x1) k.1.1 k.1.2
  have sN := tn_lt k.1.1 k.1.2
  have sv := hs _ sN
  have i5 := ix5 k.1.1 l1
  have nz : ¬ (mI u 76 10).toInt64 = 0 := i64_ne (Int32.lt_of_lt_of_le (by decide) hn.1)
  have v7 : ∀ x : Int32, 0 ≤ x → x < 7 → vp_in x 7 := fun x a b => vin a (show (_ : Int32) < 7 from b) (by decide)
  have v0 : ∀ x : Int32, 0 ≤ x → x < 7 → vp_in (5 * x + 0) 70 := fun x a b => vin (by grind) (show (_ : Int32) < 70 by grind) (by decide)
  have v2 : ∀ x : Int32, 0 ≤ x → x < 7 → vp_in (5 * x + 2) 70 := fun x a b => vin (by grind) (show (_ : Int32) < 70 by grind) (by decide)
  have v4 : ∀ x : Int32, 0 ≤ x → x < 7 → vp_in (5 * x + 4) 70 := fun x a b => vin (by grind) (show (_ : Int32) < 70 by grind) (by decide)
  have a1 := k.1.1
  have kk : x2 = 3 ∨ x2 = 4 ∨ x2 = 5 → 2 ≤ (shM u x1.toNatClampNeg).2.2.2.2 ∧ (shM u x1.toNatClampNeg).2.2.2.2 ≤ 9 := fun z => sv.2.2.1 (by
    rcases t with t | t
    · rw [← t]; rcases z with z | z | z <;> rw [z] <;> decide
    · rw [t.2]; decide)
  have e4 : mI u 83 (5 * x1 + 4 : Int32).toNatClampNeg = (shM u x1.toNatClampNeg).2.2.2.2 := by
    rw [i5.2.2.2.2.1]
    rfl
  have wt : ∀ x : Int32, 0 ≤ x → x < 7 → dAt (mI u 76 10) (mI u 84 x.toNatClampNeg + goV (mI u 83 (5 * x + 0 : Int32).toNatClampNeg) (mI u 83 (5 * x + 2 : Int32).toNatClampNeg) (mI u 83 (5 * x + 4 : Int32).toNatClampNeg) (mI u 76 18)).toInt64 = dAt (mI u 76 10) (mI u 84 x.toNatClampNeg + goP (shM u x.toNatClampNeg) (mI u 76 18)).toInt64 := fun x a b => by
    have j := ix5 a b
    rw [j.1, j.2.2.1, j.2.2.2.2.1]
    rfl
  have gk : ∀ x : Int32, 0 ≤ x → x < mI u 76 11 → 3 ≤ mI u 83 (5 * x + 0 : Int32).toNatClampNeg → ¬ mI u 83 (5 * x + 4 : Int32).toNatClampNeg = 0 := fun x a b z => by
    have j := ix5 a (Int32.lt_of_lt_of_le b m7.2)
    rw [j.1] at z
    rw [j.2.2.2.2.1]
    exact m_nz ((hs _ (tn_lt a b)).2.2.1 z)
  have key : ∀ x a : Int32, 0 ≤ x → x ≤ mI u 76 11 → a = Int32.ofNat (cbN (mkCx (mI u 76 10) x2 (mI u 84) (shM u) (mI u 76 18) x1.toNatClampNeg) x.toNatClampNeg) → Ws G m_mark 61 [(0, .ref 76), (1, .int x1), (2, .int x2), (3, .int (mI u 83 (5 * x1 + 4 : Int32).toNatClampNeg)), (4, .int a), (5, .int x)] [] u Q := by
    refine upI (mI u 76 11) _ (fun x ih a h0 hx ea => sg_m_mark_61 ⟨fun c => ?_, fun c => ?_⟩)
    · rw [Int32.le_antisymm hx c] at ea
      unfold marV at hQ
      rw [e4]
      refine ⟨fun d => ⟨m_nz (kk (.inl d)), ?_⟩, fun d => ⟨m_nz (kk (.inr (.inl d))), ?_⟩, fun d => ⟨v2 _ k.1.1 l1, ?_⟩, fun d => ?_⟩
      · rw [if_pos d] at hQ; exact hQ
      · rw [if_neg (by rw [d]; decide), if_pos d] at hQ; exact hQ
      · rw [if_neg (by rw [d]; decide), if_neg (by rw [d]; decide), if_pos d] at hQ
        rw [i5.2.2.1]
        exact hQ
      · rw [if_neg d.1, if_neg d.2.1, if_neg d.2.2, ← ea] at hQ; exact hQ
    have xm := Int32.not_le.mp c
    have lx := Int32.lt_of_lt_of_le xm m7.2
    have su := stU h0 c
    have sx := tn_succ h0 c
    have ne : ¬ x = x1 → ¬ x.toNatClampNeg = x1.toNatClampNeg := fun d z => d (tn_inj h0 k.1.1 z)
    have keep : mkCx (mI u 76 10) x2 (mI u 84) (shM u) (mI u 76 18) x1.toNatClampNeg x.toNatClampNeg = false → Ws G m_mark 61 [(0, .ref 76), (1, .int x1), (2, .int x2), (3, .int (mI u 83 (5 * x1 + 4 : Int32).toNatClampNeg)), (4, .int (a + 0)), (5, .int (x + 1))] [] u Q := fun g => ih c _ su.1 su.2 (by rw [sx, cb_0 g, ea, Int32.add_zero])
    have more : mkCx (mI u 76 10) x2 (mI u 84) (shM u) (mI u 76 18) x1.toNatClampNeg x.toNatClampNeg = true → Ws G m_mark 61 [(0, .ref 76), (1, .int x1), (2, .int x2), (3, .int (mI u 83 (5 * x1 + 4 : Int32).toNatClampNeg)), (4, .int (a + 1)), (5, .int (x + 1))] [] u Q := fun g => ih c _ su.1 su.2 (by rw [sx, cb_1 g, ea, ofN_s])
    refine ⟨fun d => ⟨v7 _ k.1.1 l1, v0 _ k.1.1 l1, v2 _ k.1.1 l1, v4 _ k.1.1 l1, gk _ k.1.1 k.1.2, nz, v7 _ h0 lx, v0 _ h0 lx, v2 _ h0 lx, v4 _ h0 lx, gk _ h0 xm, nz, ?_⟩, fun d => ⟨v7 _ k.1.1 l1, v7 _ h0 lx, ?_⟩⟩
    · rw [wt _ k.1.1 l1, wt _ h0 lx]
      refine ⟨fun g => ⟨fun _ => keep ?_, fun _ => keep ?_⟩, fun g => ⟨fun e => keep ?_, fun e => more ?_⟩⟩
      · unfold mkCx; rw [if_neg d]; exact decide_eq_false (fun z => g z.2)
      · unfold mkCx; rw [if_neg d]; exact decide_eq_false (fun z => g z.2)
      · unfold mkCx; rw [if_neg d]; exact decide_eq_false (fun z => z.1 (by rw [e]))
      · unfold mkCx; rw [if_neg d]; exact decide_eq_true ⟨ne e, g⟩
    · refine kI (e_areBesidex hn (hd _ sN) (hd _ (tn_lt h0 xm))) (fun y v q => ?_)
      obtain ⟨rfl, hy⟩ := q
      refine ⟨fun e => keep ?_, fun e => ⟨fun g => keep ?_, fun g => more ?_⟩⟩
      · unfold mkCx; rw [if_pos d]; exact decide_eq_false (fun z => z.1 (by rw [e]))
      · unfold mkCx; rw [if_pos d]; exact decide_eq_false (fun z => hy.mpr z.2 g)
      · unfold mkCx; rw [if_pos d]; exact decide_eq_true ⟨ne e, hy.mp g⟩
  have z0 : (0 : Int32).toNatClampNeg = 0 := by decide
  exact key 0 0 (by decide) m7.1 (by rw [z0]; rfl)
theorem e_marky {x1 x2 : Int32} (hM : InvM u) (hs : ∀ s, s < (mI u 76 11).toNatClampNeg → shV (shM u s)) (hd : ∀ s, s < (mI u 76 11).toNatClampNeg → 0 ≤ mI u 84 s ∧ mI u 84 s < mI u 76 10) (h0 : ¬ (marK (mI u 76 11) x1 x2 ∧ ¬ marT (shM u x1.toNatClampNeg).1 x2)) : Ws G m_mark 0 [(0, .ref 76), (1, .int x1), (2, .int x2)] [] u (RI fun a u' => Mo mB u u' ∧ marQ (mI u 76 10) (mI u 76 11) x1 x2 (mI u 84) (shM u) (mI u 76 18) a (u' = mt u 3) (u' = u)) := by
  have m7 := hM.m7
  refine sg_m_mark_0 ⟨fun a => ⟨fun b => ?_, fun b => ⟨_, rfl, Mo.rf hM, .inr (.inr ⟨fun z => b z.2, rfl, rfl⟩)⟩⟩, fun a => ⟨_, rfl, Mo.rf hM, .inr (.inr ⟨fun z => a ⟨z.1.1, by obtain ⟨p, q⟩ := z.1; obtain ⟨p', q'⟩ := m7; grind⟩, rfl, rfl⟩)⟩⟩
  have xm : x1 < mI u 76 11 := by obtain ⟨p, q⟩ := a; obtain ⟨p', q'⟩ := m7; grind
  have k : marK (mI u 76 11) x1 x2 := ⟨⟨a.1, xm⟩, b⟩
  have l1 := Int32.lt_of_lt_of_le xm m7.2
  have i5 := ix5 a.1 l1
  have a0 := a.1
  have v0 : vp_in (5 * x1 + 0) 70 := vin (by grind) (show (_ : Int32) < 70 by grind) (by decide)
  have v4 : vp_in (5 * x1 + 4) 70 := vin (by grind) (show (_ : Int32) < 70 by grind) (by decide)
  have e0 : mI u 83 (5 * x1 + 0 : Int32).toNatClampNeg = (shM u x1.toNatClampNeg).1 := by
    rw [i5.1]
    rfl
  have go : marT (shM u x1.toNatClampNeg).1 x2 → Ws G m_mark 61 [(0, .ref 76), (1, .int x1), (2, .int x2), (3, .int (mI u 83 (5 * x1 + 4 : Int32).toNatClampNeg)), (4, .int 0), (5, .int 0)] [] u (RI fun a u' => Mo mB u u' ∧ marQ (mI u 76 10) (mI u 76 11) x1 x2 (mI u 84) (shM u) (mI u 76 18) a (u' = mt u 3) (u' = u)) := fun t => e_mark61 hM hs hd k t ⟨_, rfl, Mo.rf hM, .inl ⟨k, t, rfl, rfl⟩⟩
  have bad : ¬ marT (shM u x1.toNatClampNeg).1 x2 → (RI fun a u' => Mo mB u u' ∧ marQ (mI u 76 10) (mI u 76 11) x1 x2 (mI u 84) (shM u) (mI u 76 18) a (u' = mt u 3) (u' = u)) (some (.int (-3))) (mt u 3) := fun t => absurd ⟨k, t⟩ h0
  refine ⟨v0, fun c => ⟨v4, go (.inl (c.symm.trans e0))⟩, fun c => ⟨fun d => bad ?_, fun d => ?_⟩⟩
  · rintro (z | z)
    · exact c (e0.trans z.symm)
    · exact d z.1
  · refine sg_m_isSleeper_0 ⟨v0, fun e => absurd (e.trans d.symm) c, fun e => ⟨v0, fun f => ⟨_, rfl, fun z => absurd rfl z, fun _ => bad ?_⟩, fun f => ⟨_, rfl, fun _ => ⟨v4, go (.inr ⟨d, e0.symm.trans f⟩)⟩, fun z => absurd z (by decide)⟩⟩⟩
    rintro (z | z)
    · exact c (e0.trans z.symm)
    · exact f (e0.trans z.2)
end ANH
