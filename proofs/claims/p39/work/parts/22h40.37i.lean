/-! ===== the diary: steps, kinds ===== -/
def fitN (f : Nat → Bool) : Nat → Bool
  | 0 => true
  | e + 1 => fitN f e && f e
theorem fit_t {f : Nat → Bool} {e : Nat} (h : fitN f e = true) (g : f e = true) : fitN f (e + 1) = true := by rw [fitN, h, g]; rfl
theorem fit_n {f : Nat → Bool} {e : Nat} (h : fitN f e = false) : fitN f (e + 1) = false := by rw [fitN, h]; rfl
theorem fit_m {f : Nat → Bool} {e : Nat} (g : f e = false) : fitN f (e + 1) = false := by rw [fitN, g, Bool.and_false]
theorem fit_f {f : Nat → Bool} {e : Nat} (g : f e = false) : ∀ k, e < k → fitN f k = false
  | 0, h => by omega
  | k + 1, h => by
    by_cases c : e = k
    · rw [← c]; exact fit_m g
    · exact fit_n (fit_f g k (by omega))
theorem fitN_cg {f f' : Nat → Bool} : ∀ k, (∀ e, e < k → f' e = f e) → fitN f' k = fitN f k
  | 0, _ => rfl
  | k + 1, h => by rw [fitN, fitN, fitN_cg k (fun e he => h e (by omega)), h k (by omega)]
def ft1 (n s first kind step k : Int32) (nw ns nd : Nat → Int32) (e : Nat) : Bool := decide (ns e = s → plnV n first kind step k 0 (nw e).toNatClampNeg = (nd e).toInt)
theorem ft1_cg {n s first kind step k : Int32} {nw ns nd nw' ns' nd' : Nat → Int32} {e : Nat} (h1 : nw' e = nw e) (h2 : ns' e = ns e) (h3 : nd' e = nd e) : ft1 n s first kind step k nw' ns' nd' e = ft1 n s first kind step k nw ns nd e := by
  unfold ft1
  rw [h1, h2, h3]
theorem tb_31 {c : Nat → Bool} : ∀ m, m ≤ 31 → tb (jmV c m) 31 = false
  | 0, _ => (show tb 0 31 = false by decide)
  | m + 1, h => by
    have i := tb_31 (c := c) m (by omega)
    cases k : c m with
    | false => rw [jmV_0 k]; exact i
    | true =>
      rw [jmV_1 k]
      have o0 : 0 ≤ Int32.ofNat m ∧ Int32.ofNat m < 32 ∧ (Int32.ofNat m).toNatClampNeg = m := (show ∀ m, m < 31 → 0 ≤ Int32.ofNat m ∧ Int32.ofNat m < 32 ∧ (Int32.ofNat m).toNatClampNeg = m from by decide) m (by omega)
      rw [tbo o0.1 o0.2.1 (by decide), i, o0.2.2, Bool.false_or]
      exact decide_eq_false (by omega)
theorem bcV_t {x a : Int32} (h : tb x 31 = false) (ha : a.toInt = (cnt x 31 : Int)) : a = bcV x := by
  have l := cnt_le x 31
  have e : cnt x 32 = cnt x 31 := cnt_hi (n := 31) 32 (by decide) (Nat.le_refl _) (fun i a b => by
    have : i = 31 := by omega
    rw [this]; exact h)
  rw [(bcV_cnt x).1, e]
  apply Int32.toInt_inj.mp
  rw [ha]
  exact ((show ∀ k, k < 32 → (Int32.ofNat k).toInt = ((k : Nat) : Int) from by decide) _ (by omega)).symm
theorem ix3n {x : Int32} (h0 : 0 ≤ x) (h12 : x < 12) : (3 * x : Int32).toNatClampNeg = 3 * x.toNatClampNeg ∧ (3 * x + 1 : Int32).toNatClampNeg = 3 * x.toNatClampNeg + 1 ∧ (3 * x + 2 : Int32).toNatClampNeg = 3 * x.toNatClampNeg + 2 := by
  have key : ∀ i, i < 12 → (3 * Int32.ofNat i : Int32).toNatClampNeg = 3 * i ∧ (3 * Int32.ofNat i + 1 : Int32).toNatClampNeg = 3 * i + 1 ∧ (3 * Int32.ofNat i + 2 : Int32).toNatClampNeg = 3 * i + 2 := by decide
  have l := tn_lt h0 h12
  have e : (12 : Int32).toNatClampNeg = 12 := by decide
  have q := key x.toNatClampNeg (by omega)
  rw [i32_nat h0] at q
  exact q
section ANI
variable {G : pG} {u v : pM} {Q : Option Value → pM → Prop}
theorem c_fitsx {x2 x3 x4 x5 : Int32} (hp : pl (mR u 2 10)) (hK : PlK u (mR u 2 10)) (hj : 0 ≤ mI u 14 0 ∧ mI u 14 0 ≤ 12) (hw : ∀ e, e < (mI u 14 0).toNatClampNeg → 0 ≤ mI u 15 e ∧ mI u 15 e ≤ 99) (h2 : 0 ≤ x2 ∧ x2 < mI u (mR u 2 10) 1) (hf : 0 ≤ (shF u (mR u 2 10) x2.toNatClampNeg).2.1 ∧ (shF u (mR u 2 10) x2.toNatClampNeg).2.1 < mI u (mR u 2 10) 0) (hk : kdK x3 x4) (h5 : -9 ≤ x5.toInt ∧ x5.toInt ≤ 9) : Ws G Di_fits 0 [(0, .ref 14), (1, .ref (mR u 2 10)), (2, .int x2), (3, .int x3), (4, .int x4), (5, .int x5)] [] u (RI fun a u' => u = u' ∧ (¬ a = 0 ↔ fitN (ft1 (mI u (mR u 2 10) 0) x2 (shF u (mR u 2 10) x2.toNatClampNeg).2.1 x3 x5 x4 (mI u 15) (mI u 16) (mI u 17)) (mI u 14 0).toNatClampNeg = true)) := by
  have l2 := Int32.lt_of_lt_of_le h2.2 hK.2.1.2
  have r1 := st30 hK.1.2 hf
  have z0 : (0 : Int32).toNatClampNeg = 0 := by decide
  have e1 : mI u (shO u (mR u 2 10) x2) 1 = (shF u (mR u 2 10) x2.toNatClampNeg).2.1 := by
    rw [shO_in h2.1 h2.2 l2]
    rfl
  have key : ∀ x : Int32, 0 ≤ x → x ≤ mI u 14 0 → fitN (ft1 (mI u (mR u 2 10) 0) x2 (shF u (mR u 2 10) x2.toNatClampNeg).2.1 x3 x5 x4 (mI u 15) (mI u 16) (mI u 17)) x.toNatClampNeg = true → Ws G Di_fits 13 [(0, .ref 14), (1, .ref (mR u 2 10)), (2, .int x2), (3, .int x3), (4, .int x4), (5, .int x5), (6, .int (shF u (mR u 2 10) x2.toNatClampNeg).2.1), (7, .int x)] [] u (RI fun a u' => u = u' ∧ (¬ a = 0 ↔ fitN (ft1 (mI u (mR u 2 10) 0) x2 (shF u (mR u 2 10) x2.toNatClampNeg).2.1 x3 x5 x4 (mI u 15) (mI u 16) (mI u 17)) (mI u 14 0).toNatClampNeg = true)) := by
    refine upI (mI u 14 0) _ (fun x ih h0 hx ht => sg_Di_fits_13 (pl_ok hp) ⟨fun c => ⟨_, rfl, rfl, ?_⟩, fun c => ⟨fun d => ?_, fun d => ?_⟩⟩)
    · rw [Int32.le_antisymm hx c] at ht
      exact ⟨fun _ => ht, fun _ => by decide⟩
    · exact absurd (Int32.le_trans hj.2 d) c
    have xm := Int32.not_le.mp c
    have x12 := Int32.not_le.mp d
    have xN := tn_lt h0 xm
    have su := stU h0 c
    have sx := tn_succ h0 c
    have v12 : vp_in x 12 := vin h0 (show (_ : Int32) < 12 from x12) (by decide)
    refine ⟨v12, fun e => ih c su.1 su.2 ?_, fun e => ⟨v12, ?_⟩⟩
    · rw [sx]
      exact fit_t ht (decide_eq_true (fun z => absurd z e))
    have wb := hw _ xN
    have N9 : (mI u 15 x.toNatClampNeg).toNatClampNeg ≤ 1000000000 := by have := tn_le wb.2; have e : (99 : Int32).toNatClampNeg = 99 := (by decide); omega
    refine kJ (c_wayOfx hk h5 ⟨by decide, by decide⟩ ⟨wb.1, Int32.le_trans wb.2 (by decide)⟩) (fun y v q => ⟨v12, ?_⟩)
    obtain ⟨rfl, ey⟩ := q
    rw [z0] at ey
    rw [wr_dAt hK.1.1 hK.1.2]
    have pl := wr_pl (W := 0) hK.1 hk h5 r1 N9 ey
    refine ⟨fun g => ih c su.1 su.2 ?_, fun g => ⟨_, rfl, rfl, ?_⟩⟩
    · rw [sx]
      refine fit_t ht (decide_eq_true (fun _ => ?_))
      rw [← pl, g]
    · rw [fit_f (e := x.toNatClampNeg) (decide_eq_false (fun z => g (Int32.toInt_inj.mp (pl.trans (z e))))) _ xN]
      exact ⟨fun z => absurd rfl z, fun z => absurd z (by decide)⟩
  refine sg_Di_fits_0 (pl_ok hp) ?_
  rw [e1]
  exact key 0 (by decide) hj.1 (by rw [z0]; rfl)
theorem e_fitsx {x1 x2 x3 x4 : Int32} (hM : InvM u) (hw : ∀ e, e < (mI u 76 28).toNatClampNeg → 0 ≤ mI u 92 (3 * e) ∧ mI u 92 (3 * e) ≤ 99) (h1 : 0 ≤ x1 ∧ x1 < mI u 76 11) (hf : 0 ≤ (shM u x1.toNatClampNeg).2.1 ∧ (shM u x1.toNatClampNeg).2.1 < mI u 76 10) (hk : kdK x2 x4) (h3 : -9 ≤ x3.toInt ∧ x3.toInt ≤ 9) : Ws G m_fits 0 [(0, .ref 76), (1, .int x1), (2, .int x2), (3, .int x3), (4, .int x4)] [] u (RI fun a u' => u = u' ∧ (¬ a = 0 ↔ fitN (ft1 (mI u 76 10) x1 (shM u x1.toNatClampNeg).2.1 x2 x3 x4 (fun e => mI u 92 (3 * e)) (fun e => mI u 92 (3 * e + 1)) (fun e => mI u 92 (3 * e + 2))) (mI u 76 28).toNatClampNeg = true)) := by
  have hj := hM.2.2.2.2.2
  have hn := hM.n10 (s := x1) h1.1 h1.2
  have l1 := Int32.lt_of_lt_of_le h1.2 hM.m7.2
  have r1 := st30 hn.2 hf
  have i5 := ix5 h1.1 l1
  have a0 := h1.1
  have z0 : (0 : Int32).toNatClampNeg = 0 := by decide
  have e1 : mI u 83 (5 * x1 + 1 : Int32).toNatClampNeg = (shM u x1.toNatClampNeg).2.1 := by
    rw [i5.2.1]
    rfl
  have v70 : vp_in (5 * x1 + 1) 70 := vin (by grind) (show (_ : Int32) < 70 by grind) (by decide)
  have key : ∀ x y : Int32, 0 ≤ x → x ≤ mI u 76 28 → (y = 1 ∧ fitN (ft1 (mI u 76 10) x1 (shM u x1.toNatClampNeg).2.1 x2 x3 x4 (fun e => mI u 92 (3 * e)) (fun e => mI u 92 (3 * e + 1)) (fun e => mI u 92 (3 * e + 2))) x.toNatClampNeg = true) ∨ (y = 0 ∧ fitN (ft1 (mI u 76 10) x1 (shM u x1.toNatClampNeg).2.1 x2 x3 x4 (fun e => mI u 92 (3 * e)) (fun e => mI u 92 (3 * e + 1)) (fun e => mI u 92 (3 * e + 2))) x.toNatClampNeg = false) → Ws G m_fits 6 [(0, .ref 76), (1, .int x1), (2, .int x2), (3, .int x3), (4, .int x4), (5, .int y), (6, .int x)] [] u (RI fun a u' => u = u' ∧ (¬ a = 0 ↔ fitN (ft1 (mI u 76 10) x1 (shM u x1.toNatClampNeg).2.1 x2 x3 x4 (fun e => mI u 92 (3 * e)) (fun e => mI u 92 (3 * e + 1)) (fun e => mI u 92 (3 * e + 2))) (mI u 76 28).toNatClampNeg = true)) := by
    refine upI (mI u 76 28) _ (fun x ih y h0 hx ht => sg_m_fits_6 ⟨fun c => ⟨?_, _, rfl, rfl, ?_⟩, fun c => ?_⟩)
    · rcases ht with ⟨q, _⟩ | ⟨q, _⟩ <;> rw [q]
      · decide
      · decide
    · rw [Int32.le_antisymm hx c] at ht
      rcases ht with ⟨q, t⟩ | ⟨q, t⟩ <;> rw [q, t]
      · exact ⟨fun _ => rfl, fun _ => by decide⟩
      · exact ⟨fun z => absurd rfl z, fun z => absurd z (by decide)⟩
    have xm := Int32.not_le.mp c
    have x12 : x < 12 := Int32.lt_of_lt_of_le xm hj.2
    have xN := tn_lt h0 xm
    have su := stU h0 c
    have sx := tn_succ h0 c
    have i3 := ix3n h0 x12
    refine ⟨fun z => ih c 0 su.1 su.2 (.inr ⟨rfl, ?_⟩), fun z => ?_⟩
    · rcases ht with ⟨q, _⟩ | ⟨_, t⟩
      · rw [q] at z; exact absurd z (by decide)
      · rw [sx]; exact fit_n t
    have t : fitN (ft1 (mI u 76 10) x1 (shM u x1.toNatClampNeg).2.1 x2 x3 x4 (fun e => mI u 92 (3 * e)) (fun e => mI u 92 (3 * e + 1)) (fun e => mI u 92 (3 * e + 2))) x.toNatClampNeg = true := by
      rcases ht with ⟨_, t⟩ | ⟨q, _⟩
      · exact t
      · exact absurd q z
    refine ⟨vin (by grind) (show (_ : Int32) < 36 by grind) (by decide), ?_⟩
    rw [i3.2.1]
    refine ⟨fun e => ih c 1 su.1 su.2 (.inl ⟨rfl, ?_⟩), fun e => ⟨v70, vin (by grind) (show (_ : Int32) < 36 by grind) (by decide), ?_⟩⟩
    · rw [sx]
      exact fit_t t (decide_eq_true (fun z => absurd z e))
    have wb := hw _ xN
    have N9 : (mI u 92 (3 * x.toNatClampNeg)).toNatClampNeg ≤ 1000000000 := by have := tn_le wb.2; have e : (99 : Int32).toNatClampNeg = 99 := (by decide); omega
    rw [e1, i3.1]
    refine kI (e_plainByx (W := 0) (N := (mI u 92 (3 * x.toNatClampNeg)).toNatClampNeg) hn hk h3 r1 (by decide) (by rw [Int32.toInt_toInt64]; exact tnX wb.1) (by decide) N9) (fun r v q => ⟨vin (by grind) (show (_ : Int32) < 36 by grind) (by decide), ?_⟩)
    obtain ⟨rfl, er⟩ := q
    rw [i3.2.2]
    refine ⟨fun g => ih c 0 su.1 su.2 (.inr ⟨rfl, ?_⟩), fun g => ih c 1 su.1 su.2 (.inl ⟨rfl, ?_⟩)⟩
    · rw [sx]
      exact fit_m (decide_eq_false (fun z => g (Int32.toInt_inj.mp (er.trans (z e)))))
    · rw [sx]
      refine fit_t t (decide_eq_true (fun _ => ?_))
      rw [← er, g]
  exact sg_m_fits_0 (key 0 1 (by decide) hj.1 (.inl ⟨rfl, by rw [z0]; rfl⟩))
/-! steps -/
def stpC (n s first kind k : Int32) (nw ns nd : Nat → Int32) (cN j : Nat) : Bool := fitN (ft1 n s first kind (Int32.ofNat j - 9) k nw ns nd) cN
def steQ (n m x1 : Int32) (sh : Nat → Sh5) (nw ns nd : Nat → Int32) (cN : Nat) (a kk : Int32) (S : Prop) : Prop := ((0 ≤ x1 ∧ x1 < m) ∧ a = jmV (stpC n x1 (sh x1.toNatClampNeg).2.1 (sh x1.toNatClampNeg).1 (sh x1.toNatClampNeg).2.2.2.2 nw ns nd cN) 19 ∧ kk = bcV a) ∨ (¬ (0 ≤ x1 ∧ x1 < m) ∧ a = -1 ∧ S)
theorem d_stepsy {x1 : Int32} (hC : InvC u) (hm : 0 ≤ mI u (mR u 2 10) 1 ∧ mI u (mR u 2 10) 1 ≤ 7) (hK : 0 < mI u (mR u 2 10) 1 → PlK u (mR u 2 10)) (hj : 0 ≤ mI u 14 0 ∧ mI u 14 0 ≤ 12) (hw : ∀ e, e < (mI u 14 0).toNatClampNeg → 0 ≤ mI u 15 e ∧ mI u 15 e ≤ 99) (hf : ∀ s, s < (mI u (mR u 2 10) 1).toNatClampNeg → 0 ≤ (shF u (mR u 2 10) s).2.1 ∧ (shF u (mR u 2 10) s).2.1 < mI u (mR u 2 10) 0) : Ws G D_steps 0 [(0, .ref 2), (1, .int x1)] [] u (RI fun a u' => Cl qB u u' ∧ steQ (mI u (mR u 2 10) 0) (mI u (mR u 2 10) 1) x1 (shF u (mR u 2 10)) (mI u 15) (mI u 16) (mI u 17) (mI u 14 0).toNatClampNeg a (mI u' 2 12) (u' = u)) := by
  refine sg_D_steps_0 (fun hp => ⟨fun a _ => ?_, fun a => ⟨_, rfl, Cl.rf hC, .inr ⟨fun z => a ⟨z.1, z.2, Int32.lt_of_lt_of_le z.2 hm.2⟩, rfl, rfl⟩⟩⟩)
  have a' : 0 ≤ x1 ∧ x1 < mI u (mR u 2 10) 1 ∧ x1 < 7 := a
  have hK' := hK (Int32.lt_of_le_of_lt a'.1 a'.2.1)
  have sN := tn_lt a'.1 a'.2.1
  have sv := hK'.2.2.1 _ sN
  have ok : okS (R0 (mR u 2 10 + 1) x1.toNatClampNeg) 4 := by rw [← shO_in a'.1 a'.2.1 a'.2.2]; exact shO_ok (pl_ok hp)
  rw [shO_in a'.1 a'.2.1 a'.2.2]
  have key : ∀ y x3 : Int32, -9 ≤ y → y ≤ 10 → x3 = jmV (stpC (mI u (mR u 2 10) 0) x1 (shF u (mR u 2 10) x1.toNatClampNeg).2.1 (shF u (mR u 2 10) x1.toNatClampNeg).1 (shF u (mR u 2 10) x1.toNatClampNeg).2.2.2.2 (mI u 15) (mI u 16) (mI u 17) (mI u 14 0).toNatClampNeg) (y + 9).toNatClampNeg → Ws G D_steps 28 [(0, .ref 2), (1, .int x1), (2, .ref (R0 (mR u 2 10 + 1) x1.toNatClampNeg)), (3, .int x3), (4, .int y)] [] u (RI fun a u' => Cl qB u u' ∧ steQ (mI u (mR u 2 10) 0) (mI u (mR u 2 10) 1) x1 (shF u (mR u 2 10)) (mI u 15) (mI u 16) (mI u 17) (mI u 14 0).toNatClampNeg a (mI u' 2 12) (u' = u)) := by
    refine upI 10 _ (fun y ih x3 y0 y1 e => sg_D_steps_28 ok ?_)
    obtain ⟨p9, A, B⟩ := qu_y y0 y1
    refine ⟨fun b => ⟨_, rfl, (Cq.rf.pI wr_D (by decide)).cl hC, .inl ⟨⟨a'.1, a'.2.1⟩, by rw [← B b]; exact e, mI_eq⟩⟩, fun b _ => ?_⟩
    obtain ⟨t, t1, t2, t3, t4, t5⟩ := A b
    have s9 := stp9 ⟨y0, Int32.not_lt.mp b⟩
    refine kI (c_fitsx (x3 := (shF u (mR u 2 10) x1.toNatClampNeg).1) (x4 := (shF u (mR u 2 10) x1.toNatClampNeg).2.2.2.2) hp hK' hj hw ⟨a'.1, a'.2.1⟩ (hf _ sN) sv.kd s9) (fun r v q => ?_)
    obtain ⟨rfl, hr⟩ := q
    have ec : stpC (mI u (mR u 2 10) 0) x1 (shF u (mR u 2 10) x1.toNatClampNeg).2.1 (shF u (mR u 2 10) x1.toNatClampNeg).1 (shF u (mR u 2 10) x1.toNatClampNeg).2.2.2.2 (mI u 15) (mI u 16) (mI u 17) (mI u 14 0).toNatClampNeg (y + 9).toNatClampNeg = fitN (ft1 (mI u (mR u 2 10) 0) x1 (shF u (mR u 2 10) x1.toNatClampNeg).2.1 (shF u (mR u 2 10) x1.toNatClampNeg).1 y (shF u (mR u 2 10) x1.toNatClampNeg).2.2.2.2 (mI u 15) (mI u 16) (mI u 17)) (mI u 14 0).toNatClampNeg := by
      unfold stpC
      rw [t2]
    refine ⟨fun g => ih t3 _ t4 t5 ?_, fun g => ih t3 _ t4 t5 ?_⟩
    · rw [t1, jmV_0 (by rw [ec]; exact Bool.eq_false_iff.mpr (fun z => hr.mpr z g)), e]
    · rw [t1, jmV_1 (by rw [ec]; exact hr.mp g), i32_nat p9, e]
  have z9 : ((-9 : Int32) + 9).toNatClampNeg = 0 := by decide
  exact key (-9) 0 (by decide) (by decide) (by rw [z9]; rfl)
theorem e_stepsy {x1 : Int32} (hM : InvM u) (hs : ∀ s, s < (mI u 76 11).toNatClampNeg → shV (shM u s)) (hw : ∀ e, e < (mI u 76 28).toNatClampNeg → 0 ≤ mI u 92 (3 * e) ∧ mI u 92 (3 * e) ≤ 99) (hf : ∀ s, s < (mI u 76 11).toNatClampNeg → 0 ≤ (shM u s).2.1 ∧ (shM u s).2.1 < mI u 76 10) : Ws G m_steps 0 [(0, .ref 76), (1, .int x1)] [] u (RI fun a u' => Mo mB u u' ∧ steQ (mI u 76 10) (mI u 76 11) x1 (shM u) (fun e => mI u 92 (3 * e)) (fun e => mI u 92 (3 * e + 1)) (fun e => mI u 92 (3 * e + 2)) (mI u 76 28).toNatClampNeg a (mI u' 76 2) (u' = u)) := by
  have m7 := hM.m7
  refine sg_m_steps_0 ⟨fun a => ?_, fun a => ⟨_, rfl, Mo.rf hM, .inr ⟨fun z => a ⟨z.1, by obtain ⟨p, q⟩ := z; obtain ⟨p', q'⟩ := m7; grind⟩, rfl, rfl⟩⟩⟩
  have xm : x1 < mI u 76 11 := by obtain ⟨p, q⟩ := a; obtain ⟨p', q'⟩ := m7; grind
  have l1 := Int32.lt_of_lt_of_le xm m7.2
  have sN := tn_lt a.1 xm
  have sv := hs _ sN
  have i5 := ix5 a.1 l1
  have a0 := a.1
  have v0 : vp_in (5 * x1 + 0) 70 := vin (by grind) (show (_ : Int32) < 70 by grind) (by decide)
  have v4 : vp_in (5 * x1 + 4) 70 := vin (by grind) (show (_ : Int32) < 70 by grind) (by decide)
  have key : ∀ y x2 : Int32, -9 ≤ y → y ≤ 10 → x2 = jmV (stpC (mI u 76 10) x1 (shM u x1.toNatClampNeg).2.1 (shM u x1.toNatClampNeg).1 (shM u x1.toNatClampNeg).2.2.2.2 (fun e => mI u 92 (3 * e)) (fun e => mI u 92 (3 * e + 1)) (fun e => mI u 92 (3 * e + 2)) (mI u 76 28).toNatClampNeg) (y + 9).toNatClampNeg → Ws G m_steps 15 [(0, .ref 76), (1, .int x1), (2, .int x2), (3, .int y)] [] u (RI fun a u' => Mo mB u u' ∧ steQ (mI u 76 10) (mI u 76 11) x1 (shM u) (fun e => mI u 92 (3 * e)) (fun e => mI u 92 (3 * e + 1)) (fun e => mI u 92 (3 * e + 2)) (mI u 76 28).toNatClampNeg a (mI u' 76 2) (u' = u)) := by
    refine upI 10 _ (fun y ih x2 y0 y1 e => sg_m_steps_15 ?_)
    obtain ⟨p9, A, B⟩ := qu_y y0 y1
    refine ⟨fun b => kI e_sizeOf (fun r v q => ?_), fun b => ⟨v0, v4, ?_⟩⟩
    · obtain ⟨rfl, er⟩ := q
      rw [B b] at e
      have eb := bcV_t (by rw [e]; exact tb_31 19 (by decide)) er
      exact ⟨_, rfl, (Mq.rf.pF (by decide)).mo hM, .inl ⟨⟨a.1, xm⟩, e, by rw [mI_eq]; exact eb⟩⟩
    obtain ⟨t, t1, t2, t3, t4, t5⟩ := A b
    have s9 := stp9 ⟨y0, Int32.not_lt.mp b⟩
    rw [i5.1, i5.2.2.2.2.1]
    refine kI (e_fitsx (x2 := (shM u x1.toNatClampNeg).1) (x4 := (shM u x1.toNatClampNeg).2.2.2.2) hM hw ⟨a.1, xm⟩ (hf _ sN) sv.kd s9) (fun r v q => ?_)
    obtain ⟨rfl, hr⟩ := q
    have ec : stpC (mI u 76 10) x1 (shM u x1.toNatClampNeg).2.1 (shM u x1.toNatClampNeg).1 (shM u x1.toNatClampNeg).2.2.2.2 (fun e => mI u 92 (3 * e)) (fun e => mI u 92 (3 * e + 1)) (fun e => mI u 92 (3 * e + 2)) (mI u 76 28).toNatClampNeg (y + 9).toNatClampNeg = fitN (ft1 (mI u 76 10) x1 (shM u x1.toNatClampNeg).2.1 (shM u x1.toNatClampNeg).1 y (shM u x1.toNatClampNeg).2.2.2.2 (fun e => mI u 92 (3 * e)) (fun e => mI u 92 (3 * e + 1)) (fun e => mI u 92 (3 * e + 2))) (mI u 76 28).toNatClampNeg := by
      unfold stpC
      rw [t2]
    refine ⟨fun g => ih t3 _ t4 t5 ?_, fun g => ih t3 _ t4 t5 ?_⟩
    · rw [t1, jmV_0 (by rw [ec]; exact Bool.eq_false_iff.mpr (fun z => hr.mpr z g)), e, Int32.or_zero]
    · rw [t1, jmV_1 (by rw [ec]; exact hr.mp g), i32_nat p9, e]
  have z9 : ((-9 : Int32) + 9).toNatClampNeg = 0 := by decide
  exact key (-9) 0 (by decide) (by decide) (by rw [z9]; rfl)
/-! kinds: kind and k by one number -/
end ANI
