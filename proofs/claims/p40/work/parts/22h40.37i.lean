/-! ===== the diary: steps, kinds ===== -/
def fitN (f : Nat → Bool) : Nat → Bool
  | 0 => true
  | e + 1 => fitN f e && f e
theorem fit_t {f : Nat → Bool} {e : Nat} (h : fitN f e = true) (g : f e = true) : fitN f (e + 1) = true := by rw [fitN, h, g]; rfl
theorem fit_n {f : Nat → Bool} {e : Nat} (h : fitN f e = false) : fitN f (e + 1) = false := by rw [fitN, h]; rfl
theorem fit_m {f : Nat → Bool} {e : Nat} (g : f e = false) : fitN f (e + 1) = false := by rw [fitN, g, Bool.and_false]
theorem fit_f {f : Nat → Bool} {e : Nat} (g : f e = false) : ∀ k, e < k → fitN f k = false
  | 0, h => by omega
  | k + 1, h => by
    by_cases c : e = k
    · rw [← c]; exact fit_m g
    · exact fit_n (fit_f g k (by omega))
theorem fitN_cg {f f' : Nat → Bool} : ∀ k, (∀ e, e < k → f' e = f e) → fitN f' k = fitN f k
  | 0, _ => rfl
  | k + 1, h => by rw [fitN, fitN, fitN_cg k (fun e he => h e (by omega)), h k (by omega)]
def ft1 (n s first kind step k : Int32) (nw ns nd : Nat → Int32) (e : Nat) : Bool := decide (ns e = s → plnV n first kind step k 0 (nw e).toNatClampNeg = (nd e).toInt)
theorem ft1_cg {n s first kind step k : Int32} {nw ns nd nw' ns' nd' : Nat → Int32} {e : Nat} (h1 : nw' e = nw e) (h2 : ns' e = ns e) (h3 : nd' e = nd e) : ft1 n s first kind step k nw' ns' nd' e = ft1 n s first kind step k nw ns nd e := by
  unfold ft1
  rw [h1, h2, h3]
theorem ix3n {x : Int32} (h0 : 0 ≤ x) (h12 : x < 12) : (3 * x : Int32).toNatClampNeg = 3 * x.toNatClampNeg ∧ (3 * x + 1 : Int32).toNatClampNeg = 3 * x.toNatClampNeg + 1 ∧ (3 * x + 2 : Int32).toNatClampNeg = 3 * x.toNatClampNeg + 2 := by
  have key : ∀ i, i < 12 → (3 * Int32.ofNat i : Int32).toNatClampNeg = 3 * i ∧ (3 * Int32.ofNat i + 1 : Int32).toNatClampNeg = 3 * i + 1 ∧ (3 * Int32.ofNat i + 2 : Int32).toNatClampNeg = 3 * i + 2 := by decide
  have l := tn_lt h0 h12
  have e : (12 : Int32).toNatClampNeg = 12 := by decide
  have q := key x.toNatClampNeg (by omega)
  rw [i32_nat h0] at q
  exact q
section ANI
variable {G : pG} {u v : pM} {Q : Option Value → pM → Prop}
theorem c_fitsx {x2 x3 x4 x5 : Int32} (hp : pl (mR u 2 10)) (hK : PlK u (mR u 2 10)) (hj : 0 ≤ mI u 14 0 ∧ mI u 14 0 ≤ 12) (hw : ∀ e, e < (mI u 14 0).toNatClampNeg → 0 ≤ mI u 15 e ∧ mI u 15 e ≤ 99) (h2 : 0 ≤ x2 ∧ x2 < mI u (mR u 2 10) 1) (hf : 0 ≤ (shF u (mR u 2 10) x2.toNatClampNeg).2.1 ∧ (shF u (mR u 2 10) x2.toNatClampNeg).2.1 < mI u (mR u 2 10) 0) (hk : kdK x3 x4) (h5 : -9 ≤ x5.toInt ∧ x5.toInt ≤ 9) : Ws G Di_fits 0 [(0, .ref 14), (1, .ref (mR u 2 10)), (2, .int x2), (3, .int x3), (4, .int x4), (5, .int x5)] [] u (RI fun a u' => u = u' ∧ (¬ a = 0 ↔ fitN (ft1 (mI u (mR u 2 10) 0) x2 (shF u (mR u 2 10) x2.toNatClampNeg).2.1 x3 x5 x4 (mI u 15) (mI u 16) (mI u 17)) (mI u 14 0).toNatClampNeg = true)) := by
  have l2 := Int32.lt_of_lt_of_le h2.2 hK.2.1.2
  have r1 := st30 hK.1.2 hf
  have z0 : (0 : Int32).toNatClampNeg = 0 := by decide
  have e1 : mI u (shO u (mR u 2 10) x2) 1 = (shF u (mR u 2 10) x2.toNatClampNeg).2.1 := by
    rw [shO_in h2.1 h2.2 l2]
    rfl
  have key : ∀ x : Int32, 0 ≤ x → x ≤ mI u 14 0 → fitN (ft1 (mI u (mR u 2 10) 0) x2 (shF u (mR u 2 10) x2.toNatClampNeg).2.1 x3 x5 x4 (mI u 15) (mI u 16) (mI u 17)) x.toNatClampNeg = true → Ws G Di_fits 13 [(0, .ref 14), (1, .ref (mR u 2 10)), (2, .int x2), (3, .int x3), (4, .int x4), (5, .int x5), (6, .int (shF u (mR u 2 10) x2.toNatClampNeg).2.1), (7, .int x)] [] u (RI fun a u' => u = u' ∧ (¬ a = 0 ↔ fitN (ft1 (mI u (mR u 2 10) 0) x2 (shF u (mR u 2 10) x2.toNatClampNeg).2.1 x3 x5 x4 (mI u 15) (mI u 16) (mI u 17)) (mI u 14 0).toNatClampNeg = true)) := by
    refine upI (mI u 14 0) _ (fun x ih h0 hx ht => sg_Di_fits_13 (pl_ok hp) ⟨fun c => ⟨_, rfl, rfl, ?_⟩, fun c => ⟨fun d => ?_, fun d => ?_⟩⟩)
    · rw [Int32.le_antisymm hx c] at ht
      exact ⟨fun _ => ht, fun _ => by decide⟩
    · exact absurd (Int32.le_trans hj.2 d) c
    have xm := Int32.not_le.mp c
    have x12 := Int32.not_le.mp d
    have xN := tn_lt h0 xm
    have su := stU h0 c
    have sx := tn_succ h0 c
    have v12 : vp_in x 12 := vin h0 (show (_ : Int32) < 12 from x12) (by decide)
    refine ⟨v12, fun e => ih c su.1 su.2 ?_, fun e => ⟨v12, ?_⟩⟩
    · rw [sx]
      exact fit_t ht (decide_eq_true (fun z => absurd z e))
    have wb := hw _ xN
    have N9 : (mI u 15 x.toNatClampNeg).toNatClampNeg ≤ 1000000000 := by have := tn_le wb.2; have e : (99 : Int32).toNatClampNeg = 99 := (by decide); omega
    refine kJ (c_wayOfx hk h5 ⟨by decide, by decide⟩ ⟨wb.1, Int32.le_trans wb.2 (by decide)⟩) (fun y v q => ⟨v12, ?_⟩)
    obtain ⟨rfl, ey⟩ := q
    rw [z0] at ey
    rw [wr_dAt hK.1.1 hK.1.2]
    have pl := wr_pl (W := 0) hK.1 hk h5 r1 N9 ey
    refine ⟨fun g => ih c su.1 su.2 ?_, fun g => ⟨_, rfl, rfl, ?_⟩⟩
    · rw [sx]
      refine fit_t ht (decide_eq_true (fun _ => ?_))
      rw [← pl, g]
    · rw [fit_f (e := x.toNatClampNeg) (decide_eq_false (fun z => g (Int32.toInt_inj.mp (pl.trans (z e))))) _ xN]
      exact ⟨fun z => absurd rfl z, fun z => absurd z (by decide)⟩
  refine sg_Di_fits_0 (pl_ok hp) ?_
  rw [e1]
  exact key 0 (by decide) hj.1 (by rw [z0]; rfl)
theorem e_fitsx {x1 x2 x3 x4 : Int32} (hM : InvM u) (hw : ∀ e, e < (mI u 76 28).toNatClampNeg → 0 ≤ mI u 92 (3 * e) ∧ mI u 92 (3 * e) ≤ 99) (h1 : 0 ≤ x1 ∧ x1 < mI u 76 11) (hf : 0 ≤ (shM u x1.toNatClampNeg).2.1 ∧ (shM u x1.toNatClampNeg).2.1 < mI u 76 10) (hk : kdK x2 x4) (h3 : -9 ≤ x3.toInt ∧ x3.toInt ≤ 9) : Ws G m_fits 0 [(0, .ref 76), (1, .int x1), (2, .int x2), (3, .int x3), (4, .int x4)] [] u (RI fun a u' => u = u' ∧ (¬ a = 0 ↔ fitN (ft1 (mI u 76 10) x1 (shM u x1.toNatClampNeg).2.1 x2 x3 x4 (fun e => mI u 92 (3 * e)) (fun e => mI u 92 (3 * e + 1)) (fun e => mI u 92 (3 * e + 2))) (mI u 76 28).toNatClampNeg = true)) := by
  have hj := hM.2.2.2.2.2
  have hn := hM.n10 (s := x1) h1.1 h1.2
  have l1 := Int32.lt_of_lt_of_le h1.2 hM.m7.2
  have r1 := st30 hn.2 hf
  have i5 := ix5 h1.1 l1
  have a0 := h1.1
  have z0 : (0 : Int32).toNatClampNeg = 0 := by decide
  have e1 : mI u 83 (5 * x1 + 1 : Int32).toNatClampNeg = (shM u x1.toNatClampNeg).2.1 := by
    rw [i5.2.1]
    rfl
  have v70 : vp_in (5 * x1 + 1) 70 := vin (by grind) (show (_ : Int32) < 70 by grind) (by decide)
  have key : ∀ x y : Int32, 0 ≤ x → x ≤ mI u 76 28 → (y = 1 ∧ fitN (ft1 (mI u 76 10) x1 (shM u x1.toNatClampNeg).2.1 x2 x3 x4 (fun e => mI u 92 (3 * e)) (fun e => mI u 92 (3 * e + 1)) (fun e => mI u 92 (3 * e + 2))) x.toNatClampNeg = true) ∨ (y = 0 ∧ fitN (ft1 (mI u 76 10) x1 (shM u x1.toNatClampNeg).2.1 x2 x3 x4 (fun e => mI u 92 (3 * e)) (fun e => mI u 92 (3 * e + 1)) (fun e => mI u 92 (3 * e + 2))) x.toNatClampNeg = false) → Ws G m_fits 6 [(0, .ref 76), (1, .int x1), (2, .int x2), (3, .int x3), (4, .int x4), (5, .int y), (6, .int x)] [] u (RI fun a u' => u = u' ∧ (¬ a = 0 ↔ fitN (ft1 (mI u 76 10) x1 (shM u x1.toNatClampNeg).2.1 x2 x3 x4 (fun e => mI u 92 (3 * e)) (fun e => mI u 92 (3 * e + 1)) (fun e => mI u 92 (3 * e + 2))) (mI u 76 28).toNatClampNeg = true)) := by
    refine upI (mI u 76 28) _ (fun x ih y h0 hx ht => sg_m_fits_6 ⟨fun c => ⟨?_, _, rfl, rfl, ?_⟩, fun c => ?_⟩)
    · rcases ht with ⟨q, _⟩ | ⟨q, _⟩ <;> rw [q]
      · decide
      · decide
    · rw [Int32.le_antisymm hx c] at ht
      rcases ht with ⟨q, t⟩ | ⟨q, t⟩ <;> rw [q, t]
      · exact ⟨fun _ => rfl, fun _ => by decide⟩
      · exact ⟨fun z => absurd rfl z, fun z => absurd z (by decide)⟩
    have xm := Int32.not_le.mp c
    have x12 : x < 12 := Int32.lt_of_lt_of_le xm hj.2
    have xN := tn_lt h0 xm
    have su := stU h0 c
    have sx := tn_succ h0 c
    have i3 := ix3n h0 x12
    refine ⟨fun z => ih c 0 su.1 su.2 (.inr ⟨rfl, ?_⟩), fun z => ?_⟩
    · rcases ht with ⟨q, _⟩ | ⟨_, t⟩
      · rw [q] at z; exact absurd z (by decide)
      · rw [sx]; exact fit_n t
    have t : fitN (ft1 (mI u 76 10) x1 (shM u x1.toNatClampNeg).2.1 x2 x3 x4 (fun e => mI u 92 (3 * e)) (fun e => mI u 92 (3 * e + 1)) (fun e => mI u 92 (3 * e + 2))) x.toNatClampNeg = true := by
      rcases ht with ⟨_, t⟩ | ⟨q, _⟩
      · exact t
      · exact absurd q z
    refine ⟨vin (by grind) (show (_ : Int32) < 36 by grind) (by decide), ?_⟩
    rw [i3.2.1]
    refine ⟨fun e => ih c 1 su.1 su.2 (.inl ⟨rfl, ?_⟩), fun e => ⟨v70, vin (by grind) (show (_ : Int32) < 36 by grind) (by decide), ?_⟩⟩
    · rw [sx]
      exact fit_t t (decide_eq_true (fun z => absurd z e))
    have wb := hw _ xN
    have N9 : (mI u 92 (3 * x.toNatClampNeg)).toNatClampNeg ≤ 1000000000 := by have := tn_le wb.2; have e : (99 : Int32).toNatClampNeg = 99 := (by decide); omega
    rw [e1, i3.1]
    refine kI (e_plainByx (W := 0) (N := (mI u 92 (3 * x.toNatClampNeg)).toNatClampNeg) hn hk h3 r1 (by decide) (by rw [Int32.toInt_toInt64]; exact tnX wb.1) (by decide) N9) (fun r v q => ⟨vin (by grind) (show (_ : Int32) < 36 by grind) (by decide), ?_⟩)
    obtain ⟨rfl, er⟩ := q
    rw [i3.2.2]
    refine ⟨fun g => ih c 0 su.1 su.2 (.inr ⟨rfl, ?_⟩), fun g => ih c 1 su.1 su.2 (.inl ⟨rfl, ?_⟩)⟩
    · rw [sx]
      exact fit_m (decide_eq_false (fun z => g (Int32.toInt_inj.mp (er.trans (z e)))))
    · rw [sx]
      refine fit_t t (decide_eq_true (fun _ => ?_))
      rw [← er, g]
  exact sg_m_fits_0 (key 0 1 (by decide) hj.1 (.inl ⟨rfl, by rw [z0]; rfl⟩))
/-! steps -/
/-! kinds: kind and k by one number -/
def kiD (j : Nat) : Int32 × Int32 := if j = 0 then (0, 0) else (Int32.ofNat (3 + (j - 1) / 8), Int32.ofNat (2 + (j - 1) % 8))
def kiC (j : Nat) : Int32 := 10 * (kiD j).1 + (kiD j).2
def kiF (c : Nat → Bool) : Nat → Int32 × Int32
  | 0 => (-9, 0)
  | j + 1 => if c j = true then (if (kiF c j).2 = 0 then (kiC j, (kiF c j).2 + 1) else ((kiF c j).1, (kiF c j).2 + 1)) else kiF c j
theorem kiF_cg {c c' : Nat → Bool} : ∀ k, (∀ j, j < k → c' j = c j) → kiF c' k = kiF c k
  | 0, _ => rfl
  | k + 1, e => by rw [kiF, kiF, kiF_cg k (fun j hj => e j (by omega)), e k (by omega)]
theorem kiC_n : ∀ j, j < 25 → ¬ kiC j = -9 := by decide +kernel
theorem kiF_i {c : Nat → Bool} : ∀ k, k ≤ 25 → (0 ≤ (kiF c k).2.toInt ∧ (kiF c k).2.toInt ≤ k) ∧ ((kiF c k).2 = 0 ↔ (kiF c k).1 = -9)
  | 0, _ => by
    have d0 : (0 : Int32).toInt = 0 := by decide
    show (0 ≤ (0 : Int32).toInt ∧ (0 : Int32).toInt ≤ (0 : Nat)) ∧ ((0 : Int32) = 0 ↔ (-9 : Int32) = -9)
    exact ⟨by omega, fun _ => rfl, fun _ => rfl⟩
  | k + 1, h => by
    have i := kiF_i (c := c) k (by omega)
    have d0 : (0 : Int32).toInt = 0 := by decide
    have e1 : ((kiF c k).2 + 1).toInt = (kiF c k).2.toInt + 1 := by
      rw [Int32.toInt_add, show (1 : Int32).toInt = 1 by decide, Int.bmod_eq_of_le (by omega) (by omega)]
    have nz : ¬ (kiF c k).2 + 1 = 0 := fun z => by
      rw [z, d0] at e1
      omega
    rw [kiF]
    by_cases a : c k = true
    · rw [if_pos a]
      by_cases b : (kiF c k).2 = 0
      · rw [if_pos b]
        exact ⟨by rw [e1]; omega, fun z => absurd z nz, fun z => absurd z (kiC_n k (by omega))⟩
      · rw [if_neg b]
        exact ⟨by rw [e1]; omega, fun z => absurd z nz, fun z => absurd (i.2.mpr z) b⟩
    · rw [if_neg a]
      exact ⟨by omega, i.2⟩
theorem ki_1 {c : Nat → Bool} {j : Nat} {x1 x2 : Int32} (h : (x1, x2) = kiF c j) (a : c j = true) (b : x2 = 0) : (kiC j, x2 + 1) = kiF c (j + 1) := by
  rw [kiF, if_pos a, ← h, if_pos b]
theorem ki_2 {c : Nat → Bool} {j : Nat} {x1 x2 : Int32} (h : (x1, x2) = kiF c j) (a : c j = true) (b : ¬ x2 = 0) : (x1, x2 + 1) = kiF c (j + 1) := by
  rw [kiF, if_pos a, ← h, if_neg b]
theorem ki_3 {c : Nat → Bool} {j : Nat} {x1 x2 : Int32} (h : (x1, x2) = kiF c j) (a : ¬ c j = true) : (x1, x2) = kiF c (j + 1) := by
  rw [kiF, if_neg a, ← h]
/-- a kind from 3 to 5 and a k from 2 to 9, as a place -/
theorem ki_x {x : Int32} (x0 : 3 ≤ x) (x1 : x ≤ 6) : 3 ≤ x.toNatClampNeg ∧ (¬ 5 < x → ¬ 6 ≤ x ∧ 3 ≤ x + 1 ∧ x + 1 ≤ 6 ∧ (x + 1).toNatClampNeg = x.toNatClampNeg + 1 ∧ x.toNatClampNeg ≤ 5 ∧ Int32.ofNat x.toNatClampNeg = x ∧ ¬ x = 0) ∧ (5 < x → x.toNatClampNeg = 6) := by
  have a := tn_le x0
  have e3 : (3 : Int32).toNatClampNeg = 3 := by decide
  have p0 : 0 ≤ x := Int32.le_trans (by decide) x0
  refine ⟨by omega, fun c => ?_, fun c => ?_⟩
  · have l : ¬ 6 ≤ x := by grind
    have t := tn_lt p0 (Int32.not_le.mp l)
    have e6 : (6 : Int32).toNatClampNeg = 6 := by decide
    exact ⟨l, by grind, by grind, tn_succ p0 l, by omega, i32_nat p0, by grind⟩
  · have e : x = 6 := by grind
    rw [e]
    decide
theorem ki_y {y : Int32} (y0 : 2 ≤ y) (y1 : y ≤ 10) : 2 ≤ y.toNatClampNeg ∧ (¬ 9 < y → ¬ 10 ≤ y ∧ 2 ≤ y + 1 ∧ y + 1 ≤ 10 ∧ (y + 1).toNatClampNeg = y.toNatClampNeg + 1 ∧ y.toNatClampNeg ≤ 9 ∧ Int32.ofNat y.toNatClampNeg = y) ∧ (9 < y → y.toNatClampNeg = 10) := by
  have a := tn_le y0
  have e2 : (2 : Int32).toNatClampNeg = 2 := by decide
  have p0 : 0 ≤ y := Int32.le_trans (by decide) y0
  refine ⟨by omega, fun c => ?_, fun c => ?_⟩
  · have l : ¬ 10 ≤ y := by grind
    have t := tn_lt p0 (Int32.not_le.mp l)
    have e10 : (10 : Int32).toNatClampNeg = 10 := by decide
    exact ⟨l, by grind, by grind, tn_succ p0 l, by omega, i32_nat p0⟩
  · have e : y = 10 := by grind
    rw [e]
    decide
theorem ki_j {x y : Int32} (h3 : 3 ≤ x.toNatClampNeg) (h2 : 2 ≤ y.toNatClampNeg) (h9 : y.toNatClampNeg ≤ 9) (ex : Int32.ofNat x.toNatClampNeg = x) (ey : Int32.ofNat y.toNatClampNeg = y) : kiD (1 + 8 * (x.toNatClampNeg - 3) + (y.toNatClampNeg - 2)) = (x, y) ∧ kiC (1 + 8 * (x.toNatClampNeg - 3) + (y.toNatClampNeg - 2)) = 10 * x + y := by
  have d1 : (1 + 8 * (x.toNatClampNeg - 3) + (y.toNatClampNeg - 2) - 1) / 8 = x.toNatClampNeg - 3 := by omega
  have d2 : (1 + 8 * (x.toNatClampNeg - 3) + (y.toNatClampNeg - 2) - 1) % 8 = y.toNatClampNeg - 2 := by omega
  have e : kiD (1 + 8 * (x.toNatClampNeg - 3) + (y.toNatClampNeg - 2)) = (x, y) := by
    unfold kiD
    rw [if_neg (by omega), d1, d2, show 3 + (x.toNatClampNeg - 3) = x.toNatClampNeg by omega, show 2 + (y.toNatClampNeg - 2) = y.toNatClampNeg by omega, ex, ey]
  refine ⟨e, ?_⟩
  unfold kiC
  rw [e]
theorem ki_kd {x y : Int32} (x0 : 3 ≤ x) (x1 : ¬ 5 < x) (y0 : 2 ≤ y) (y1 : ¬ 9 < y) : kdK x y := ⟨⟨Int32.le_trans (by decide) x0, Int32.not_lt.mp x1⟩, fun z => absurd z (Int32.not_lt.mpr x0), fun _ => ⟨y0, Int32.not_lt.mp y1⟩⟩
def kinC (n s first step : Int32) (nw ns nd : Nat → Int32) (cN j : Nat) : Bool := fitN (ft1 n s first (kiD j).1 step (kiD j).2 nw ns nd) cN
def kinQ (m x1 : Int32) (F : Int32 × Int32) (a kk : Int32) (S : Prop) : Prop := ((0 ≤ x1 ∧ x1 < m) ∧ ¬ F.2 = 0 ∧ a = F.1 ∧ kk = F.2) ∨ ((0 ≤ x1 ∧ x1 < m) ∧ F.2 = 0 ∧ a = -9 ∧ S) ∨ (¬ (0 ≤ x1 ∧ x1 < m) ∧ a = -1 ∧ S)
theorem d_kindsq {x1 : Int32} (hC : InvC u) (hm : 0 ≤ mI u (mR u 2 10) 1 ∧ mI u (mR u 2 10) 1 ≤ 7) (hK : 0 < mI u (mR u 2 10) 1 → PlK u (mR u 2 10)) (hj : 0 ≤ mI u 14 0 ∧ mI u 14 0 ≤ 12) (hw : ∀ e, e < (mI u 14 0).toNatClampNeg → 0 ≤ mI u 15 e ∧ mI u 15 e ≤ 99) (hf : ∀ s, s < (mI u (mR u 2 10) 1).toNatClampNeg → 0 ≤ (shF u (mR u 2 10) s).2.1 ∧ (shF u (mR u 2 10) s).2.1 < mI u (mR u 2 10) 0) (C : Nat → Bool) (hc : C = kinC (mI u (mR u 2 10) 0) x1 (shF u (mR u 2 10) x1.toNatClampNeg).2.1 (shF u (mR u 2 10) x1.toNatClampNeg).2.2.1 (mI u 15) (mI u 16) (mI u 17) (mI u 14 0).toNatClampNeg) (hQ : ∀ a u', Cl qB u u' → kinQ (mI u (mR u 2 10) 1) x1 (kiF C 25) a (mI u' 2 12) (u' = u) → Q (some (.int a)) u') : Ws G D_kinds 0 [(0, .ref 2), (1, .int x1)] [] u Q := by
  refine sg_D_kinds_0 (fun hp => ⟨fun a _ _ => ?_, fun a => hQ _ _ (Cl.rf hC) (.inr (.inr ⟨fun z => a ⟨z.1, z.2, Int32.lt_of_lt_of_le z.2 hm.2⟩, rfl, rfl⟩))⟩)
  have a' : 0 ≤ x1 ∧ x1 < mI u (mR u 2 10) 1 ∧ x1 < 7 := a
  have hK' := hK (Int32.lt_of_le_of_lt a'.1 a'.2.1)
  have sN := tn_lt a'.1 a'.2.1
  have s9 := stp9 (hK'.2.2.1 _ sN).2.2.2.1
  have kx : 0 ≤ x1 ∧ x1 < mI u (mR u 2 10) 1 := ⟨a'.1, a'.2.1⟩
  have es : mI u (shO u (mR u 2 10) x1) 2 = (shF u (mR u 2 10) x1.toNatClampNeg).2.2.1 := by
    rw [shO_in a'.1 a'.2.1 a'.2.2]
    rfl
  rw [es]
  have key : ∀ x x4 x5 : Int32, 3 ≤ x → x ≤ 6 → (x4, x5) = kiF C (1 + 8 * (x.toNatClampNeg - 3)) → Ws G D_kinds 67 [(0, .ref 2), (1, .int x1), (2, .int (shF u (mR u 2 10) x1.toNatClampNeg).2.2.1), (4, .int x4), (5, .int x5), (6, .int x)] [] u Q := by
    refine upI 6 _ (fun x ih x4 x5 h0 hx e => sg_D_kinds_67 ?_)
    obtain ⟨p3, A, B⟩ := ki_x h0 hx
    refine ⟨fun b => ?_, fun b => ?_⟩
    · rw [B b] at e
      refine ⟨fun z => hQ _ _ ((Cq.rf.pI wr_D (by decide)).cl hC) (.inl ⟨kx, ?_, ?_, ?_⟩), fun z => hQ _ _ (Cl.rf hC) (.inr (.inl ⟨kx, ?_, rfl, rfl⟩))⟩
      · rw [← e]; exact z
      · rw [← e]
      · rw [← e, mI_eq]
      · rw [← e]; exact z
    obtain ⟨t1, t2, t3, t4, t5, t6, _⟩ := A b
    have inn : ∀ y x4 x5 : Int32, 2 ≤ y → y ≤ 10 → (x4, x5) = kiF C (1 + 8 * (x.toNatClampNeg - 3) + (y.toNatClampNeg - 2)) → Ws G D_kinds 76 [(0, .ref 2), (1, .int x1), (2, .int (shF u (mR u 2 10) x1.toNatClampNeg).2.2.1), (4, .int x4), (5, .int x5), (6, .int x), (7, .int y)] [] u Q := by
      refine upI 10 _ (fun y ihy x4 x5 y0 hy e => sg_D_kinds_76 ?_)
      obtain ⟨q2, A', B'⟩ := ki_y y0 hy
      refine ⟨fun c => ih t1 x4 x5 t2 t3 ?_, fun c _ => ?_⟩
      · rw [B' c] at e
        rw [t4, e]
        congr 1
        omega
      obtain ⟨s1, s2, s3, s4, s5, s6⟩ := A' c
      have j := ki_j p3 q2 s5 t6 s6
      have ec : C (1 + 8 * (x.toNatClampNeg - 3) + (y.toNatClampNeg - 2)) = fitN (ft1 (mI u (mR u 2 10) 0) x1 (shF u (mR u 2 10) x1.toNatClampNeg).2.1 x (shF u (mR u 2 10) x1.toNatClampNeg).2.2.1 y (mI u 15) (mI u 16) (mI u 17)) (mI u 14 0).toNatClampNeg := by
        rw [hc]
        unfold kinC
        rw [j.1]
      have ej : 1 + 8 * (x.toNatClampNeg - 3) + ((y + 1).toNatClampNeg - 2) = 1 + 8 * (x.toNatClampNeg - 3) + (y.toNatClampNeg - 2) + 1 := by rw [s4]; omega
      refine kI (c_fitsx hp hK' hj hw kx (hf _ sN) (ki_kd h0 b y0 c) s9) (fun r v q => ?_)
      obtain ⟨rfl, hr⟩ := q
      refine ⟨fun g => ihy s1 _ _ s2 s3 ?_, fun g => ⟨fun z => ihy s1 _ _ s2 s3 ?_, fun z => ihy s1 _ _ s2 s3 ?_⟩⟩
      · rw [ej]; exact ki_3 e (by rw [ec]; exact fun z => hr.mpr z g)
      · rw [ej]; exact ki_2 e (by rw [ec]; exact hr.mp g) z
      · rw [ej, ← j.2]; exact ki_1 e (by rw [ec]; exact hr.mp g) z
    exact inn 2 x4 x5 (by decide) (by decide) e
  have c0 : C 0 = fitN (ft1 (mI u (mR u 2 10) 0) x1 (shF u (mR u 2 10) x1.toNatClampNeg).2.1 0 (shF u (mR u 2 10) x1.toNatClampNeg).2.2.1 0 (mI u 15) (mI u 16) (mI u 17)) (mI u 14 0).toNatClampNeg := by
    rw [hc]
    rfl
  have k00 : kdK 0 0 := ⟨⟨by decide, by decide⟩, fun _ => rfl, fun z => absurd z (by decide)⟩
  have e3 : 1 + 8 * ((3 : Int32).toNatClampNeg - 3) = 1 := by decide
  refine kI (c_fitsx hp hK' hj hw kx (hf _ sN) k00 s9) (fun r v q => ?_)
  obtain ⟨rfl, hr⟩ := q
  refine ⟨fun g => ⟨fun _ => key 3 (-9) 0 (by decide) (by decide) ?_, fun g' => absurd g g'⟩, fun g => ⟨fun g' => absurd g' g, fun _ => key 3 0 1 (by decide) (by decide) ?_⟩⟩
  · rw [e3]; exact ki_3 (j := 0) rfl (by rw [c0]; exact fun z => hr.mpr z g)
  · rw [e3]; exact ki_1 (j := 0) (x1 := -9) (x2 := 0) rfl (by rw [c0]; exact hr.mp g) rfl
theorem d_kindsy {x1 : Int32} (hC : InvC u) (hm : 0 ≤ mI u (mR u 2 10) 1 ∧ mI u (mR u 2 10) 1 ≤ 7) (hK : 0 < mI u (mR u 2 10) 1 → PlK u (mR u 2 10)) (hj : 0 ≤ mI u 14 0 ∧ mI u 14 0 ≤ 12) (hw : ∀ e, e < (mI u 14 0).toNatClampNeg → 0 ≤ mI u 15 e ∧ mI u 15 e ≤ 99) (hf : ∀ s, s < (mI u (mR u 2 10) 1).toNatClampNeg → 0 ≤ (shF u (mR u 2 10) s).2.1 ∧ (shF u (mR u 2 10) s).2.1 < mI u (mR u 2 10) 0) : Ws G D_kinds 0 [(0, .ref 2), (1, .int x1)] [] u (RI fun a u' => Cl qB u u' ∧ kinQ (mI u (mR u 2 10) 1) x1 (kiF (kinC (mI u (mR u 2 10) 0) x1 (shF u (mR u 2 10) x1.toNatClampNeg).2.1 (shF u (mR u 2 10) x1.toNatClampNeg).2.2.1 (mI u 15) (mI u 16) (mI u 17) (mI u 14 0).toNatClampNeg) 25) a (mI u' 2 12) (u' = u)) := d_kindsq hC hm hK hj hw hf _ rfl (fun a _ h1 h2 => ⟨a, rfl, h1, h2⟩)
theorem e_kindsq {x1 : Int32} (hM : InvM u) (hs : ∀ s, s < (mI u 76 11).toNatClampNeg → shV (shM u s)) (hw : ∀ e, e < (mI u 76 28).toNatClampNeg → 0 ≤ mI u 92 (3 * e) ∧ mI u 92 (3 * e) ≤ 99) (hf : ∀ s, s < (mI u 76 11).toNatClampNeg → 0 ≤ (shM u s).2.1 ∧ (shM u s).2.1 < mI u 76 10) (C : Nat → Bool) (hc : C = kinC (mI u 76 10) x1 (shM u x1.toNatClampNeg).2.1 (shM u x1.toNatClampNeg).2.2.1 (fun e => mI u 92 (3 * e)) (fun e => mI u 92 (3 * e + 1)) (fun e => mI u 92 (3 * e + 2)) (mI u 76 28).toNatClampNeg) (hQ : ∀ a u', Mo mB u u' → kinQ (mI u 76 11) x1 (kiF C 25) a (mI u' 76 2) (u' = u) → Q (some (.int a)) u') : Ws G m_kinds 0 [(0, .ref 76), (1, .int x1)] [] u Q := by
  have m7 := hM.m7
  refine sg_m_kinds_0 ⟨fun a => ?_, fun a => hQ _ _ (Mo.rf hM) (.inr (.inr ⟨fun z => a ⟨z.1, by obtain ⟨p, q⟩ := z; obtain ⟨p', q'⟩ := m7; grind⟩, rfl, rfl⟩))⟩
  have xm : x1 < mI u 76 11 := by obtain ⟨p, q⟩ := a; obtain ⟨p', q'⟩ := m7; grind
  have l1 := Int32.lt_of_lt_of_le xm m7.2
  have sN := tn_lt a.1 xm
  have s9 := stp9 (hs _ sN).2.2.2.1
  have i5 := ix5 a.1 l1
  have a0 := a.1
  have kx : 0 ≤ x1 ∧ x1 < mI u 76 11 := ⟨a.1, xm⟩
  have v2 : vp_in (5 * x1 + 2) 70 := vin (by grind) (show (_ : Int32) < 70 by grind) (by decide)
  have es : mI u 83 (5 * x1 + 2 : Int32).toNatClampNeg = (shM u x1.toNatClampNeg).2.2.1 := by
    rw [i5.2.2.1]
    rfl
  have key : ∀ x x4 x5 : Int32, 3 ≤ x → x ≤ 6 → (x4, x5) = kiF C (1 + 8 * (x.toNatClampNeg - 3)) → Ws G m_kinds 18 [(0, .ref 76), (1, .int x1), (2, .int x4), (3, .int x5), (4, .int x)] [] u Q := by
    refine upI 6 _ (fun x ih x4 x5 h0 hx e => sg_m_kinds_18 ?_)
    obtain ⟨p3, A, B⟩ := ki_x h0 hx
    refine ⟨fun b => ?_, fun b => ?_⟩
    · rw [B b] at e
      have i := (kiF_i (c := C) 25 (Nat.le_refl _)).2
      refine ⟨fun z => hQ _ _ ((Mq.rf.pF (by decide)).mo hM) (.inl ⟨kx, fun g => z ?_, ?_, ?_⟩), fun z => hQ _ _ (Mo.rf hM) (.inr (.inl ⟨kx, i.mpr ?_, rfl, rfl⟩))⟩
      · have := i.mp g
        rw [show (25 : Nat) = 1 + 8 * (6 - 3) by decide, ← e] at this
        exact this
      · rw [show (25 : Nat) = 1 + 8 * (6 - 3) by decide, ← e]
      · rw [show (25 : Nat) = 1 + 8 * (6 - 3) by decide, ← e, mI_eq]
      · rw [show (25 : Nat) = 1 + 8 * (6 - 3) by decide, ← e]; exact z
    obtain ⟨t1, t2, t3, t4, t5, t6, t7⟩ := A b
    have inn : ∀ y x4 x5 : Int32, 2 ≤ y → y ≤ 10 → (x4, x5) = kiF C (1 + 8 * (x.toNatClampNeg - 3) + (y.toNatClampNeg - 2)) → Ws G m_kinds 36 [(0, .ref 76), (1, .int x1), (2, .int x4), (3, .int x5), (4, .int x), (5, .int y)] [] u Q := by
      refine upI 10 _ (fun y ihy x4 x5 y0 hy e => sg_m_kinds_36 ⟨fun _ => ?_, fun z => absurd z t7⟩)
      obtain ⟨q2, A', B'⟩ := ki_y y0 hy
      refine ⟨fun c => ⟨fun _ => ih t1 x4 x5 t2 t3 ?_, fun z => absurd z t7⟩, fun c => ⟨v2, ?_⟩⟩
      · rw [B' c] at e
        rw [t4, e]
        congr 1
        omega
      obtain ⟨s1, s2, s3, s4, s5, s6⟩ := A' c
      have j := ki_j p3 q2 s5 t6 s6
      have ec : C (1 + 8 * (x.toNatClampNeg - 3) + (y.toNatClampNeg - 2)) = fitN (ft1 (mI u 76 10) x1 (shM u x1.toNatClampNeg).2.1 x (shM u x1.toNatClampNeg).2.2.1 y (fun e => mI u 92 (3 * e)) (fun e => mI u 92 (3 * e + 1)) (fun e => mI u 92 (3 * e + 2))) (mI u 76 28).toNatClampNeg := by
        rw [hc]
        unfold kinC
        rw [j.1]
      have ej : 1 + 8 * (x.toNatClampNeg - 3) + ((y + 1).toNatClampNeg - 2) = 1 + 8 * (x.toNatClampNeg - 3) + (y.toNatClampNeg - 2) + 1 := by rw [s4]; omega
      rw [es]
      refine kI (e_fitsx hM hw kx (hf _ sN) (ki_kd h0 b y0 c) s9) (fun r v q => ?_)
      obtain ⟨rfl, hr⟩ := q
      refine ⟨fun g => ⟨fun _ => ihy s1 _ _ s2 s3 ?_, fun g' => absurd g g'⟩, fun g => ⟨fun z => ⟨fun g' => absurd g' g, fun _ => ihy s1 _ _ s2 s3 ?_⟩, fun z => ⟨fun g' => absurd g' g, fun _ => ihy s1 _ _ s2 s3 ?_⟩⟩⟩
      · rw [ej, Int32.add_zero]; exact ki_3 e (by rw [ec]; exact fun z => hr.mpr z g)
      · rw [ej]; exact ki_2 e (by rw [ec]; exact hr.mp g) z
      · rw [ej, ← j.2]; exact ki_1 e (by rw [ec]; exact hr.mp g) z
    exact ⟨fun _ => inn 2 x4 x5 (by decide) (by decide) e, fun z => absurd z t7⟩
  have c0 : C 0 = fitN (ft1 (mI u 76 10) x1 (shM u x1.toNatClampNeg).2.1 0 (shM u x1.toNatClampNeg).2.2.1 0 (fun e => mI u 92 (3 * e)) (fun e => mI u 92 (3 * e + 1)) (fun e => mI u 92 (3 * e + 2))) (mI u 76 28).toNatClampNeg := by
    rw [hc]
    rfl
  have k00 : kdK 0 0 := ⟨⟨by decide, by decide⟩, fun _ => rfl, fun z => absurd z (by decide)⟩
  have e3 : 1 + 8 * ((3 : Int32).toNatClampNeg - 3) = 1 := by decide
  have nx : ∀ x4 x5 : Int32, (x4, x5) = kiF C 1 → Ws G m_kinds 36 [(0, .ref 76), (1, .int x1), (2, .int x4), (3, .int x5), (4, .int 0), (5, .int (0 + 1))] [] u Q := fun x4 x5 e => sg_m_kinds_36 ⟨fun z => absurd rfl z, fun _ => ⟨fun _ => ⟨fun z => absurd rfl z, fun _ => key 3 x4 x5 (by decide) (by decide) (by rw [e3]; exact e)⟩, fun z => absurd (show (0 : Int32) < 0 + 1 by decide) z⟩⟩
  refine sg_m_kinds_18 ⟨fun z => absurd z (by decide), fun _ => ⟨fun z => absurd rfl z, fun _ => sg_m_kinds_36 ⟨fun z => absurd rfl z, fun _ => ⟨fun z => absurd z (by decide), fun _ => ⟨v2, ?_⟩⟩⟩⟩⟩
  rw [es]
  refine kI (e_fitsx hM hw kx (hf _ sN) k00 s9) (fun r v q => ?_)
  obtain ⟨rfl, hr⟩ := q
  refine ⟨fun g => ⟨fun _ => nx _ _ ?_, fun g' => absurd g g'⟩, fun g => ⟨fun z => absurd rfl z, fun _ => ⟨fun g' => absurd g' g, fun _ => nx _ _ ?_⟩⟩⟩
  · exact ki_3 (j := 0) rfl (by rw [c0]; exact fun z => hr.mpr z g)
  · exact ki_1 (j := 0) (x1 := -9) (x2 := 0) rfl (by rw [c0]; exact hr.mp g) rfl
theorem e_kindsy {x1 : Int32} (hM : InvM u) (hs : ∀ s, s < (mI u 76 11).toNatClampNeg → shV (shM u s)) (hw : ∀ e, e < (mI u 76 28).toNatClampNeg → 0 ≤ mI u 92 (3 * e) ∧ mI u 92 (3 * e) ≤ 99) (hf : ∀ s, s < (mI u 76 11).toNatClampNeg → 0 ≤ (shM u s).2.1 ∧ (shM u s).2.1 < mI u 76 10) : Ws G m_kinds 0 [(0, .ref 76), (1, .int x1)] [] u (RI fun a u' => Mo mB u u' ∧ kinQ (mI u 76 11) x1 (kiF (kinC (mI u 76 10) x1 (shM u x1.toNatClampNeg).2.1 (shM u x1.toNatClampNeg).2.2.1 (fun e => mI u 92 (3 * e)) (fun e => mI u 92 (3 * e + 1)) (fun e => mI u 92 (3 * e + 2)) (mI u 76 28).toNatClampNeg) 25) a (mI u' 76 2) (u' = u)) := e_kindsq hM hs hw hf _ rfl (fun a _ h1 h2 => ⟨a, rfl, h1, h2⟩)
end ANI
