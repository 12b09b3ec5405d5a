/-! ===== digest ===== -/
def mixF (f : Nat → Int32) (h : Int64) : Nat → Int64
  | 0 => h
  | k + 1 => 31 * mixF f h k + (f k).toInt64
theorem mixF_cg {f f' : Nat → Int32} {h : Int64} : ∀ N, (∀ k, k < N → f' k = f k) → mixF f' h N = mixF f h N
  | 0, _ => rfl
  | N + 1, e => by rw [mixF, mixF, mixF_cg N (fun k hk => e k (by omega)), e N (by omega)]
def fdN (g : Nat → Int64 → Int64) (h : Int64) : Nat → Int64
  | 0 => h
  | k + 1 => g k (fdN g h k)
theorem fdN_cg {g g' : Nat → Int64 → Int64} {h : Int64} : ∀ N, (∀ k, k < N → ∀ y, g' k y = g k y) → fdN g' h N = fdN g h N
  | 0, _ => rfl
  | N + 1, e => by rw [fdN, fdN, fdN_cg N (fun k hk => e k (by omega)), e N (by omega)]
def trV (sh : Nat → Sh5) (dr : Nat → Int32) (s w : Nat) : Int32 := if w = 0 then (sh s).1 else if w = 1 then dr s else if w = 2 then (sh s).2.2.1 else if w = 3 then (sh s).2.2.2.1 else if w = 4 then (sh s).2.2.2.2 else (sh s).2.1
def trH (sh : Nat → Sh5) (dr : Nat → Int32) (s : Nat) (h : Int64) : Int64 := mixF (trV sh dr s) h 6
def stH (sz : Nat → Int32) (f : Nat → Nat → Int32) (r : Nat) (h : Int64) : Int64 := mixF (f r) (31 * h + (sz r).toInt64) (sz r).toNatClampNeg
def digV (cf : Nat → Int32) (sh : Nat → Sh5) (dr : Nat → Int32) (m : Nat) (st : Int32) (nt : Nat → Int32) (cN : Nat) (kp rs : Nat → Int32) (rf : Nat → Nat → Int32) (ts : Nat → Int32) (tf : Nat → Nat → Int32) : Int64 := fdN (stH ts tf) (fdN (stH rs rf) (mixF kp (mixF nt (31 * fdN (trH sh dr) (mixF cf 17 8) m + st.toInt64) (3 * cN)) 3) 6) 4
theorem c05 {x : Int32} (h0 : 0 ≤ x) (h : ¬ 5 < x) : x.toNatClampNeg ≤ 5 ∧ ¬ 6 ≤ x ∧ 0 ≤ x + 1 ∧ x + 1 ≤ 6 := by
  have l := tn_le (Int32.not_lt.mp h)
  have e5 : (5 : Int32).toNatClampNeg = 5 := by decide
  exact ⟨by omega, by grind, by grind, by grind⟩
def ntC (u : pM) (k : Nat) : Int32 := if k % 3 = 0 then mI u 15 (k / 3) else if k % 3 = 1 then mI u 16 (k / 3) else mI u 17 (k / 3)
theorem ntC_3 (u : pM) (e : Nat) : ntC u (3 * e) = mI u 15 e ∧ ntC u (3 * e + 1) = mI u 16 e ∧ ntC u (3 * e + 2) = mI u 17 e := by
  unfold ntC
  refine ⟨?_, ?_, ?_⟩
  · rw [if_pos (by omega), show 3 * e / 3 = e by omega]
  · rw [if_neg (by omega), if_pos (by omega), show (3 * e + 1) / 3 = e by omega]
  · rw [if_neg (by omega), if_neg (by omega), show (3 * e + 2) / 3 = e by omega]
section ANL
variable {G : pG} {u v : pM} {Q : Option Value → pM → Prop}
theorem c_traitx {x1 x2 : Int32} (hm : mI u (mR u 2 10) 1 ≤ 7) (h1 : 0 ≤ x1 ∧ x1 < mI u (mR u 2 10) 1) (h2 : 0 ≤ x2 ∧ x2.toNatClampNeg ≤ 5) : Ws G D_trait 0 [(0, .ref 2), (1, .int x1), (2, .int x2)] [] u (RI fun a u' => u = u' ∧ a = trV (shF u (mR u 2 10)) (mI u 8) x1.toNatClampNeg x2.toNatClampNeg) := by
  have l1 := Int32.lt_of_lt_of_le h1.2 hm
  have T : ∀ x : Int32, x2 = x → trV (shF u (mR u 2 10)) (mI u 8) x1.toNatClampNeg x2.toNatClampNeg = trV (shF u (mR u 2 10)) (mI u 8) x1.toNatClampNeg x.toNatClampNeg := fun x e => by rw [e]
  have e2 := i32_nat h2.1
  refine sg_D_trait_0 (fun _ => ?_)
  rw [shO_in h1.1 h1.2 l1]
  refine ⟨fun e => ⟨_, rfl, rfl, ?_⟩, fun e => ⟨_, rfl, rfl, ?_⟩, fun e => ⟨_, rfl, rfl, ?_⟩, fun e => ⟨_, rfl, rfl, ?_⟩, fun e => ⟨_, rfl, rfl, ?_⟩, fun e => ⟨_, rfl, rfl, ?_⟩⟩
  · rw [T _ e]; rfl
  · rw [T _ e]
    unfold snD
    rw [if_pos ⟨h1.1, l1⟩]
    rfl
  · rw [T _ e]; rfl
  · rw [T _ e]; rfl
  · rw [T _ e]; rfl
  · have q := (show ∀ k, k < 6 → Int32.ofNat k = 0 ∨ Int32.ofNat k = 1 ∨ Int32.ofNat k = 2 ∨ Int32.ofNat k = 3 ∨ Int32.ofNat k = 4 ∨ Int32.ofNat k = 5 from by decide) x2.toNatClampNeg (by omega)
    rw [e2] at q
    rcases q with z | z | z | z | z | z
    · exact absurd z e.1
    · exact absurd z e.2.1
    · exact absurd z e.2.2.1
    · exact absurd z e.2.2.2.1
    · exact absurd z e.2.2.2.2
    · rw [T _ z]; rfl
theorem c_spmix {o0 : Nat} {h : Int64} (k0 : okS o0 6) (hz : mI u o0 1 ≤ Int32.ofNat (S0 (o0 + 1)).2) : Ws G Sp_mixedInto 0 [(0, .ref o0), (1, .long h)] [] u (RJ fun a u' => u = u' ∧ a = mixF (mI u (o0 + 1)) (31 * h + (mI u o0 1).toInt64) (mI u o0 1).toNatClampNeg) := by
  refine sg_Sp_mixedInto_0 k0 ?_
  have z0 : (0 : Int32).toNatClampNeg = 0 := by decide
  by_cases n : mI u o0 1 ≤ 0
  · have e : (mI u o0 1).toNatClampNeg = 0 := by have := tn_le n; omega
    exact sg_Sp_mixedInto_15 k0 ⟨fun _ => ⟨_, rfl, rfl, by rw [e]; rfl⟩, fun c => absurd n c⟩
  have key : ∀ (x : Int32) (y : Int64), 0 ≤ x → x ≤ mI u o0 1 → y = mixF (mI u (o0 + 1)) (31 * h + (mI u o0 1).toInt64) x.toNatClampNeg → Ws G Sp_mixedInto 15 [(0, .ref o0), (3, .long y), (5, .int x)] [] u (RJ fun a u' => u = u' ∧ a = mixF (mI u (o0 + 1)) (31 * h + (mI u o0 1).toInt64) (mI u o0 1).toNatClampNeg) := by
    refine upI (mI u o0 1) _ (fun x ih y h0 hx e => sg_Sp_mixedInto_15 k0 ⟨fun c => ⟨_, rfl, rfl, by rw [e, Int32.le_antisymm hx c]⟩, fun c => ?_⟩)
    have xm := Int32.not_le.mp c
    have su := stU h0 c
    have eg : spG u o0 x = mI u (o0 + 1) x.toNatClampNeg := by
      unfold spG
      rw [if_pos ⟨h0, xm, Int32.lt_of_lt_of_le xm hz⟩]
    rw [eg]
    exact ih c _ su.1 su.2 (by rw [tn_succ h0 c, mixF, e])
  exact key 0 _ (by decide) (Int32.le_of_lt (Int32.not_le.mp n)) (by rw [z0]; rfl)
theorem c_dimix {h : Int64} (hj : 0 ≤ mI u 14 0 ∧ mI u 14 0 ≤ 12) : Ws G Di_mixedInto 0 [(0, .ref 14), (1, .long h)] [] u (RJ fun a u' => u = u' ∧ a = mixF (ntC u) h (3 * (mI u 14 0).toNatClampNeg)) := by
  refine sg_Di_mixedInto_0 ?_
  have z0 : (0 : Int32).toNatClampNeg = 0 := by decide
  have key : ∀ (x : Int32) (y : Int64), 0 ≤ x → x ≤ mI u 14 0 → y = mixF (ntC u) h (3 * x.toNatClampNeg) → Ws G Di_mixedInto 5 [(0, .ref 14), (3, .long y), (5, .int x)] [] u (RJ fun a u' => u = u' ∧ a = mixF (ntC u) h (3 * (mI u 14 0).toNatClampNeg)) := by
    refine upI (mI u 14 0) _ (fun x ih y h0 hx e => sg_Di_mixedInto_5 ⟨fun c => ⟨_, rfl, rfl, by rw [e, Int32.le_antisymm hx c]⟩, fun c => ⟨fun d => absurd (Int32.le_trans hj.2 d) c, fun d => ?_⟩⟩)
    have su := stU h0 c
    have v12 : vp_in x 12 := vin h0 (show (_ : Int32) < 12 from Int32.not_le.mp d) (by decide)
    have n3 := ntC_3 u x.toNatClampNeg
    refine ⟨v12, v12, v12, ih c _ su.1 su.2 ?_⟩
    rw [tn_succ h0 c, show 3 * (x.toNatClampNeg + 1) = 3 * x.toNatClampNeg + 1 + 1 + 1 by omega, mixF, mixF, mixF, n3.1, n3.2.1, n3.2.2, e]
  exact key 0 _ (by decide) hj.1 (by rw [z0]; rfl)
def couF (u : pM) (k : Nat) : Int32 := couV (Int32.ofNat k) (mI u (mR u 2 10) 0) (mI u (mR u 2 10) 1) (mI u 7 0) (bcV (mI u 7 1)) (mI u 14 0) (slCx (shF u (mR u 2 10))) (rwC u) (txC u)
def couG (u : pM) (k : Nat) : Int32 := couV (Int32.ofNat k) (mI u 76 10) (mI u 76 11) (mI u 76 18) (bcV (mI u 76 19)) (mI u 76 28) (slCx (shM u)) (rwM u) (txM u)
/-- the class's digest -/
def dgC (u : pM) : Int64 := digV (couF u) (shF u (mR u 2 10)) (mI u 8) (mI u (mR u 2 10) 1).toNatClampNeg (mI u 7 1) (ntC u) (mI u 14 0).toNatClampNeg (fun k => mI u (70 + 2 * k) 0) (fun r => mI u (50 + 2 * r) 1) (fun r => mI u (51 + 2 * r)) (fun t => mI u (62 + 2 * t) 1) (fun t => mI u (63 + 2 * t))
theorem d_digesty (hC : InvC u) (hm : 0 ≤ mI u (mR u 2 10) 1 ∧ mI u (mR u 2 10) 1 ≤ 7) (hj : 0 ≤ mI u 14 0 ∧ mI u 14 0 ≤ 12) : Ws G D_digest 0 [(0, .ref 2)] [] u (RJ fun a u' => Cl qB u u' ∧ a = dgC u) := by
  have z0 : (0 : Int32).toNatClampNeg = 0 := by decide
  have R3 : ∀ r, r < 6 → R0 3 r = 50 + 2 * r := by decide
  have R4 : ∀ r, r < 4 → R0 4 r = 62 + 2 * r := by decide
  have R9 : ∀ r, r < 3 → R0 9 r = 70 + 2 * r := by decide
  have o3 : ∀ r, r < 6 → okS (50 + 2 * r) 6 := by decide
  have o4 : ∀ r, r < 4 → okS (62 + 2 * r) 6 := by decide
  have s7 : ∀ (x : Int32) (y : Int64), 0 ≤ x → x ≤ 4 → y = fdN (stH (fun t => mI u (62 + 2 * t) 1) (fun t => mI u (63 + 2 * t))) (fdN (stH (fun r => mI u (50 + 2 * r) 1) (fun r => mI u (51 + 2 * r))) (mixF (fun k => mI u (70 + 2 * k) 0) (mixF (ntC u) (31 * fdN (trH (shF u (mR u 2 10)) (mI u 8)) (mixF (couF u) 17 8) (mI u (mR u 2 10) 1).toNatClampNeg + (mI u 7 1).toInt64) (3 * (mI u 14 0).toNatClampNeg)) 3) 6) x.toNatClampNeg → Ws G D_digest 159 [(0, .ref 2), (1, .long y), (3, .int x)] [] u (RJ fun a u' => Cl qB u u' ∧ a = dgC u) := by
    refine upI 4 _ (fun x ih y h0 hx e => sg_D_digest_159 ⟨fun c => ⟨_, rfl, Cl.rf hC, ?_⟩, fun c => ?_⟩)
    · have e4 : x.toNatClampNeg = 4 := by rw [Int32.le_antisymm hx c]; decide
      rw [e, e4]
      rfl
    · have x4 := Int32.not_le.mp c
      have xN := tn_lt h0 x4
      rw [show (4 : Int32).toNatClampNeg = 4 by decide] at xN
      have su := stU h0 c
      have et : txV x = 62 + 2 * x.toNatClampNeg := by
        unfold txV
        rw [if_pos ⟨h0, x4⟩, R4 _ xN]
      rw [et]
      refine kJ (c_spmix (o4 _ xN) (hC.1 _ (o4 _ xN))) (fun y' v q => ?_)
      obtain ⟨rfl, ey⟩ := q
      refine ih c _ su.1 su.2 ?_
      rw [tn_succ h0 c, fdN, ← e, ey, show 62 + 2 * x.toNatClampNeg + 1 = 63 + 2 * x.toNatClampNeg by omega]
      rfl
  have s6 : ∀ (x : Int32) (y : Int64), 0 ≤ x → x ≤ 6 → y = fdN (stH (fun r => mI u (50 + 2 * r) 1) (fun r => mI u (51 + 2 * r))) (mixF (fun k => mI u (70 + 2 * k) 0) (mixF (ntC u) (31 * fdN (trH (shF u (mR u 2 10)) (mI u 8)) (mixF (couF u) 17 8) (mI u (mR u 2 10) 1).toNatClampNeg + (mI u 7 1).toInt64) (3 * (mI u 14 0).toNatClampNeg)) 3) x.toNatClampNeg → Ws G D_digest 135 [(0, .ref 2), (1, .long y), (3, .int x)] [] u (RJ fun a u' => Cl qB u u' ∧ a = dgC u) := by
    refine upI 6 _ (fun x ih y h0 hx e => sg_D_digest_135 ⟨fun c => s7 0 _ (by decide) (by decide) ?_, fun c => ?_⟩)
    · have e4 : x.toNatClampNeg = 6 := by rw [Int32.le_antisymm hx c]; decide
      rw [e, e4, z0]
      rfl
    · have x4 := Int32.not_le.mp c
      have xN := tn_lt h0 x4
      rw [show (6 : Int32).toNatClampNeg = 6 by decide] at xN
      have su := stU h0 c
      have et : roV x = 50 + 2 * x.toNatClampNeg := by
        unfold roV
        rw [if_pos ⟨h0, x4⟩, R3 _ xN]
      rw [et]
      refine kJ (c_spmix (o3 _ xN) (hC.1 _ (o3 _ xN))) (fun y' v q => ?_)
      obtain ⟨rfl, ey⟩ := q
      refine ih c _ su.1 su.2 ?_
      rw [tn_succ h0 c, fdN, ← e, ey, show 50 + 2 * x.toNatClampNeg + 1 = 51 + 2 * x.toNatClampNeg by omega]
      rfl
  have s5 : ∀ (x : Int32) (y : Int64), 0 ≤ x → x ≤ 3 → y = mixF (fun k => mI u (70 + 2 * k) 0) (mixF (ntC u) (31 * fdN (trH (shF u (mR u 2 10)) (mI u 8)) (mixF (couF u) 17 8) (mI u (mR u 2 10) 1).toNatClampNeg + (mI u 7 1).toInt64) (3 * (mI u 14 0).toNatClampNeg)) x.toNatClampNeg → Ws G D_digest 106 [(0, .ref 2), (1, .long y), (3, .int x)] [] u (RJ fun a u' => Cl qB u u' ∧ a = dgC u) := by
    refine upI 3 _ (fun x ih y h0 hx e => sg_D_digest_106 ⟨fun c => s6 0 _ (by decide) (by decide) ?_, fun c => ?_⟩)
    · have e4 : x.toNatClampNeg = 3 := by rw [Int32.le_antisymm hx c]; decide
      rw [e, e4, z0]
      rfl
    · have x4 := Int32.not_le.mp c
      have xN := tn_lt h0 x4
      rw [show (3 : Int32).toNatClampNeg = 3 by decide] at xN
      have su := stU h0 c
      have et : kpV x = 70 + 2 * x.toNatClampNeg := by
        unfold kpV
        rw [if_pos ⟨h0, x4⟩, R9 _ xN]
      rw [et]
      exact ih c _ su.1 su.2 (by rw [tn_succ h0 c, mixF, e])
  have s2 : ∀ (x : Int32) (y : Int64), 0 ≤ x → x ≤ mI u (mR u 2 10) 1 → y = fdN (trH (shF u (mR u 2 10)) (mI u 8)) (mixF (couF u) 17 8) x.toNatClampNeg → Ws G D_digest 33 [(0, .ref 2), (1, .long y), (3, .int x)] [] u (RJ fun a u' => Cl qB u u' ∧ a = dgC u) := by
    refine upI (mI u (mR u 2 10) 1) _ (fun x ih y h0 hx e => sg_D_digest_33 (fun _ => ⟨fun c => kJ (c_dimix hj) (fun y' v q => ?_), fun c => ?_⟩))
    · obtain ⟨rfl, ey⟩ := q
      refine s5 0 _ (by decide) (by decide) ?_
      rw [ey, z0, e, Int32.le_antisymm hx c]
      rfl
    · have xm := Int32.not_le.mp c
      have su := stU h0 c
      have inn : ∀ (w : Int32) (y' : Int64), 0 ≤ w → w ≤ 6 → y' = mixF (trV (shF u (mR u 2 10)) (mI u 8) x.toNatClampNeg) y w.toNatClampNeg → Ws G D_digest 47 [(0, .ref 2), (1, .long y'), (3, .int x), (4, .int w)] [] u (RJ fun a u' => Cl qB u u' ∧ a = dgC u) := by
        refine upI 6 _ (fun w ihw y' w0 hw e' => sg_D_digest_47 ⟨fun d => ih c _ su.1 su.2 ?_, fun d => ?_⟩)
        · have e6 : w.toNatClampNeg = 6 := by
            have : w = 6 := by clear ih ihw s7 s6 s5; grind
            rw [this]; decide
          rw [tn_succ h0 c, fdN, ← e, e', e6]
          rfl
        · have q5 := c05 w0 d
          refine kI (c_traitx hm.2 ⟨h0, xm⟩ ⟨w0, q5.1⟩) (fun a v q => ?_)
          obtain ⟨rfl, ea⟩ := q
          exact ihw q5.2.1 _ q5.2.2.1 q5.2.2.2 (by rw [tn_succ w0 q5.2.1, mixF, e', ea])
      exact inn 0 y (by decide) (by decide) (by rw [z0]; rfl)
  have s1 : ∀ (x : Int32) (y : Int64), 0 ≤ x → x ≤ 8 → y = mixF (couF u) 17 x.toNatClampNeg → Ws G D_digest 6 [(0, .ref 2), (1, .long y), (3, .int x)] [] u (RJ fun a u' => Cl qB u u' ∧ a = dgC u) := by
    refine upI 8 _ (fun x ih y h0 hx e => sg_D_digest_6 ⟨fun c => s2 0 _ (by decide) hm.1 ?_, fun c => ?_⟩)
    · have e8 : x.toNatClampNeg = 8 := by
        have : x = 8 := by clear ih s7 s6 s5 s2; grind
        rw [this]; decide
      rw [e, e8, z0]
      rfl
    · have l8 : ¬ 8 ≤ x := by clear ih s7 s6 s5 s2; grind
      have su := stU h0 l8
      refine kI (c_countOfx hm ⟨h0, Int32.not_lt.mp c⟩) (fun a v q => ?_)
      obtain ⟨rfl, ea⟩ := q
      refine ih l8 _ su.1 su.2 ?_
      rw [tn_succ h0 l8, mixF, ← e, ea]
      unfold couF
      rw [i32_nat h0]
  exact sg_D_digest_0 (s1 0 17 (by decide) (by decide) (by rw [z0]; rfl))
/-- the reference's digest -/
def szM (u : pM) (n r : Nat) : Int32 := if 0 ≤ mI u n r then mI u n r else -1
def kpM (u : pM) (k : Nat) : Int32 := if mI u 87 (10 * k) = -9 then -1 else mI u 87 (10 * k)
def dgM (u : pM) : Int64 := digV (couG u) (shM u) (mI u 84) (mI u 76 11).toNatClampNeg (mI u 76 19) (mI u 92) (mI u 76 28).toNatClampNeg (kpM u) (szM u 78) (fun r k => mI u 79 (40 * r + k)) (szM u 81) (fun t k => mI u 82 (100 * t + k))
theorem mLq {u : pM} {n k : Nat} {v : Int64} : mL (pL u n k v) n k = v := by show up2 (mL u) n k v n k = _; simp [up2]
def DG (u v : pM) (h : Int64) : Prop := Mq mB u v ∧ mI v = mI u ∧ mL v 76 32 = h
theorem DG.mix {h : Int64} {y : Int32} (d : DG u v h) : DG u (pL v 76 32 (31 * mL v 76 32 + y.toInt64)) (31 * h + y.toInt64) := by
  refine ⟨d.1.wL, d.2.1, ?_⟩
  rw [mLq, d.2.2]
theorem e_aboutOfx {x1 x2 : Int32} (hm : mI u 76 11 ≤ 7) (h1 : 0 ≤ x1 ∧ x1 < mI u 76 11) (h2 : 0 ≤ x2 ∧ x2.toNatClampNeg ≤ 5) : Ws G m_aboutOf 0 [(0, .ref 76), (1, .int x1), (2, .int x2)] [] u (RI fun a u' => u = u' ∧ a = trV (shM u) (mI u 84) x1.toNatClampNeg x2.toNatClampNeg) := by
  have l1 := Int32.lt_of_lt_of_le h1.2 hm
  have a0 := h1.1
  have i5 := ix5 h1.1 l1
  have T : ∀ x : Int32, x2 = x → trV (shM u) (mI u 84) x1.toNatClampNeg x2.toNatClampNeg = trV (shM u) (mI u 84) x1.toNatClampNeg x.toNatClampNeg := fun x e => by rw [e]
  have e2 := i32_nat h2.1
  have q := (show ∀ k, k < 6 → Int32.ofNat k = 0 ∨ Int32.ofNat k = 1 ∨ Int32.ofNat k = 2 ∨ Int32.ofNat k = 3 ∨ Int32.ofNat k = 4 ∨ Int32.ofNat k = 5 from by decide) x2.toNatClampNeg (by omega)
  rw [e2] at q
  have v5 : ∀ y : Int32, 0 ≤ y → y ≤ 5 → vp_in (5 * x1 + y) 70 := fun y y0 y5 => vin (by grind) (show (_ : Int32) < 70 by grind) (by decide)
  refine sg_m_aboutOf_0 ⟨fun n0 => ⟨fun n1 => ⟨fun n5 => ?_, fun e => ⟨v5 1 (by decide) (by decide), _, rfl, rfl, ?_⟩⟩, fun e => ⟨vin h1.1 (show (_ : Int32) < 7 from l1) (by decide), _, rfl, rfl, ?_⟩⟩, fun e => ⟨v5 0 (by decide) (by decide), _, rfl, rfl, ?_⟩⟩
  · rcases q with z | z | z | z | z | z
    · exact absurd z n0
    · exact absurd z n1
    · rw [T _ z, z, i5.2.2.1]
      exact ⟨v5 2 (by decide) (by decide), _, rfl, rfl, rfl⟩
    · rw [T _ z, z, i5.2.2.2.1]
      exact ⟨v5 3 (by decide) (by decide), _, rfl, rfl, rfl⟩
    · rw [T _ z, z, i5.2.2.2.2.1]
      exact ⟨v5 4 (by decide) (by decide), _, rfl, rfl, rfl⟩
    · exact absurd z n5
  · rw [T _ e, i5.2.1]; rfl
  · rw [T _ e]; rfl
  · rw [T _ e, i5.1]; rfl
theorem e_mixSqx {h : Int64} (hM : InvM u) (d0 : DG u v h) : Ws G m_mixSquare 0 [(0, .ref 76)] [] v (RV fun v' => DG u v' (mixF (kpM u) (mixF (mI u 92) (31 * fdN (trH (shM u) (mI u 84)) h (mI u 76 11).toNatClampNeg + (mI u 76 19).toInt64) (3 * (mI u 76 28).toNatClampNeg)) 3)) := by
  have z0 : (0 : Int32).toNatClampNeg = 0 := by decide
  have m7 := hM.m7
  have hj := hM.2.2.2.2.2
  have s3 : ∀ (x : Int32) (w : pM), 0 ≤ x → x ≤ 3 → DG u w (mixF (kpM u) (mixF (mI u 92) (31 * fdN (trH (shM u) (mI u 84)) h (mI u 76 11).toNatClampNeg + (mI u 76 19).toInt64) (3 * (mI u 76 28).toNatClampNeg)) x.toNatClampNeg) → Ws G m_mixSquare 77 [(0, .ref 76), (1, .int x)] [] w (RV fun v' => DG u v' (mixF (kpM u) (mixF (mI u 92) (31 * fdN (trH (shM u) (mI u 84)) h (mI u 76 11).toNatClampNeg + (mI u 76 19).toInt64) (3 * (mI u 76 28).toNatClampNeg)) 3)) := by
    refine upI 3 _ (fun x ih w h0 hx d => sg_m_mixSquare_77 ⟨fun c => ⟨rfl, ?_⟩, fun c => ?_⟩)
    · have e3 : x.toNatClampNeg = 3 := by rw [Int32.le_antisymm hx c]; decide
      rw [e3] at d
      exact d
    · have x3 := Int32.not_le.mp c
      have su := stU h0 c
      have sx := tn_succ h0 c
      have e10 : (10 * x : Int32).toNatClampNeg = 10 * x.toNatClampNeg := by
        have l := tn_lt h0 x3
        have e : (3 : Int32).toNatClampNeg = 3 := by decide
        have q := (show ∀ i, i < 3 → (10 * Int32.ofNat i : Int32).toNatClampNeg = 10 * i from by decide) x.toNatClampNeg (by omega)
        rw [i32_nat h0] at q
        exact q
      have v30 : vp_in (10 * x) 30 := vin (by clear ih; grind) (show (_ : Int32) < 30 by clear ih; grind) (by decide)
      rw [d.2.1, e10]
      refine ⟨v30, fun g => ⟨v30, ih c _ su.1 su.2 ?_⟩, fun g => ih c _ su.1 su.2 ?_⟩
      · have ek : kpM u x.toNatClampNeg = mI u 87 (10 * x.toNatClampNeg) := by unfold kpM; rw [if_neg g]
        rw [sx, mixF, ek]
        exact d.mix
      · have ek : kpM u x.toNatClampNeg = -1 := by unfold kpM; rw [if_pos g]
        rw [sx, mixF, ek]
        exact d.mix
  have s2 : ∀ (x : Int32) (w : pM), 0 ≤ x → x ≤ 3 * mI u 76 28 → DG u w (mixF (mI u 92) (31 * fdN (trH (shM u) (mI u 84)) h (mI u 76 11).toNatClampNeg + (mI u 76 19).toInt64) x.toNatClampNeg) → Ws G m_mixSquare 49 [(0, .ref 76), (1, .int x)] [] w (RV fun v' => DG u v' (mixF (kpM u) (mixF (mI u 92) (31 * fdN (trH (shM u) (mI u 84)) h (mI u 76 11).toNatClampNeg + (mI u 76 19).toInt64) (3 * (mI u 76 28).toNatClampNeg)) 3)) := by
    have l36 : 3 * mI u 76 28 ≤ 36 := by obtain ⟨p, q⟩ := hj; clear s3; grind
    have e3 : (3 * mI u 76 28).toNatClampNeg = 3 * (mI u 76 28).toNatClampNeg := by
      have l := tn_le hj.2
      have e : (12 : Int32).toNatClampNeg = 12 := by decide
      have q := (show ∀ i, i < 13 → (3 * Int32.ofNat i : Int32).toNatClampNeg = 3 * i from by decide) (mI u 76 28).toNatClampNeg (by omega)
      rw [i32_nat hj.1] at q
      exact q
    refine upI (3 * mI u 76 28) _ (fun x ih w h0 hx d => sg_m_mixSquare_49 ?_)
    rw [d.2.1]
    refine ⟨fun c => s3 0 w (by decide) (by decide) ?_, fun c => ?_⟩
    · rw [Int32.le_antisymm hx c, e3] at d
      rw [z0]
      exact d
    · have xm := Int32.not_le.mp c
      have su := stU h0 c
      refine ⟨vin h0 (show (_ : Int32) < 36 from Int32.lt_of_lt_of_le xm l36) (by decide), ih c _ su.1 su.2 ?_⟩
      rw [tn_succ h0 c, mixF]
      exact d.mix
  have s1 : ∀ (x : Int32) (w : pM), 0 ≤ x → x ≤ mI u 76 11 → DG u w (fdN (trH (shM u) (mI u 84)) h x.toNatClampNeg) → Ws G m_mixSquare 2 [(0, .ref 76), (1, .int x)] [] w (RV fun v' => DG u v' (mixF (kpM u) (mixF (mI u 92) (31 * fdN (trH (shM u) (mI u 84)) h (mI u 76 11).toNatClampNeg + (mI u 76 19).toInt64) (3 * (mI u 76 28).toNatClampNeg)) 3)) := by
    have p0 : 0 ≤ 3 * mI u 76 28 := by obtain ⟨p, q⟩ := hj; clear s3 s2; grind
    refine upI (mI u 76 11) _ (fun x ih w h0 hx d => sg_m_mixSquare_2 ?_)
    have em : mI w 76 11 = mI u 76 11 := by rw [d.2.1]
    rw [em]
    refine ⟨fun c => s2 0 _ (by decide) p0 ?_, fun c => ?_⟩
    · rw [Int32.le_antisymm hx c] at d
      rw [z0, show mI w 76 19 = mI u 76 19 by rw [d.2.1]]
      exact d.mix
    · have xm := Int32.not_le.mp c
      have su := stU h0 c
      have inn : ∀ (y : Int32) (w : pM), 0 ≤ y → y ≤ 6 → DG u w (mixF (trV (shM u) (mI u 84) x.toNatClampNeg) (fdN (trH (shM u) (mI u 84)) h x.toNatClampNeg) y.toNatClampNeg) → Ws G m_mixSquare 12 [(0, .ref 76), (1, .int x), (2, .int y)] [] w (RV fun v' => DG u v' (mixF (kpM u) (mixF (mI u 92) (31 * fdN (trH (shM u) (mI u 84)) h (mI u 76 11).toNatClampNeg + (mI u 76 19).toInt64) (3 * (mI u 76 28).toNatClampNeg)) 3)) := by
        refine upI 6 _ (fun y ihy w y0 hy d => sg_m_mixSquare_12 ⟨fun e => ih c _ su.1 su.2 ?_, fun e => ?_⟩)
        · have e6 : y.toNatClampNeg = 6 := by
            have : y = 6 := by clear ih ihy s3 s2; grind
            rw [this]; decide
          rw [e6] at d
          rw [tn_succ h0 c, fdN]
          exact d
        · have q5 := c05 y0 e
          have em : mI w 76 11 = mI u 76 11 := by rw [d.2.1]
          have es : shM w = shM u := shM_cg (fun k => by rw [d.2.1])
          refine kI (e_aboutOfx (by rw [em]; exact m7.2) ⟨h0, by rw [em]; exact xm⟩ ⟨y0, q5.1⟩) (fun a w' q => ?_)
          obtain ⟨rfl, ea⟩ := q
          rw [es, show mI w 84 = mI u 84 by rw [d.2.1]] at ea
          refine ihy q5.2.1 _ q5.2.2.1 q5.2.2.2 ?_
          rw [tn_succ y0 q5.2.1, mixF, ← ea]
          exact d.mix
      exact inn 0 w (by decide) (by decide) (by rw [z0]; exact d)
  exact sg_m_mixSquare_0 (s1 0 v (by decide) m7.1 (by rw [z0]; exact d0))
theorem e_digesty (hM : InvM u) (hb : bnK (mI u 76 10) (mI u 76 19)) (hr : ∀ r, r < 6 → mI u 78 r ≤ 40) (ht : ∀ t, t < 4 → mI u 81 t ≤ 100) : Ws G m_digest 0 [(0, .ref 76)] [] u (RJ fun a u' => Mo mB u u' ∧ a = dgM u) := by
  have z0 : (0 : Int32).toNatClampNeg = 0 := by decide
  have n1 : (-1 : Int32).toNatClampNeg = 0 := by decide
  have s4 : ∀ (x : Int32) (w : pM), 0 ≤ x → x ≤ 4 → DG u w (fdN (stH (szM u 81) (fun t k => mI u 82 (100 * t + k))) (fdN (stH (szM u 78) (fun r k => mI u 79 (40 * r + k))) (mixF (kpM u) (mixF (mI u 92) (31 * fdN (trH (shM u) (mI u 84)) (mixF (couG u) 17 8) (mI u 76 11).toNatClampNeg + (mI u 76 19).toInt64) (3 * (mI u 76 28).toNatClampNeg)) 3) 6) x.toNatClampNeg) → Ws G m_digest 101 [(0, .ref 76), (1, .int x)] [] w (RJ fun a u' => Mo mB u u' ∧ a = dgM u) := by
    refine upI 4 _ (fun x ih w h0 hx d => sg_m_digest_101 ⟨fun c => ⟨_, rfl, d.1.mo hM, ?_⟩, fun c => ?_⟩)
    · have e4 : x.toNatClampNeg = 4 := by rw [Int32.le_antisymm hx c]; decide
      rw [e4] at d
      exact d.2.2
    have x4 := Int32.not_le.mp c
    have xN := tn_lt h0 x4
    rw [show (4 : Int32).toNatClampNeg = 4 by decide] at xN
    have su := stU h0 c
    have v4 : vp_in x 4 := vin h0 (show (_ : Int32) < 4 from x4) (by decide)
    have l100 := ht _ xN
    have fin : ∀ w', DG u w' (stH (szM u 81) (fun t k => mI u 82 (100 * t + k)) x.toNatClampNeg (fdN (stH (szM u 81) (fun t k => mI u 82 (100 * t + k))) (fdN (stH (szM u 78) (fun r k => mI u 79 (40 * r + k))) (mixF (kpM u) (mixF (mI u 92) (31 * fdN (trH (shM u) (mI u 84)) (mixF (couG u) 17 8) (mI u 76 11).toNatClampNeg + (mI u 76 19).toInt64) (3 * (mI u 76 28).toNatClampNeg)) 3) 6) x.toNatClampNeg)) → Ws G m_digest 101 [(0, .ref 76), (1, .int (x + 1))] [] w' (RJ fun a u' => Mo mB u u' ∧ a = dgM u) := fun w' d' => ih c w' su.1 su.2 (by rw [tn_succ h0 c, fdN]; exact d')
    rw [d.2.1]
    refine ⟨v4, fun g => ⟨v4, ?_⟩, fun g => ?_⟩
    · have es : szM u 81 x.toNatClampNeg = mI u 81 x.toNatClampNeg := by unfold szM; rw [if_pos g]
      have inn : ∀ (y : Int32) (w : pM), 0 ≤ y → y ≤ mI u 81 x.toNatClampNeg → DG u w (mixF (fun k => mI u 82 (100 * x.toNatClampNeg + k)) (31 * (fdN (stH (szM u 81) (fun t k => mI u 82 (100 * t + k))) (fdN (stH (szM u 78) (fun r k => mI u 79 (40 * r + k))) (mixF (kpM u) (mixF (mI u 92) (31 * fdN (trH (shM u) (mI u 84)) (mixF (couG u) 17 8) (mI u 76 11).toNatClampNeg + (mI u 76 19).toInt64) (3 * (mI u 76 28).toNatClampNeg)) 3) 6) x.toNatClampNeg) + (mI u 81 x.toNatClampNeg).toInt64) y.toNatClampNeg) → Ws G m_digest 131 [(0, .ref 76), (1, .int x), (2, .int y)] [] w (RJ fun a u' => Mo mB u u' ∧ a = dgM u) := by
        refine upI (mI u 81 x.toNatClampNeg) _ (fun y ihy w y0 hy d => sg_m_digest_131 ?_)
        rw [d.2.1]
        refine ⟨v4, fun e => fin w ?_, fun e => ?_⟩
        · rw [Int32.le_antisymm hy e] at d
          unfold stH
          rw [es]
          exact d
        · have ym := Int32.not_le.mp e
          have y100 := Int32.lt_of_lt_of_le ym l100
          have sy := stU y0 e
          have ei : (100 * x + y : Int32).toNatClampNeg = 100 * x.toNatClampNeg + y.toNatClampNeg := by
            have ly := tn_lt y0 y100
            have e100 : (100 : Int32).toNatClampNeg = 100 := by decide
            have q := (show ∀ i, i < 4 → ∀ j, j < 100 → (100 * Int32.ofNat i + Int32.ofNat j : Int32).toNatClampNeg = 100 * i + j from by decide +kernel) x.toNatClampNeg xN y.toNatClampNeg (by omega)
            rw [i32_nat h0, i32_nat y0] at q
            exact q
          rw [ei]
          refine ⟨vin (by clear ih ihy fin; grind) (show (_ : Int32) < 400 by clear ih ihy fin; grind) (by decide), ihy e _ sy.1 sy.2 ?_⟩
          rw [tn_succ y0 e, mixF]
          exact d.mix
      exact inn 0 _ (by decide) g (by rw [z0]; exact d.mix)
    · have es : szM u 81 x.toNatClampNeg = -1 := by unfold szM; rw [if_neg g]
      refine sg_m_digest_131 ⟨v4, fun e => fin _ ?_, fun e => ?_⟩
      · unfold stH
        rw [es, n1]
        exact d.mix
      · refine absurd ?_ e
        show mI w 81 x.toNatClampNeg ≤ 0
        rw [d.2.1]
        exact Int32.le_of_lt (Int32.not_le.mp g)
  have s3 : ∀ (x : Int32) (w : pM), 0 ≤ x → x ≤ 6 → DG u w (fdN (stH (szM u 78) (fun r k => mI u 79 (40 * r + k))) (mixF (kpM u) (mixF (mI u 92) (31 * fdN (trH (shM u) (mI u 84)) (mixF (couG u) 17 8) (mI u 76 11).toNatClampNeg + (mI u 76 19).toInt64) (3 * (mI u 76 28).toNatClampNeg)) 3) x.toNatClampNeg) → Ws G m_digest 36 [(0, .ref 76), (1, .int x)] [] w (RJ fun a u' => Mo mB u u' ∧ a = dgM u) := by
    refine upI 6 _ (fun x ih w h0 hx d => sg_m_digest_36 ⟨fun c => s4 0 w (by decide) (by decide) ?_, fun c => ?_⟩)
    · have e6 : x.toNatClampNeg = 6 := by rw [Int32.le_antisymm hx c]; decide
      rw [e6] at d
      rw [z0]
      exact d
    have x4 := Int32.not_le.mp c
    have xN := tn_lt h0 x4
    rw [show (6 : Int32).toNatClampNeg = 6 by decide] at xN
    have su := stU h0 c
    have v4 : vp_in x 6 := vin h0 (show (_ : Int32) < 6 from x4) (by decide)
    have l40 := hr _ xN
    have fin : ∀ w', DG u w' (stH (szM u 78) (fun r k => mI u 79 (40 * r + k)) x.toNatClampNeg (fdN (stH (szM u 78) (fun r k => mI u 79 (40 * r + k))) (mixF (kpM u) (mixF (mI u 92) (31 * fdN (trH (shM u) (mI u 84)) (mixF (couG u) 17 8) (mI u 76 11).toNatClampNeg + (mI u 76 19).toInt64) (3 * (mI u 76 28).toNatClampNeg)) 3) x.toNatClampNeg)) → Ws G m_digest 36 [(0, .ref 76), (1, .int (x + 1))] [] w' (RJ fun a u' => Mo mB u u' ∧ a = dgM u) := fun w' d' => ih c w' su.1 su.2 (by rw [tn_succ h0 c, fdN]; exact d')
    rw [d.2.1]
    refine ⟨v4, fun g => ⟨v4, ?_⟩, fun g => ?_⟩
    · have es : szM u 78 x.toNatClampNeg = mI u 78 x.toNatClampNeg := by unfold szM; rw [if_pos g]
      have inn : ∀ (y : Int32) (w : pM), 0 ≤ y → y ≤ mI u 78 x.toNatClampNeg → DG u w (mixF (fun k => mI u 79 (40 * x.toNatClampNeg + k)) (31 * (fdN (stH (szM u 78) (fun r k => mI u 79 (40 * r + k))) (mixF (kpM u) (mixF (mI u 92) (31 * fdN (trH (shM u) (mI u 84)) (mixF (couG u) 17 8) (mI u 76 11).toNatClampNeg + (mI u 76 19).toInt64) (3 * (mI u 76 28).toNatClampNeg)) 3) x.toNatClampNeg) + (mI u 78 x.toNatClampNeg).toInt64) y.toNatClampNeg) → Ws G m_digest 67 [(0, .ref 76), (1, .int x), (2, .int y)] [] w (RJ fun a u' => Mo mB u u' ∧ a = dgM u) := by
        refine upI (mI u 78 x.toNatClampNeg) _ (fun y ihy w y0 hy d => sg_m_digest_67 ?_)
        rw [d.2.1]
        refine ⟨v4, fun e => fin w ?_, fun e => ?_⟩
        · rw [Int32.le_antisymm hy e] at d
          unfold stH
          rw [es]
          exact d
        · have ym := Int32.not_le.mp e
          have y40 := Int32.lt_of_lt_of_le ym l40
          have sy := stU y0 e
          have ei : (40 * x + y : Int32).toNatClampNeg = 40 * x.toNatClampNeg + y.toNatClampNeg := by
            have ly := tn_lt y0 y40
            have e40 : (40 : Int32).toNatClampNeg = 40 := by decide
            have q := (show ∀ i, i < 6 → ∀ j, j < 40 → (40 * Int32.ofNat i + Int32.ofNat j : Int32).toNatClampNeg = 40 * i + j from by decide +kernel) x.toNatClampNeg xN y.toNatClampNeg (by omega)
            rw [i32_nat h0, i32_nat y0] at q
            exact q
          rw [ei]
          refine ⟨vin (by clear ih ihy fin s4; grind) (show (_ : Int32) < 240 by clear ih ihy fin s4; grind) (by decide), ihy e _ sy.1 sy.2 ?_⟩
          rw [tn_succ y0 e, mixF]
          exact d.mix
      exact inn 0 _ (by decide) g (by rw [z0]; exact d.mix)
    · have es : szM u 78 x.toNatClampNeg = -1 := by unfold szM; rw [if_neg g]
      refine sg_m_digest_67 ⟨v4, fun e => fin _ ?_, fun e => ?_⟩
      · unfold stH
        rw [es, n1]
        exact d.mix
      · refine absurd ?_ e
        show mI w 78 x.toNatClampNeg ≤ 0
        rw [d.2.1]
        exact Int32.le_of_lt (Int32.not_le.mp g)
  have s1 : ∀ (x : Int32) (w : pM), 0 ≤ x → x ≤ 8 → DG u w (mixF (couG u) 17 x.toNatClampNeg) → Ws G m_digest 9 [(0, .ref 76), (1, .int x)] [] w (RJ fun a u' => Mo mB u u' ∧ a = dgM u) := by
    refine upI 8 _ (fun x ih w h0 hx d => sg_m_digest_9 ⟨fun c => ?_, fun c => ?_⟩)
    · have e8 : x.toNatClampNeg = 8 := by
        have : x = 8 := by clear ih s4 s3; grind
        rw [this]; decide
      rw [e8] at d
      exact kV (e_mixSqx hM d) (fun w' d' => s3 0 w' (by decide) (by decide) (by rw [z0]; exact d'))
    · have l8 : ¬ 8 ≤ x := by clear ih s4 s3; grind
      have su := stU h0 l8
      have hMw : InvM w := d.1.inv hM
      refine kI (e_countsx hMw (by rw [d.2.1]; exact hb) ⟨h0, Int32.not_lt.mp c⟩) (fun a w' q => ?_)
      obtain ⟨rfl, ea⟩ := q
      have es : shM w = shM u := shM_cg (fun k => by rw [d.2.1])
      have er : rwM w = rwM u := by unfold rwM; rw [d.2.1]
      have et : txM w = txM u := by unfold txM; rw [d.2.1]
      rw [es, er, et, d.2.1] at ea
      have ec : a = couG u x.toNatClampNeg := by
        unfold couG
        rw [i32_nat h0]
        exact ea
      refine ih l8 _ su.1 su.2 ?_
      rw [tn_succ h0 l8, mixF, ← ec]
      exact d.mix
  have d0 : DG u (pL u 76 32 17) 17 := ⟨Mq.rf.wL, rfl, mLq⟩
  exact sg_m_digest_0 (s1 0 _ (by decide) (by decide) (by rw [z0]; exact d0))
end ANL
