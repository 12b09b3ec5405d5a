/-! ===== the class's errands ===== -/
def rdQ (n : Int32) (m : Nat) (set d : Int32) (dr : Nat → Nat → Int32) (W : Nat) (R : Nat → Int32) : Prop := ∀ w, w ≤ W → ∀ p, Sub p set → IsR n (farP n (dr w) d) m p (R (128 * w + p.toNatClampNeg))
theorem IsR_0 {n : Int32} {far : Nat → Int32} {m : Nat} {r : Int32} (h : IsR n far m 0 r) : r = 0 := by
  refine Int32.le_antisymm ?_ h.1.1
  have := h.2.1 0 0 (by unfold b30; decide) (by unfold b30; decide) (fun s _ t => by rw [tb_0] at t; exact absurd t (by decide))
  exact this
theorem rdQ.k {n : Int32} {m : Nat} {set d weeks : Int32} {dr : Nat → Nat → Int32} {R : Nat → Int32} (hn : n ≤ 30) (h : rdQ n m set d dr weeks.toNatClampNeg R) : rdK R set weeks := by
  intro w hw
  have z0 : (0 : Int32).toNatClampNeg = 0 := by decide
  have d0 : (0 : Int32).toInt = 0 := by decide
  have d30 : (30 : Int32).toInt = 30 := by decide
  have rb : ∀ p, Sub p set → 0 ≤ Rv R w p ∧ Rv R w p ≤ 30 := fun p hp => by
    have r := (h w hw p hp).1
    have a := Int32.le_iff_toInt_le.mp r.1
    have b := Int32.le_iff_toInt_le.mp (Int32.le_trans r.2 hn)
    unfold Rv
    omega
  refine ⟨rb, ?_, fun p q hp hq => ?_⟩
  · have := IsR_0 (h w hw 0 Sub.z)
    unfold Rv
    rw [this]
    decide
  · have hpq : Sub (p ||| q) set := fun i hi z => by
      rw [tb_o, Bool.or_eq_true] at z
      rcases z with z | z
      · exact hp i hi z
      · exact hq i hi z
    have r := IsR.add hn (h w hw p hp) (h w hw q hq) (h w hw (p ||| q) hpq) (fun s hs z => by
      rw [tb_o, Bool.or_eq_true] at z
      exact z)
    have a := rb p hp
    have b := rb q hq
    have l := Int32.le_iff_toInt_le.mp r
    unfold Rv at *
    rw [Int32.toInt_add, Int.bmod_eq_of_le (by omega) (by omega)] at l
    exact l
theorem seek_rg {n tk dir : Int32} (h0 : 10 ≤ n) (h1 : n ≤ 30) : ∀ f d, (0 ≤ d ∧ d < n) → 0 ≤ seekP n tk dir f d ∧ seekP n tk dir f d < n
  | 0, d, h => h
  | f + 1, d, h => by
    rw [seekP]
    split
    · exact seek_rg h0 h1 f _ (dAt_rg h0 h1)
    · exact h
theorem weP_rg {n w shut : Int32} {sh : Nat → Sh5} {ord : Nat → Nat} {dr : Nat → Int32} (h0 : 10 ≤ n) (h1 : n ≤ 30) {m : Nat} (hd : ∀ s, s < m → 0 ≤ dr s ∧ dr s < 30) : ∀ i s, s < m → 0 ≤ (weP n w shut sh ord dr i).2 s ∧ (weP n w shut sh ord dr i).2 s < 30
  | 0, s, hs => hd s hs
  | i + 1, s, hs => by
    rw [weP]
    show 0 ≤ (if s = ord i then _ else _) ∧ (if s = ord i then _ else _) < 30
    split
    · have := seek_rg (tk := (weP n w shut sh ord dr i).1) (dir := dirP (goP (sh (ord i)) w)) h0 h1 n.toNatClampNeg (dAt n ((weP n w shut sh ord dr i).2 (ord i) + goP (sh (ord i)) w).toInt64) (dAt_rg h0 h1)
      exact ⟨this.1, Int32.lt_of_lt_of_le this.2 h1⟩
    · exact weP_rg h0 h1 hd i s hs
theorem pws_rg {n w shut : Int32} {sh : Nat → Sh5} {ord : Nat → Nat} {m : Nat} {dr : Nat → Int32} (h0 : 10 ≤ n) (h1 : n ≤ 30) (hd : ∀ s, s < m → 0 ≤ dr s ∧ dr s < 30) : ∀ k s, s < m → 0 ≤ pws n w shut sh ord m dr k s ∧ pws n w shut sh ord m dr k s < 30
  | 0 => hd
  | k + 1 => fun s hs => weP_rg h0 h1 (pws_rg h0 h1 hd k) m s hs
def tiP (Q : Nat → Int32 → Prop) (p : Int32) (x : Nat) (T : Int) : Prop := (∀ w, w < x → ∃ r, Q w r ∧ T ≤ r.toInt * 34359738368 + cod p (fun _ => (w : Int))) ∧ (T = 1152921504606846976 ∨ ∃ w, w < x ∧ ∃ r, Q w r ∧ T = r.toInt * 34359738368 + cod p (fun _ => (w : Int)))
theorem tiP.up {Q : Nat → Int32 → Prop} {p : Int32} {x : Nat} {T T' : Int} (h : tiP Q p x T) (l : lkP (Q x) T' T (cod p (fun _ => (x : Int)))) : tiP Q p (x + 1) T' := by
  obtain ⟨r, hr, a, b, c⟩ := l
  refine ⟨fun w hw => ?_, ?_⟩
  · by_cases e : w = x
    · rw [e]; exact ⟨r, hr, b⟩
    · obtain ⟨r', q, z⟩ := h.1 w (by omega)
      exact ⟨r', q, by omega⟩
  · rcases c with c | c
    · rcases h.2 with d | ⟨w, hw, r', q, z⟩
      · exact .inl (c.trans d)
      · exact .inr ⟨w, by omega, r', q, c.trans z⟩
    · exact .inr ⟨x, by omega, r, hr, c⟩
/-- the number of the least way -/
def erS (n : Int32) (m : Nat) (set d : Int32) (dr : Nat → Nat → Int32) (W : Nat) (S : Int) : Prop := ∀ R, rdQ n m set d dr W R → (∃ v, Way (XP R) W (W + 1) set v ∧ v ≤ S) ∧ ∀ v, Way (XP R) W (W + 1) set v → S ≤ v
theorem erS_of {n : Int32} {m : Nat} {set d weeks : Int32} {dr : Nat → Nat → Int32} {S T : Int32 → Int} (hn : n ≤ 30) (hS0 : S 0 = 0) (hS : ∀ k, ¬ k = 0 → Sub k set → (∀ p, ¬ p = 0 → Sub p k → S k ≤ T p + S (mi k p)) ∧ ∃ p, ¬ p = 0 ∧ Sub p k ∧ S k = T p + S (mi k p)) (hT : ∀ p, ¬ p = 0 → Sub p set → (∀ w, w ≤ weeks.toNatClampNeg → ∃ r, IsR n (farP n (dr w) d) m p r ∧ T p ≤ r.toInt * 34359738368 + cod p (fun _ => (w : Int))) ∧ ∃ w, w ≤ weeks.toNatClampNeg ∧ ∃ r, IsR n (farP n (dr w) d) m p r ∧ T p = r.toInt * 34359738368 + cod p (fun _ => (w : Int))) : erS n m set d dr weeks.toNatClampNeg (S set) := by
  intro R hR
  have K := hR.k hn
  have ss : Sub set set := fun _ _ z => z
  have eX : ∀ w p r, w ≤ weeks.toNatClampNeg → Sub p set → IsR n (farP n (dr w) d) m p r → r.toInt * 34359738368 + cod p (fun _ => (w : Int)) = XP R w p := fun w p r hw hp hr => by
    have := hr.eq (hR w hw p hp)
    unfold XP Rv
    rw [this]
  refine ⟨way_at (T := T) (XP_0 K) (XP_a K) hS0 (fun k k0 ks => (hS k k0 ks).2) (fun p p0 ps => ?_) _ set rfl ss, fun v hv => way_le (T := T) (XP_0 K) hS0 (fun k p ks p0 pk => ?_) (fun p w p0 ps hw => ?_) _ set v ss hv⟩
  · obtain ⟨w, hw, r, hr, e⟩ := (hT p p0 ps).2
    exact ⟨w, hw, by rw [e]; exact eX w p r hw ps hr⟩
  · by_cases k0 : k = 0
    · have : p = 0 := b_ext (fun i hi => by
        rw [tb_0]
        cases z : tb p i
        · rfl
        · have := pk i hi z
          rw [k0, tb_0] at this
          exact absurd this (by decide))
      exact absurd this p0
    · exact (hS k k0 ks).1 p p0 pk
  · obtain ⟨r, hr, l⟩ := (hT p p0 ps).1 w hw
    rw [eX w p r hw ps hr] at l
    exact l
/-- the digits of the number -/
theorem an31 (y : Int32) : (y &&& 31).toInt = y.toInt % 32 := by
  have e31 : (31 : Int32).toBitVec.toNat = 2 ^ 5 - 1 := by decide
  have a : (y &&& 31).toBitVec.toNat = y.toBitVec.toNat % 32 := by
    rw [Int32.toBitVec_and, BitVec.toNat_and, e31, Nat.and_two_pow_sub_one_eq_mod]
  have l := y.toBitVec.isLt
  have c1 : y.toInt = y.toBitVec.toInt := rfl
  have c2 : (y &&& 31).toInt = (y &&& 31).toBitVec.toInt := rfl
  rw [c1, c2, BitVec.toInt_eq_toNat_cond, BitVec.toInt_eq_toNat_cond, a]
  split <;> split <;> omega
theorem bm32 (v : Int) : v.bmod 4294967296 % 32 = v % 32 := by
  unfold Int.bmod
  simp only
  split <;> omega
theorem sr64 {z : Int64} {k : Nat} (hk : k < 64) (c : Int64) (hc : (c.toBitVec.smod 64).toNat = k) : (z >>> c).toInt = z.toInt / ((2 ^ k : Nat) : Int) := by
  show (z >>> c).toBitVec.toInt = _
  rw [Int64.toBitVec_shiftRight, BitVec.sshiftRight_eq', hc, BitVec.toInt_sshiftRight, Int.shiftRight_eq_div_pow]
  rfl
def dgt (S : Int) (s : Nat) : Int := S / ((32 ^ (6 - s) : Nat) : Int) % 32
theorem dg_w {z : Int64} {x2 : Int32} (h0 : 0 ≤ x2) (h7 : x2 < 7) : ((z >>> ((5 * (6 - x2) : Int32).toInt64 &&& 63)).toInt32 &&& 31).toInt = dgt z.toInt x2.toNatClampNeg := by
  have l : x2.toNatClampNeg < 7 := ixn (n := 7) h0 h7 (by decide)
  have k := (show ∀ s, s < 7 → ((((5 * (6 - Int32.ofNat s) : Int32).toInt64 &&& 63) : Int64).toBitVec.smod 64).toNat = 5 * (6 - s) ∧ (2 ^ (5 * (6 - s)) : Nat) = 32 ^ (6 - s) from by decide +kernel) _ l
  rw [i32_nat h0] at k
  rw [an31, Int64.toInt_toInt32, bm32, sr64 (by omega) _ k.1, k.2]
  rfl
theorem dg_a {z : Int64} (h0 : 0 ≤ z.toInt) (h1 : z.toInt ≤ 1125899906842624) : ((z >>> ((35 : Int32).toInt64 &&& 63)).toInt32).toInt = z.toInt / 34359738368 := by
  have k : ((((35 : Int32).toInt64 &&& 63) : Int64).toBitVec.smod 64).toNat = 35 := by decide +kernel
  have e : ((2 ^ 35 : Nat) : Int) = 34359738368 := by decide
  rw [Int64.toInt_toInt32, sr64 (by decide) _ k, e, Int.bmod_eq_of_le (by omega) (by omega)]
theorem dg_cod {c : Int} {set : Int32} {G : Nat → Int} (hc : 0 ≤ c) (hG : ∀ s, s < 7 → tb set s = true → 0 ≤ G s ∧ G s ≤ 30) : (c * 34359738368 + cod set G) / 34359738368 = c ∧ ∀ s, s < 7 → dgt (c * 34359738368 + cod set G) s = dg5 set G s := by
  have b := cod_b hG
  refine ⟨by omega, fun s h7 => ?_⟩
  have d := b.1
  have d0 := d 0 (by decide)
  have d1 := d 1 (by decide)
  have d2 := d 2 (by decide)
  have d3 := d 3 (by decide)
  have d4 := d 4 (by decide)
  have d5 := d 5 (by decide)
  have d6 := d 6 (by decide)
  have h : s = 0 ∨ s = 1 ∨ s = 2 ∨ s = 3 ∨ s = 4 ∨ s = 5 ∨ s = 6 := by omega
  have e0 : ((32 ^ (6 - 0) : Nat) : Int) = 1073741824 := by decide
  have e1 : ((32 ^ (6 - 1) : Nat) : Int) = 33554432 := by decide
  have e2 : ((32 ^ (6 - 2) : Nat) : Int) = 1048576 := by decide
  have e3 : ((32 ^ (6 - 3) : Nat) : Int) = 32768 := by decide
  have e4 : ((32 ^ (6 - 4) : Nat) : Int) = 1024 := by decide
  have e5 : ((32 ^ (6 - 5) : Nat) : Int) = 32 := by decide
  have e6 : ((32 ^ (6 - 6) : Nat) : Int) = 1 := by decide
  unfold dgt cod
  rcases h with h | h | h | h | h | h | h <;> rw [h]
  · rw [e0]; omega
  · rw [e1]; omega
  · rw [e2]; omega
  · rw [e3]; omega
  · rw [e4]; omega
  · rw [e5]; omega
  · rw [e6]; omega
