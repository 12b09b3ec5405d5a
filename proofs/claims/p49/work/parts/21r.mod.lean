/-! ===== errands: some week for a shop has the least ===== -/
theorem tb_a (x y : Int32) (i : Nat) : tb (x &&& y) i = (tb x i && tb y i) := by
  unfold tb
  rw [Int32.toBitVec_and, BitVec.getLsbD_and]
theorem tb_x {x : Int32} {i : Nat} (hi : i < 32) : tb (x ^^^ (-1)) i = !tb x i := by
  have m1 : ∀ i, i < 32 → (Int32.toBitVec (-1)).getLsbD i = true := by decide +kernel
  unfold tb
  rw [Int32.toBitVec_xor, BitVec.getLsbD_xor, m1 i hi, Bool.xor_true]
theorem an_nat {a : Int32} (q : Int32) (h0 : 0 ≤ a) : 0 ≤ a &&& q ∧ a &&& q ≤ a := by
  have z : (0 : Int32).toInt = 0 := by decide
  have a0 := Int32.le_iff_toInt_le.mp h0
  have e : (a &&& q).toBitVec.toNat = a.toBitVec.toNat &&& q.toBitVec.toNat := by rw [Int32.toBitVec_and, BitVec.toNat_and]
  have l : (a &&& q).toBitVec.toNat ≤ a.toBitVec.toNat := by rw [e]; exact Nat.and_le_left
  have ia : a.toInt = a.toBitVec.toInt := rfl
  have ib : (a &&& q).toInt = (a &&& q).toBitVec.toInt := rfl
  have ca := BitVec.toInt_eq_toNat_cond a.toBitVec
  have cb := BitVec.toInt_eq_toNat_cond (a &&& q).toBitVec
  have la := a.toBitVec.isLt
  have lb := (a &&& q).toBitVec.isLt
  constructor
  · apply Int32.le_iff_toInt_le.mpr
    rw [z, ib, cb]
    rw [ia, ca] at a0
    split at a0 <;> split <;> omega
  · apply Int32.le_iff_toInt_le.mpr
    rw [ib, cb, ia, ca]
    rw [ia, ca] at a0
    split at a0 <;> split <;> omega
theorem kn {k : Nat} (h : k < 128) : 0 ≤ Int32.ofNat k ∧ Int32.ofNat k < 128 := (show ∀ k, k < 128 → 0 ≤ Int32.ofNat k ∧ Int32.ofNat k < 128 from by decide +kernel) k h
theorem kd {k : Nat} (h : k < 128) (q : Int32) : Int32.ofNat (Int32.ofNat k &&& q).toNatClampNeg = Int32.ofNat k &&& q ∧ (Int32.ofNat k &&& q).toNatClampNeg < 128 := by
  have a := kn h
  have b := an_nat q a.1
  refine ⟨i32_nat b.1, ?_⟩
  have c := Int32.lt_iff_toInt_lt.mp (Int32.lt_of_le_of_lt b.2 a.2)
  have e : (Int32.ofNat k &&& q).toNatClampNeg = (Int32.ofNat k &&& q).toInt.toNat := rfl
  have d : (128 : Int32).toInt = 128 := by decide
  omega
def rOK (R : Nat → Int32) : Prop := ∀ i, 0 ≤ R i ∧ R i ≤ 16777216
section ER
variable {R : Nat → Int32} {set weeks : Int32} {m1 : Int32 → Int32 → Bool}
theorem tab_ge (hR : rOK R) : ∀ (j k : Nat), k < 128 → 0 ≤ tab R m1 set weeks j k
  | 0, k, _ => by unfold tab; split <;> decide
  | j + 1, k, hk => by
    unfold tab
    split
    · rename_i c
      rcases (fo_le (cnd R (tab R m1 set weeks j) (fun p => m1 p (weeks - Int32.ofNat j)) (weeks - Int32.ofNat j) (Int32.ofNat k)) (seqP (Int32.ofNat k) 130 (Int32.ofNat k)) 16777216).2.2 with r | ⟨p, hp, r⟩
      · rw [r]; decide
      · rw [r]
        have s := seq_in _ _ _ Int32.and_self p hp
        have b := hR (128 * (weeks - Int32.ofNat j) + p : Int32).toNatClampNeg
        have t1 := tab_ge hR j (Int32.ofNat k &&& (p ^^^ (-1)) : Int32).toNatClampNeg (kd hk _).2
        have t2 := tab_le (R := R) (may := m1) (set := set) (weeks := weeks) j (Int32.ofNat k &&& (p ^^^ (-1)) : Int32).toNatClampNeg
        unfold cnd
        split
        · grind
        · decide
    · decide
theorem tab_N {mx : Int32 → Int32 → Bool} {s : Nat} (hs : s < 32) (h2 : ∀ p w, tb p s = false → mx p w = m1 p w) : ∀ (j k : Nat), k < 128 → tb (Int32.ofNat k) s = false → tab R mx set weeks j k = tab R m1 set weeks j k
  | 0, k, _, _ => rfl
  | j + 1, k, hk, ht => by
    unfold tab
    split
    · have q : ∀ p ∈ seqP (Int32.ofNat k) 130 (Int32.ofNat k), cnd R (tab R mx set weeks j) (fun p => mx p (weeks - Int32.ofNat j)) (weeks - Int32.ofNat j) (Int32.ofNat k) p = cnd R (tab R m1 set weeks j) (fun p => m1 p (weeks - Int32.ofNat j)) (weeks - Int32.ofNat j) (Int32.ofNat k) p := by
        intro p hp
        have i := seq_in _ _ _ Int32.and_self p hp
        have tp : tb p s = false := by
          have := congrArg (fun x => tb x s) i.1
          simp only [tb_a, ht, Bool.and_false] at this
          exact this.symm
        have D := kd hk (p ^^^ (-1))
        have e := tab_N hs h2 j _ D.2 (by rw [D.1, tb_a, ht, Bool.false_and])
        unfold cnd
        simp only [h2 p _ tp, e]
      exact Int32.le_antisymm (fo_mono (fun p hp => by rw [q p hp]; exact Int32.le_refl _) _) (fo_mono (fun p hp => by rw [q p hp]; exact Int32.le_refl _) _)
    · rfl
theorem tab_M {mx : Int32 → Int32 → Bool} (hR : rOK R) (h1 : ∀ p w, mx p w = true → m1 p w = true) : ∀ (j k : Nat), k < 128 → tab R m1 set weeks j k ≤ tab R mx set weeks j k
  | 0, k, _ => Int32.le_refl _
  | j + 1, k, hk => by
    unfold tab
    split
    · rename_i c
      refine fo_mono2 (fun p hp => ?_)
      have i := seq_in _ _ _ Int32.and_self p hp
      have b := hR (128 * (weeks - Int32.ofNat j) + p : Int32).toNatClampNeg
      have D := kd hk (p ^^^ (-1))
      have t0 := tab_M hR h1 j _ D.2
      have t1 := tab_ge (m1 := m1) (set := set) (weeks := weeks) hR j _ D.2
      have t2 := tab_le (R := R) (may := mx) (set := set) (weeks := weeks) j (Int32.ofNat k &&& (p ^^^ (-1)) : Int32).toNatClampNeg
      unfold cnd
      by_cases e : mx p (weeks - Int32.ofNat j) = true
      · left
        rw [if_pos e, if_pos (h1 _ _ e)]
        grind
      · right
        rw [if_neg e]
        exact Int32.le_refl _
    · exact Int32.le_refl _
theorem tab_E {mx : Int32 → Int32 → Int32 → Bool} {s : Nat} (hs : s < 32) (hR : rOK R) (h1 : ∀ x p w, mx x p w = true → m1 p w = true) (h2 : ∀ x p w, tb p s = false → mx x p w = m1 p w) (h3 : ∀ p w, mx w p w = m1 p w) : ∀ (j k : Nat), k < 128 → tb (Int32.ofNat k) s = true → tab R m1 set weeks j k = 16777216 ∨ ∃ i, i < j ∧ tab R (mx (weeks - Int32.ofNat i)) set weeks j k = tab R m1 set weeks j k
  | 0, k, _, ht => by
    left
    unfold tab
    split
    · rename_i e
      rw [e] at ht
      exact absurd ht (by rw [show tb (Int32.ofNat 0) s = false from BitVec.getLsbD_zero]; decide)
    · rfl
  | j + 1, k, hk, ht => by
    by_cases c : (Int32.ofNat k &&& (set ^^^ (-1))) = 0
    · have T : ∀ m : Int32 → Int32 → Bool, tab R m set weeks (j + 1) k = fo (cnd R (tab R m set weeks j) (fun p => m p (weeks - Int32.ofNat j)) (weeks - Int32.ofNat j) (Int32.ofNat k)) (seqP (Int32.ofNat k) 130 (Int32.ofNat k)) 16777216 := fun m => by rw [tab, if_pos c]
      rcases (fo_le (cnd R (tab R m1 set weeks j) (fun p => m1 p (weeks - Int32.ofNat j)) (weeks - Int32.ofNat j) (Int32.ofNat k)) (seqP (Int32.ofNat k) 130 (Int32.ofNat k)) 16777216).2.2 with r | ⟨p, hp, r⟩
      · left; rw [T, r]
      · rw [← T] at r
        have i := seq_in _ _ _ Int32.and_self p hp
        have b := hR (128 * (weeks - Int32.ofNat j) + p : Int32).toNatClampNeg
        have D := kd hk (p ^^^ (-1))
        have L := tab_le (R := R) (may := m1) (set := set) (weeks := weeks) (j + 1) k
        have up : ∀ x, mx x p (weeks - Int32.ofNat j) = true → tab R (mx x) set weeks j (Int32.ofNat k &&& (p ^^^ (-1)) : Int32).toNatClampNeg = tab R m1 set weeks j (Int32.ofNat k &&& (p ^^^ (-1)) : Int32).toNatClampNeg → m1 p (weeks - Int32.ofNat j) = true → tab R (mx x) set weeks (j + 1) k = tab R m1 set weeks (j + 1) k := by
          intro x ex et e1
          refine Int32.le_antisymm ?_ (tab_M hR (h1 x) (j + 1) k hk)
          have q := (fo_le (cnd R (tab R (mx x) set weeks j) (fun p => mx x p (weeks - Int32.ofNat j)) (weeks - Int32.ofNat j) (Int32.ofNat k)) (seqP (Int32.ofNat k) 130 (Int32.ofNat k)) 16777216).2.1 p hp
          rw [← T (mx x)] at q
          have q2 : cnd R (tab R (mx x) set weeks j) (fun p => mx x p (weeks - Int32.ofNat j)) (weeks - Int32.ofNat j) (Int32.ofNat k) p = cnd R (tab R m1 set weeks j) (fun p => m1 p (weeks - Int32.ofNat j)) (weeks - Int32.ofNat j) (Int32.ofNat k) p := by
            unfold cnd
            rw [if_pos ex, if_pos e1, et]
          rw [q2, ← r] at q
          exact q
        by_cases e1 : m1 p (weeks - Int32.ofNat j) = true
        · by_cases tp : tb p s = true
          · right
            refine ⟨j, by omega, up _ (by rw [h3]; exact e1) (tab_N hs (h2 _) j _ D.2 ?_) e1⟩
            rw [D.1, tb_a, tb_x hs, tp]
            simp
          · rw [Bool.not_eq_true] at tp
            rcases tab_E hs hR h1 h2 h3 j _ D.2 (by rw [D.1, tb_a, tb_x hs, tp, ht]; rfl) with z | ⟨x, hx, z⟩
            · left
              rw [r] at L ⊢
              unfold cnd at L ⊢
              rw [if_pos e1, z] at L ⊢
              grind
            · right
              exact ⟨x, by omega, up _ (by rw [h2 _ _ _ tp]; exact e1) z e1⟩
        · left
          rw [r]
          unfold cnd
          rw [if_neg e1]
    · left
      rw [tab, if_neg c]
end ER
/-! which weeks may be, of the weeks fixed -/
def mayF (F : Nat → Int32) (b : Nat) (p w : Int32) : Bool := decide (∀ t, t < b → tb p t = true → F t = -9 ∨ F t = w)
def fx (F : Nat → Int32) (s : Nat) (x : Int32) : Nat → Int32 := fun t => if t = s then x else F t
theorem mayF_1 {F : Nat → Int32} {b s : Nat} {x p w : Int32} (hF : F s = -9) (h : mayF (fx F s x) b p w = true) : mayF F b p w = true := by
  unfold mayF at *
  rw [decide_eq_true_eq] at *
  intro t hb ht
  have := h t hb ht
  unfold fx at this
  by_cases e : t = s
  · rw [e]; exact .inl hF
  · rw [if_neg e] at this; exact this
theorem mayF_2 {F : Nat → Int32} {b s : Nat} {x p w : Int32} (h : tb p s = false) : mayF (fx F s x) b p w = mayF F b p w := by
  unfold mayF
  rw [decide_eq_decide]
  constructor
  · intro q t hb ht
    have := q t hb ht
    unfold fx at this
    rw [if_neg (fun e => by rw [e, h] at ht; exact absurd ht (by decide))] at this
    exact this
  · intro q t hb ht
    unfold fx
    rw [if_neg (fun e => by rw [e, h] at ht; exact absurd ht (by decide))]
    exact q t hb ht
theorem mayF_3 {F : Nat → Int32} {b s : Nat} {p w : Int32} (hF : F s = -9) : mayF (fx F s w) b p w = mayF F b p w := by
  unfold mayF
  rw [decide_eq_decide]
  constructor
  · intro q t hb ht
    have := q t hb ht
    unfold fx at this
    by_cases e : t = s
    · rw [e]; exact .inl hF
    · rw [if_neg e] at this; exact this
  · intro q t hb ht
    unfold fx
    by_cases e : t = s
    · rw [if_pos e]; exact .inr rfl
    · rw [if_neg e]; exact q t hb ht
theorem err_x {R F : Nat → Int32} {set weeks : Int32} {b s : Nat} (hs : s < 32) (w0 : 0 ≤ weeks) (s0 : 0 ≤ set) (s1 : set < 128) (hR : rOK R) (hF : F s = -9) (ht : tb set s = true) : ∃ x : Int32, 0 ≤ x ∧ x ≤ weeks ∧ tab R (mayF (fx F s x) b) set weeks (weeks.toNatClampNeg + 1) set.toNatClampNeg = tab R (mayF F b) set weeks (weeks.toNatClampNeg + 1) set.toNatClampNeg := by
  have e := i32_nat s0
  have c := Int32.lt_iff_toInt_lt.mp s1
  have d : (128 : Int32).toInt = 128 := by decide
  have e2 : set.toNatClampNeg = set.toInt.toNat := rfl
  have hk : set.toNatClampNeg < 128 := by omega
  rcases tab_E (mx := fun x => mayF (fx F s x) b) (m1 := mayF F b) (set := set) (weeks := weeks) hs hR (fun x p w h => mayF_1 hF h) (fun x p w h => mayF_2 h) (fun p w => mayF_3 hF) (weeks.toNatClampNeg + 1) set.toNatClampNeg hk (by rw [e]; exact ht) with z | ⟨i, hi, z⟩
  · refine ⟨0, Int32.le_refl _, w0, ?_⟩
    have M := tab_M (mx := mayF (fx F s 0) b) (m1 := mayF F b) (set := set) (weeks := weeks) hR (fun p w h => mayF_1 hF h) (weeks.toNatClampNeg + 1) set.toNatClampNeg hk
    rw [z] at M ⊢
    exact Int32.le_antisymm (tab_le _ _) M
  · have a := i32_nat w0
    have l := Int32.toInt_lt weeks
    have q : weeks.toNatClampNeg = weeks.toInt.toNat := rfl
    have w0i := Int32.le_iff_toInt_le.mp w0
    have p1 : (Int32.ofNat i).toInt = i := nI_toInt (by omega)
    have d0 : (0 : Int32).toInt = 0 := by decide
    have iw : Int32.ofNat i ≤ weeks := Int32.le_iff_toInt_le.mpr (by omega)
    have i0 : 0 ≤ Int32.ofNat i := Int32.le_iff_toInt_le.mpr (by omega)
    exact ⟨weeks - Int32.ofNat i, by grind, by grind, z⟩
