/-! ===== errands: leastFor ===== -/
def Lq (u v : pM) : Prop := Mq mB u v ∧ (∀ k, mI v 88 k = mI u 88 k) ∧ ∀ k, mI v 91 k = mI u 91 k
def TT (u : pM) (set weeks : Int32) : Nat → Nat → Int32 := tab (mI u 88) (mayF (mI u 91) (mI u 76 11).toNatClampNeg) set weeks
section MOD
variable {G : pG} {u v w : pM}
theorem Lq.rf : Lq u u := ⟨Mq.rf, fun _ => rfl, fun _ => rfl⟩
theorem Lq.tr (h : Lq u v) (h2 : Lq v w) : Lq u w := ⟨h.1.tr h2.1, fun k => (h2.2.1 k).trans (h.2.1 k), fun k => (h2.2.2 k).trans (h.2.2 k)⟩
theorem Lq.w89 {k : Nat} {x : Int32} (h : Lq u v) : Lq u (pI v 89 k x) := ⟨h.1.pA (by decide), fun i => by rw [mI_ne (by decide)]; exact h.2.1 i, fun i => by rw [mI_ne (by decide)]; exact h.2.2 i⟩
theorem Lq.w90 {k : Nat} {x : Int32} (h : Lq u v) : Lq u (pI v 90 k x) := ⟨h.1.pA (by decide), fun i => by rw [mI_ne (by decide)]; exact h.2.1 i, fun i => by rw [mI_ne (by decide)]; exact h.2.2 i⟩
theorem Lq.may {p x : Int32} (h : Lq u v) : mayP v p x (mI v 76 11).toNatClampNeg ↔ mayF (mI u 91) (mI u 76 11).toNatClampNeg p x = true := by
  unfold mayP mayF
  rw [decide_eq_true_eq, h.1.m]
  constructor
  · intro q t hb ht; rw [← h.2.2]; exact q t hb ht
  · intro q t hb ht; rw [h.2.2]; exact q t hb ht
theorem e_lf57 {set weeks x3 x4 : Int32} {j : Nat} {Q : Option Value → pM → Prop} (hM : InvM u) (s1 : set < 128) (hx : x3 = weeks - Int32.ofNat j) (h3 : 0 ≤ x3 ∧ x3 ≤ 30) (h4 : 0 ≤ x4) (h4s : x4 ≤ set) (c : x4 &&& (set ^^^ (-1)) = 0)
    (K : ∀ v, Lq u v → (∀ k, k ≤ set.toNatClampNeg → mI v 89 k = TT u set weeks j k) → (∀ k, k < x4.toNatClampNeg → mI v 90 k = TT u set weeks (j + 1) k) → mI v 90 x4.toNatClampNeg = TT u set weeks (j + 1) x4.toNatClampNeg → Ws G m_leastFor 38 [(0, .ref 76), (1, .int set), (3, .int x3), (4, .int (x4 + 1))] [] v Q) :
    ∀ (f : Nat) (x5 : Int32) (v : pM), x5.toInt < f → Lq u v → (∀ k, k ≤ set.toNatClampNeg → mI v 89 k = TT u set weeks j k) → (∀ k, k < x4.toNatClampNeg → mI v 90 k = TT u set weeks (j + 1) k) → x5 ≤ x4 → fo (cnd (mI u 88) (TT u set weeks j) (fun p => mayF (mI u 91) (mI u 76 11).toNatClampNeg p x3) x3 x4) (seqP x4 f x5) (mI v 90 x4.toNatClampNeg) = TT u set weeks (j + 1) x4.toNatClampNeg → Ws G m_leastFor 57 [(0, .ref 76), (1, .int set), (3, .int x3), (4, .int x4), (5, .int x5)] [] v Q := by
  intro f
  have z0 : (0 : Int32).toInt = 0 := by decide
  induction f with
  | zero =>
    intro x5 v hf hq h89 h90 h54 hfo
    have n5 : x5 < 0 := Int32.lt_iff_toInt_lt.mpr (by omega)
    exact sg_m_leastFor_57 ⟨fun d => absurd c d, fun _ => ⟨fun _ => K v hq h89 h90 hfo, fun d => absurd n5 d⟩⟩
  | succ f ih =>
    intro x5 v hf hq h89 h90 h54 hfo
    by_cases n5 : x5 < 0
    · rw [seqP, if_pos n5] at hfo
      exact sg_m_leastFor_57 ⟨fun d => absurd c d, fun _ => ⟨fun _ => K v hq h89 h90 hfo, fun d => absurd n5 d⟩⟩
    · rw [seqP, if_neg n5] at hfo
      have x50 : 0 ≤ x5 := Int32.not_lt.mp n5
      have v4 : vp_in x4 128 := vin h4 (show (_ : Int32) < 128 by grind) (by decide)
      have fin : ∀ val, val = mn (mI v 90 x4.toNatClampNeg) (cnd (mI u 88) (TT u set weeks j) (fun p => mayF (mI u 91) (mI u 76 11).toNatClampNeg p x3) x3 x4 x5) → (¬ x5 = 0 → Ws G m_leastFor 57 [(0, .ref 76), (1, .int set), (3, .int x3), (4, .int x4), (5, .int ((x5 - 1) &&& x4))] [] (pI v 90 x4.toNatClampNeg val) Q) ∧ (x5 = 0 → Ws G m_leastFor 57 [(0, .ref 76), (1, .int set), (3, .int x3), (4, .int x4), (5, .int (-1))] [] (pI v 90 x4.toNatClampNeg val) Q) := by
        intro val hv
        have a89 : ∀ k, k ≤ set.toNatClampNeg → mI (pI v 90 x4.toNatClampNeg val) 89 k = TT u set weeks j k := fun k hk => by rw [mI_ne (by decide)]; exact h89 k hk
        have a90 : ∀ k, k < x4.toNatClampNeg → mI (pI v 90 x4.toNatClampNeg val) 90 k = TT u set weeks (j + 1) k := fun k hk => by rw [mI_nk (by omega)]; exact h90 k hk
        refine ⟨fun n0 => ?_, fun n0 => ?_⟩
        · rw [if_neg n0] at hfo
          have p1 : 0 ≤ x5 - 1 := by grind
          have an := an_nat x4 p1
          refine ih _ _ ?_ hq.w90 a89 a90 (Int32.le_trans an.2 (by grind)) (by rw [mI_eq, hv]; exact hfo)
          have l := Int32.le_iff_toInt_le.mp an.2
          have e : (x5 - 1).toInt = x5.toInt - 1 := by
            have b := Int32.le_iff_toInt_le.mp x50
            have c1 := Int32.toInt_lt x5
            rw [Int32.toInt_sub, show (1 : Int32).toInt = 1 by decide, Int.bmod_eq_of_le (by omega) (by omega)]
          omega
        · rw [if_pos n0] at hfo
          refine ih _ _ ?_ hq.w90 a89 a90 (Int32.le_trans (show (-1 : Int32) ≤ 0 by decide) h4) (by rw [mI_eq, hv]; exact hfo)
          have : (-1 : Int32).toInt = -1 := by decide
          omega
      refine sg_m_leastFor_57 ⟨fun d => absurd c d, fun _ => ⟨fun d => absurd d n5, fun _ => kI (e_mayIn (hq.1.inv hM)) (fun a v' h => ?_)⟩⟩
      obtain ⟨rfl, hiff⟩ := h
      rw [hq.may] at hiff
      refine ⟨fun a0 => ?_, fun a0 => ?_⟩
      · have nm : ¬ mayF (mI u 91) (mI u 76 11).toNatClampNeg x5 x3 = true := fun q => hiff.mpr q a0
        have ce : cnd (mI u 88) (TT u set weeks j) (fun p => mayF (mI u 91) (mI u 76 11).toNatClampNeg p x3) x3 x4 x5 = 16777216 := by
          unfold cnd; rw [if_neg nm]
        refine ⟨v4, fun d => ⟨v4, v4, fin _ ?_⟩, fun d => ⟨v4, fin _ ?_⟩⟩
        · rw [ce, mn, if_pos d]
        · rw [ce, mn, if_neg d]
      · have ym : mayF (mI u 91) (mI u 76 11).toNatClampNeg x5 x3 = true := hiff.mp a0
        have an := an_nat (x5 ^^^ (-1)) h4
        have e8 : mI v 89 (x4 &&& (x5 ^^^ (-1)) : Int32).toNatClampNeg = TT u set weeks j (x4 &&& (x5 ^^^ (-1)) : Int32).toNatClampNeg := h89 _ (tn_le (Int32.le_trans an.2 h4s))
        have ce : cnd (mI u 88) (TT u set weeks j) (fun p => mayF (mI u 91) (mI u 76 11).toNatClampNeg p x3) x3 x4 x5 = mI v 88 (128 * x3 + x5 : Int32).toNatClampNeg + mI v 89 (x4 &&& (x5 ^^^ (-1)) : Int32).toNatClampNeg := by
          unfold cnd; rw [if_pos ym, hq.2.1, e8]
        refine ⟨vin (by grind) (show (_ : Int32) < 3968 by grind) (by decide), vin an.1 (show (_ : Int32) < 128 by grind) (by decide), v4, fun d => ⟨v4, v4, fin _ ?_⟩, fun d => ⟨v4, fin _ ?_⟩⟩
        · rw [ce, mn, if_pos d]
        · rw [ce, mn, if_neg d]
theorem e_leastFor {x1 x2 : Int32} (hM : InvM u) (h0 : 0 ≤ x1) (h1 : x1 < 128) (w0 : 0 ≤ x2) (w1 : x2 ≤ 30) : Ws G m_leastFor 0 [(0, .ref 76), (1, .int x1), (2, .int x2)] [] u (RI fun a u' => a = TT u x1 x2 (x2.toNatClampNeg + 1) x1.toNatClampNeg ∧ Lq u u') := by
  have z0 : (0 : Int32).toNatClampNeg = 0 := by decide
  have zi : (0 : Int32).toInt = 0 := by decide
  have c30 : (30 : Int32).toInt = 30 := by decide
  have w0i := Int32.le_iff_toInt_le.mp w0
  have w1i := Int32.le_iff_toInt_le.mp w1
  have we : x2.toNatClampNeg = x2.toInt.toNat := rfl
  have ofx := i32_nat w0
  have full : ∀ {x : Int32} {v : pM} {n : Nat} {P : Nat → Int32}, 0 ≤ x → x1 < x → (∀ k, k < x.toNatClampNeg → mI v n k = P k) → ∀ k, k ≤ x1.toNatClampNeg → mI v n k = P k := fun _ hx h k hk => h k (Nat.lt_of_le_of_lt hk (tn_lt h0 hx))
  have stp : ∀ {x : Int32}, 0 ≤ x → ¬ x1 < x → ¬ (x1 + 1 ≤ x) ∧ 0 ≤ x + 1 ∧ (x + 1).toNatClampNeg = x.toNatClampNeg + 1 ∧ vp_in x 128 := fun {x} hx hc => ⟨by grind, by grind, tn_succ (b := x1 + 1) hx (by grind), vin hx (show (_ : Int32) < 128 by grind) (by decide)⟩
  have main : ∀ (d j : Nat), d + j = x2.toNatClampNeg + 1 → ∀ v, Lq u v → (∀ k, k ≤ x1.toNatClampNeg → mI v 89 k = TT u x1 x2 j k) → Ws G m_leastFor 31 [(0, .ref 76), (1, .int x1), (3, .int (x2 - Int32.ofNat j))] [] v (RI fun a u' => a = TT u x1 x2 (x2.toNatClampNeg + 1) x1.toNatClampNeg ∧ Lq u u') := by
    intro d
    induction d with
    | zero =>
      intro j hj v hq h89
      have ej : j = x2.toNatClampNeg + 1 := by omega
      have lt : x2 - Int32.ofNat j < 0 := by
        have : Int32.ofNat j = x2 + 1 := by
          rw [ej]
          apply Int32.toInt_inj.mp
          have p1 : (Int32.ofNat (x2.toNatClampNeg + 1)).toInt = ((x2.toNatClampNeg + 1 : Nat) : Int) := nI_toInt (by omega)
          rw [p1, i32_succ (b := 31) (by grind)]
          omega
        rw [this]; grind
      refine sg_m_leastFor_31 ⟨fun _ => ⟨vin h0 (show (_ : Int32) < 128 by grind) (by decide), _, rfl, ?_, hq⟩, fun q => absurd lt q⟩
      rw [← ej]; exact h89 _ (Nat.le_refl _)
    | succ d ih =>
      intro j hj v hq h89
      have oj : (Int32.ofNat j).toInt = j := nI_toInt (by omega)
      have j0 : 0 ≤ Int32.ofNat j := Int32.le_iff_toInt_le.mpr (by omega)
      have j1 : Int32.ofNat j ≤ x2 := Int32.le_iff_toInt_le.mpr (by omega)
      have h3 : 0 ≤ x2 - Int32.ofNat j ∧ x2 - Int32.ofNat j ≤ 30 := by constructor <;> grind
      have nx : x2 - Int32.ofNat j + (-1) = x2 - Int32.ofNat (j + 1) := by
        have : Int32.ofNat (j + 1) = Int32.ofNat j + 1 := by
          apply Int32.toInt_inj.mp
          have p1 : (Int32.ofNat (j + 1)).toInt = ((j + 1 : Nat) : Int) := nI_toInt (by omega)
          rw [p1, i32_succ (b := 31) (by grind)]
          omega
        rw [this]; grind
      have l175 : ∀ x v, 0 ≤ x → Lq u v → (∀ k, k < x.toNatClampNeg → mI v 89 k = TT u x1 x2 (j + 1) k) → (∀ k, k ≤ x1.toNatClampNeg → mI v 90 k = TT u x1 x2 (j + 1) k) → Ws G m_leastFor 175 [(0, .ref 76), (1, .int x1), (3, .int (x2 - Int32.ofNat j)), (4, .int x)] [] v (RI fun a u' => a = TT u x1 x2 (x2.toNatClampNeg + 1) x1.toNatClampNeg ∧ Lq u u') := by
        refine upI (x1 + 1) _ (fun x ihx v hx hq a89 a90 => ?_)
        refine sg_m_leastFor_175 ⟨fun c => ?_, fun c => ?_⟩
        · rw [nx]; exact ih (j + 1) (by omega) v hq (full hx c a89)
        · obtain ⟨s1, s2, s3, s4⟩ := stp hx c
          refine ⟨s4, s4, ihx s1 _ s2 hq.w89 (fun k hk => ?_) (fun k hk => by rw [mI_ne (by decide)]; exact a90 k hk)⟩
          by_cases e : k = x.toNatClampNeg
          · rw [e, mI_eq]; exact a90 _ (tn_le (by grind))
          · rw [mI_nk e]; exact a89 k (by omega)
      have l38 : ∀ x v, 0 ≤ x → Lq u v → (∀ k, k ≤ x1.toNatClampNeg → mI v 89 k = TT u x1 x2 j k) → (∀ k, k < x.toNatClampNeg → mI v 90 k = TT u x1 x2 (j + 1) k) → Ws G m_leastFor 38 [(0, .ref 76), (1, .int x1), (3, .int (x2 - Int32.ofNat j)), (4, .int x)] [] v (RI fun a u' => a = TT u x1 x2 (x2.toNatClampNeg + 1) x1.toNatClampNeg ∧ Lq u u') := by
        refine upI (x1 + 1) _ (fun x ihx v hx hq a89 a90 => ?_)
        refine sg_m_leastFor_38 ⟨fun c => l175 0 v (by decide) hq (fun k hk => by omega) (full hx c a90), fun c => ?_⟩
        obtain ⟨s1, s2, s3, s4⟩ := stp hx c
        have b89 : ∀ k, k ≤ x1.toNatClampNeg → mI (pI v 90 x.toNatClampNeg 16777216) 89 k = TT u x1 x2 j k := fun k hk => by rw [mI_ne (by decide)]; exact a89 k hk
        have b90 : ∀ k, k < x.toNatClampNeg → mI (pI v 90 x.toNatClampNeg 16777216) 90 k = TT u x1 x2 (j + 1) k := fun k hk => by rw [mI_nk (by omega)]; exact a90 k hk
        have K : ∀ v, Lq u v → (∀ k, k ≤ x1.toNatClampNeg → mI v 89 k = TT u x1 x2 j k) → (∀ k, k < x.toNatClampNeg → mI v 90 k = TT u x1 x2 (j + 1) k) → mI v 90 x.toNatClampNeg = TT u x1 x2 (j + 1) x.toNatClampNeg → Ws G m_leastFor 38 [(0, .ref 76), (1, .int x1), (3, .int (x2 - Int32.ofNat j)), (4, .int (x + 1))] [] v (RI fun a u' => a = TT u x1 x2 (x2.toNatClampNeg + 1) x1.toNatClampNeg ∧ Lq u u') := by
          intro v hq c89 c90 ce
          refine ihx s1 v s2 hq c89 (fun k hk => ?_)
          by_cases e : k = x.toNatClampNeg
          · rw [e]; exact ce
          · exact c90 k (by omega)
        have ox := i32_nat hx
        refine ⟨s4, ?_⟩
        by_cases cs : x &&& (x1 ^^^ (-1)) = 0
        · refine e_lf57 (weeks := x2) (j := j) hM h1 rfl h3 hx (by grind) cs K 130 x _ ?_ hq.w90 b89 b90 (Int32.le_refl _) ?_
          · have l := Int32.lt_iff_toInt_lt.mp (show x < 128 by grind)
            have : (128 : Int32).toInt = 128 := by decide
            omega
          · rw [mI_eq, TT, tab, ox, if_pos cs]
        · refine sg_m_leastFor_57 ⟨fun _ => K _ hq.w90 b89 b90 ?_, fun q => absurd q cs⟩
          rw [mI_eq, TT, tab, ox, if_neg cs]
      exact sg_m_leastFor_31 ⟨fun q => absurd h3.1 (Int32.not_le.mpr q), fun _ => l38 0 v (by decide) hq h89 (fun k hk => by omega)⟩
  have l2 : ∀ x v, 0 ≤ x → Lq u v → (∀ k, k < x.toNatClampNeg → mI v 89 k = TT u x1 x2 0 k) → Ws G m_leastFor 2 [(0, .ref 76), (1, .int x1), (2, .int x2), (3, .int x)] [] v (RI fun a u' => a = TT u x1 x2 (x2.toNatClampNeg + 1) x1.toNatClampNeg ∧ Lq u u') := by
    refine upI (x1 + 1) _ (fun x ihx v hx hq a89 => ?_)
    have e0 : x2 = x2 - Int32.ofNat 0 := by
      have : Int32.ofNat 0 = 0 := by decide
      rw [this]; grind
    refine sg_m_leastFor_2 ⟨fun c => ?_, fun c => ?_⟩
    · have := main (x2.toNatClampNeg + 1) 0 (by omega) v hq (full hx c a89)
      rw [← e0] at this
      exact this
    · obtain ⟨s1, s2, s3, s4⟩ := stp hx c
      have ox := i32_nat hx
      refine ⟨fun n => ⟨s4, ihx s1 _ s2 hq.w89 (fun k hk => ?_)⟩, fun n => ⟨s4, ihx s1 _ s2 hq.w89 (fun k hk => ?_)⟩⟩
      · by_cases e : k = x.toNatClampNeg
        · rw [e, mI_eq, TT, tab, if_neg]
          intro q
          rw [q] at ox
          exact n ox.symm
        · rw [mI_nk e]; exact a89 k (by omega)
      · by_cases e : k = x.toNatClampNeg
        · rw [e, mI_eq, TT, tab, if_pos]
          rw [n]; rfl
        · rw [mI_nk e]; exact a89 k (by omega)
  exact sg_m_leastFor_0 (l2 0 u (by decide) Lq.rf (fun k hk => by omega))
end MOD
