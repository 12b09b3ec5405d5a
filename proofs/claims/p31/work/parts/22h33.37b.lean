/-! ===== again, wants, beside, round, best, agree ===== -/
/-- the length of a round -/
noncomputable def rOf (n : Int32) (far : Nat → Int32) (m : Nat) (set : Int32) : Int32 := @dite _ (∃ r, IsR n far m set r) (Classical.propDecidable _) (fun h => h.choose) (fun _ => 0)
theorem rOf_eq {n : Int32} {far : Nat → Int32} {m : Nat} {set r : Int32} (h : IsR n far m set r) : r = rOf n far m set := by
  unfold rOf
  rw [dif_pos ⟨r, h⟩]
  exact h.eq (Exists.choose_spec (⟨r, h⟩ : ∃ r, IsR n far m set r))
theorem rOf_cg {n : Int32} {far far' : Nat → Int32} {m : Nat} {set : Int32} (e : ∀ s, s < m → far' s = far s) : rOf n far' m set = rOf n far m set := by
  by_cases h : ∃ r, IsR n far m set r
  · obtain ⟨r, q⟩ := h
    rw [← rOf_eq q, ← rOf_eq (q.cg e)]
  · have h' : ¬ ∃ r, IsR n far' m set r := fun ⟨r, q⟩ => h ⟨r, q.cg (fun s hs => (e s hs).symm)⟩
    unfold rOf
    rw [dif_neg h, dif_neg h']
/-- the first of the best, by what is kept -/
def gsF (kp : Int32 → Int32 → Bool) (c v : Nat → Int32) : Nat → Int32 × Int32
  | 0 => (c 0, v 0)
  | k + 1 => if kp (gsF kp c v k).2 (v (k + 1)) = true then gsF kp c v k else (c (k + 1), v (k + 1))
def gsI (kp : Int32 → Int32 → Bool) (c v : Nat → Int32) (a l : Int32) : Nat → Prop
  | 0 => kp l (v 0) = false
  | k + 1 => (a, l) = gsF kp c v k
theorem gs_k {kp : Int32 → Int32 → Bool} {c v : Nat → Int32} {a l : Int32} : ∀ {w : Nat}, gsI kp c v a l w → kp l (v w) = true → gsI kp c v a l (w + 1)
  | 0, h, k => by
    have h' : kp l (v 0) = false := h
    rw [k] at h'; exact absurd h' (by decide)
  | w + 1, h, k => by
    have h' : (a, l) = gsF kp c v w := h
    show (a, l) = gsF kp c v (w + 1)
    rw [gsF, ← h']
    exact (if_pos k).symm
theorem gs_r {kp : Int32 → Int32 → Bool} {c v : Nat → Int32} {a l : Int32} : ∀ {w : Nat}, gsI kp c v a l w → kp l (v w) = false → gsI kp c v (c w) (v w) (w + 1)
  | 0, _, _ => rfl
  | w + 1, h, k => by
    have h' : (a, l) = gsF kp c v w := h
    show (c (w + 1), v (w + 1)) = gsF kp c v (w + 1)
    rw [gsF, ← h']
    exact (if_neg (by show ¬ kp l (v (w + 1)) = true; rw [k]; decide)).symm
theorem gsF_cg {kp : Int32 → Int32 → Bool} {c c' v v' : Nat → Int32} : ∀ k, (∀ j, j ≤ k → v' j = v j ∧ c' j = c j) → gsF kp c' v' k = gsF kp c v k
  | 0, e => by rw [gsF, gsF, (e 0 (Nat.le_refl _)).1, (e 0 (Nat.le_refl _)).2]
  | k + 1, e => by rw [gsF, gsF, gsF_cg k (fun j hj => e j (by omega)), (e (k + 1) (Nat.le_refl _)).1, (e (k + 1) (Nat.le_refl _)).2]
def kpL (l v : Int32) : Bool := decide (l ≤ v)
theorem kpL_t {l v : Int32} (h : l ≤ v) : kpL l v = true := decide_eq_true h
theorem kpL_f {l v : Int32} (h : ¬ l ≤ v) : kpL l v = false := decide_eq_false h
section ANB
variable {G : pG} {u v : pM} {Q : Option Value → pM → Prop}
/-! again -/
/-! wants -/
/-! beside -/
/-! round -/
def rouK (n m x1 x2 : Int32) : Prop := (0 ≤ x1 ∧ x1 < n) ∧ 0 ≤ x2 ∧ x2 >>> (m &&& 31) = 0
def rouM (n m x1 x2 : Int32) : Prop := (0 ≤ x1 ∧ x1 ≤ n - 1) ∧ 0 ≤ x2 ∧ x2 ≤ (1 <<< (m &&& 31)) - 1
theorem rou_eq {n m x1 x2 : Int32} (hm : 0 ≤ m ∧ m ≤ 7) (hn : 0 ≤ n ∧ n ≤ 30) : rouK n m x1 x2 ↔ rouM n m x1 x2 := by
  have e := er_eq (x1 := x1) (x2 := x2) (x3 := 0) (x4 := 0) hm hn
  exact ⟨fun h => ⟨(e.mp ⟨h.1, h.2, by decide, by decide⟩).1, (e.mp ⟨h.1, h.2, by decide, by decide⟩).2.1⟩, fun h => ⟨(e.mpr ⟨h.1, h.2, by decide, by decide⟩).1, (e.mpr ⟨h.1, h.2, by decide, by decide⟩).2.1⟩⟩
/-! best -/
def besC (n m x1 x2 x3 : Int32) : Prop := rouK n m x1 x2 ∧ 0 ≤ x3 ∧ x3 ≤ 60
noncomputable def besV (n m x1 x2 : Int32) (dw : Nat → Nat → Int32) (w : Nat) : Int32 := rOf n (farP n (dw w) x1) m.toNatClampNeg x2
def besQ (n m x1 x2 x3 : Int32) (dw : Nat → Nat → Int32) (a k k' : Int32) : Prop := (besC n m x1 x2 x3 ∧ (a, k') = gsF kpL Int32.ofNat (besV n m x1 x2 dw) x3.toNatClampNeg) ∨ (¬ besC n m x1 x2 x3 ∧ a = -1 ∧ k' = k)
theorem st61 {x3 : Int32} (h : 0 ≤ x3 ∧ x3 ≤ 60) : 0 ≤ x3 + 1 ∧ (x3 + 1).toNatClampNeg = x3.toNatClampNeg + 1 := ⟨by have := h.1; have := h.2; grind, tn_succ (b := 61) h.1 (by have := h.2; grind)⟩
theorem st62 {x x3 : Int32} (h : 0 ≤ x3 ∧ x3 ≤ 60) (h0 : 0 ≤ x) (c : ¬ x3 < x) : ¬ x3 + 1 ≤ x ∧ 0 ≤ x + 1 ∧ x + 1 ≤ x3 + 1 := ⟨by have := h.1; have := h.2; grind, by have := h.1; have := h.2; grind, by have := h.1; have := h.2; grind⟩
theorem st63 {x x3 : Int32} (h : 0 ≤ x3 ∧ x3 ≤ 60) (h0 : 0 ≤ x) (hx : x ≤ x3 + 1) (c : x3 < x) : x.toNatClampNeg = x3.toNatClampNeg + 1 := by
  have : x = x3 + 1 := by have := h.1; have := h.2; grind
  rw [this]; exact (st61 h).2
theorem d_besty {x1 x2 x3 : Int32} (hC : InvC u) (hm : 0 ≤ mI u (mR u 2 10) 1 ∧ mI u (mR u 2 10) 1 ≤ 7) (hK : 0 < mI u (mR u 2 10) 0 → PlK u (mR u 2 10)) (hd : drK u (mI u (mR u 2 10) 1).toNatClampNeg) : Ws G D_best 0 [(0, .ref 2), (1, .int x1), (2, .int x2), (3, .int x3)] [] u (RI fun a u' => Cl qB u u' ∧ besQ (mI u (mR u 2 10) 0) (mI u (mR u 2 10) 1) x1 x2 x3 (dwC u) a (mI u 2 12) (mI u' 2 12)) := by
  have m7 : (mI u (mR u 2 10) 1).toNatClampNeg ≤ 7 := by have := tn_le hm.2; have e : (7 : Int32).toNatClampNeg = 7 := (by decide); omega
  have no : ¬ besC (mI u (mR u 2 10) 0) (mI u (mR u 2 10) 1) x1 x2 x3 → (RI fun a u' => Cl qB u u' ∧ besQ (mI u (mR u 2 10) 0) (mI u (mR u 2 10) 1) x1 x2 x3 (dwC u) a (mI u 2 12) (mI u' 2 12)) (some (.int (-1))) u := fun n => ⟨_, rfl, Cl.rf hC, .inr ⟨n, rfl, rfl⟩⟩
  refine sg_D_best_0 (fun hp => ⟨fun a _ => ⟨fun b => ⟨fun c => no (fun z => absurd c (Int32.not_lt.mpr z.2.1)), fun c => ⟨fun d _ => ?_, fun d => no (fun z => d z.2.2)⟩⟩, fun b => no (fun z => b z.1.2)⟩, fun a => no (fun z => a z.1.1)⟩)
  have w60 : 0 ≤ x3 ∧ x3 ≤ 60 := ⟨Int32.not_lt.mp c, d⟩
  have k : besC (mI u (mR u 2 10) 0) (mI u (mR u 2 10) 1) x1 x2 x3 := ⟨⟨a, b⟩, w60⟩
  have hK' := hK (Int32.lt_of_le_of_lt a.1 a.2)
  have ko := pl_ok hp
  have k10 : okS 10 5 := by decide
  have pn := pl_st k10 ko
  have key : ∀ x v (x4 x5 : Int32), 0 ≤ x → x ≤ x3 + 1 → AH u v x.toNatClampNeg → (x.toNatClampNeg = 0 → mI u (mR u 2 10) 0 < x5) → (¬ x.toNatClampNeg = 0 → gsI kpL Int32.ofNat (besV (mI u (mR u 2 10) 0) (mI u (mR u 2 10) 1) x1 x2 (dwC u)) x4 x5 x.toNatClampNeg) → Ws G D_best 62 [(0, .ref 2), (1, .int x1), (2, .int x2), (3, .int x3), (4, .int x4), (5, .int x5), (6, .int x)] [] v (RI fun a u' => Cl qB u u' ∧ besQ (mI u (mR u 2 10) 0) (mI u (mR u 2 10) 1) x1 x2 x3 (dwC u) a (mI u 2 12) (mI u' 2 12)) := by
    refine upI (x3 + 1) _ (fun x ih v x4 x5 h0 hx hA hz hg => ?_)
    have hR : mR v 2 10 = mR u 2 10 := by rw [hA.1.2.1]
    have fN : ∀ n k, n ≠ 10 → n ≠ 11 → mI v n k = mI u n k := hA.2.1
    refine sg_D_best_62 ⟨fun c => ⟨_, rfl, (hA.1.pI wr_D (by decide)).cl hC, .inl ⟨k, ?_⟩⟩, fun c _ => ?_⟩
    · have e := st63 w60 h0 hx c
      have g := hg (by omega)
      rw [e] at g
      rw [mI_eq]
      exact g
    obtain ⟨s1, s2, s3⟩ := st62 w60 h0 c
    have sx := tn_succ h0 s1
    rw [hR]
    have e0 : mI v (mR u 2 10) 0 = mI u (mR u 2 10) 0 := fN _ _ pn.1.1 pn.1.2
    have e1 : mI v (mR u 2 10) 1 = mI u (mR u 2 10) 1 := fN _ _ pn.1.1 pn.1.2
    have rr := pws_rg (w := mI u 7 0) (shut := mI u 7 1) (sh := shF u (mR u 2 10)) (ord := ordF u (mR u 2 10)) hK'.1.1 hK'.1.2 hd x.toNatClampNeg
    refine kI (c_roundOfx k10 ko (by rw [e0]; exact hK'.1) (by rw [e1]; exact hm) ⟨a.1, Int32.lt_of_lt_of_le a.2 (Int32.le_trans hK'.1.2 (by decide))⟩ (fun s hs => ?_)) (fun r v0 q => ?_)
    · rw [e1] at hs
      have e : mI v (10 + 1) s = dwC u x.toNatClampNeg s := hA.2.2.2.2 s hs
      rw [e]
      exact ⟨(rr s hs).1, Int32.lt_trans (rr s hs).2 (by decide)⟩
    obtain ⟨rfl, hr⟩ := q
    rw [e0, e1] at hr
    have er : r = besV (mI u (mR u 2 10) 0) (mI u (mR u 2 10) 1) x1 x2 (dwC u) x.toNatClampNeg := (rOf_eq hr).trans (rOf_cg (farP_cg (fun s hs => hA.2.2.2.2 s hs)))
    have G0 : gsI kpL Int32.ofNat (besV (mI u (mR u 2 10) 0) (mI u (mR u 2 10) 1) x1 x2 (dwC u)) x4 x5 x.toNatClampNeg := by
      by_cases z : x.toNatClampNeg = 0
      · have l := hz z
        rw [z] at er ⊢
        refine kpL_f (fun q => ?_)
        rw [← er] at q
        exact absurd (Int32.lt_of_lt_of_le (Int32.lt_of_lt_of_le l q) hr.1.2) Int32.lt_irrefl
      · exact hg z
    rw [hR]
    refine ⟨fun d _ => kV (c_ah hK' hp hA) (fun v' h => ih s1 v' x4 x5 s2 s3 (by rw [sx]; exact h) (fun z => by omega) (fun _ => ?_)), fun d _ => kV (c_ah hK' hp hA) (fun v' h => ih s1 v' x r s2 s3 (by rw [sx]; exact h) (fun z => by omega) (fun _ => ?_))⟩
    · rw [sx]
      rw [er] at d
      exact gs_k G0 (kpL_t d)
    · rw [sx]
      rw [er] at d
      have g := gs_r G0 (kpL_f d)
      rw [i32_nat h0, ← er] at g
      exact g
  have z0 : (0 : Int32).toNatClampNeg = 0 := by decide
  exact key 0 _ _ _ (by decide) (st61 w60).1 (by rw [z0]; exact AH.z m7) (fun _ => by have := hK'.1.2; grind) (fun z => absurd z0 z)
theorem e_besty {x1 x2 x3 : Int32} {ord : Nat → Nat} (hM : InvM u) (ho : OrdP (shM u) (mI u 76 11).toNatClampNeg ord) : Ws G m_best 0 [(0, .ref 76), (1, .int x1), (2, .int x2), (3, .int x3)] [] u (RI fun a u' => Mo mB u u' ∧ besQ (mI u 76 10) (mI u 76 11) x1 x2 x3 (dwM u ord) a (mI u 76 2) (mI u' 76 2)) := by
  have m7 := hM.m7
  have n30 := hM.n30
  have re := rou_eq (x1 := x1) (x2 := x2) m7 n30
  have no : ¬ (rouM (mI u 76 10) (mI u 76 11) x1 x2 ∧ 0 ≤ x3 ∧ x3 ≤ 60) → (RI fun a u' => Mo mB u u' ∧ besQ (mI u 76 10) (mI u 76 11) x1 x2 x3 (dwM u ord) a (mI u 76 2) (mI u' 76 2)) (some (.int (-1))) u := fun n => ⟨_, rfl, Mo.rf hM, .inr ⟨fun z => n ⟨re.mp z.1, z.2⟩, rfl, rfl⟩⟩
  refine sg_m_best_0 ⟨fun a => ⟨fun b => ⟨fun w60 => ?_, fun c => no (fun z => c z.2)⟩, fun b => no (fun z => b z.1.2)⟩, fun a => no (fun z => a z.1.1)⟩
  have k : besC (mI u 76 10) (mI u 76 11) x1 x2 x3 := ⟨re.mpr ⟨a, b⟩, w60⟩
  have hn : 10 ≤ mI u 76 10 ∧ mI u 76 10 ≤ 30 := hM.nd (fun z => by rw [z] at a; exact absurd (Int32.le_trans a.1 a.2) (by decide))
  have key : ∀ x v (x4 x5 : Int32), 0 ≤ x → x ≤ x3 + 1 → AM u v ord x.toNatClampNeg → (x.toNatClampNeg = 0 → mI u 76 10 < x5) → (¬ x.toNatClampNeg = 0 → gsI kpL Int32.ofNat (besV (mI u 76 10) (mI u 76 11) x1 x2 (dwM u ord)) x4 x5 x.toNatClampNeg) → Ws G m_best 42 [(0, .ref 76), (1, .int x1), (2, .int x2), (3, .int x3), (4, .int x4), (5, .int x5), (6, .int x)] [] v (RI fun a u' => Mo mB u u' ∧ besQ (mI u 76 10) (mI u 76 11) x1 x2 x3 (dwM u ord) a (mI u 76 2) (mI u' 76 2)) := by
    refine upI (x3 + 1) _ (fun x ih v x4 x5 h0 hx hA hz hg => ?_)
    refine sg_m_best_42 ⟨fun c => ⟨_, rfl, (hA.1.pF (by decide)).mo hM, .inl ⟨k, ?_⟩⟩, fun c => ?_⟩
    · have e := st63 w60 h0 hx c
      have g := hg (by omega)
      rw [e] at g
      rw [mI_eq]
      exact g
    obtain ⟨s1, s2, s3⟩ := st62 w60 h0 c
    have sx := tn_succ h0 s1
    refine kI (e_roundOfx (hA.1.inv hM) (by rw [hA.1.n]; exact hn) b.1 (set128 m7 b.2)) (fun r v0 q => ?_)
    obtain ⟨rfl, hr⟩ := q
    rw [hA.1.n, hA.1.m] at hr
    have er : r = besV (mI u 76 10) (mI u 76 11) x1 x2 (dwM u ord) x.toNatClampNeg := (rOf_eq hr).trans (rOf_cg (farP_cg (fun s hs => hA.2.2 s hs)))
    have G0 : gsI kpL Int32.ofNat (besV (mI u 76 10) (mI u 76 11) x1 x2 (dwM u ord)) x4 x5 x.toNatClampNeg := by
      by_cases z : x.toNatClampNeg = 0
      · have l := hz z
        rw [z] at er ⊢
        refine kpL_f (fun q => ?_)
        rw [← er] at q
        exact absurd (Int32.lt_of_lt_of_le (Int32.lt_of_lt_of_le l q) hr.1.2) Int32.lt_irrefl
      · exact hg z
    have keep : x5 ≤ r → gsI kpL Int32.ofNat (besV (mI u 76 10) (mI u 76 11) x1 x2 (dwM u ord)) x4 x5 (x + 1).toNatClampNeg := fun d => by
      rw [sx]
      rw [er] at d
      exact gs_k G0 (kpL_t d)
    have repl : ¬ x5 ≤ r → gsI kpL Int32.ofNat (besV (mI u 76 10) (mI u 76 11) x1 x2 (dwM u ord)) x r (x + 1).toNatClampNeg := fun d => by
      rw [sx]
      rw [er] at d
      have g := gs_r G0 (kpL_f d)
      rw [i32_nat h0, ← er] at g
      exact g
    refine ⟨fun d => ⟨fun _ => kV (e_am hM ho hA (i32_nat h0).symm) (fun v' h => ih s1 v' x4 x5 s2 s3 (by rw [sx]; exact h) (fun z => by omega) (fun _ => keep d)), fun d' => absurd d d'⟩, fun d => ⟨fun d' => absurd d' d, fun _ => kV (e_am hM ho hA (i32_nat h0).symm) (fun v' h => ih s1 v' x r s2 s3 (by rw [sx]; exact h) (fun z => by omega) (fun _ => repl d))⟩⟩
  have z0 : (0 : Int32).toNatClampNeg = 0 := by decide
  exact kV (e_am0 hM) (fun v h => key 0 v _ _ (by decide) (st61 w60).1 (by rw [z0]; exact h) (fun _ => Int32.lt_of_le_of_lt hn.2 (by decide)) (fun z => absurd z0 z))
end ANB
