/-! ===== again, wants, beside, round, best, agree ===== -/
/-- in how many two differ -/
def dfN (f g : Nat → Int32) : Nat → Nat
  | 0 => 0
  | s + 1 => dfN f g s + (if f s = g s then 0 else 1)
theorem dfN_le {f g : Nat → Int32} : ∀ m, dfN f g m ≤ m
  | 0 => Nat.le_refl _
  | m + 1 => by
    have := dfN_le (f := f) (g := g) m
    rw [dfN]
    split <;> omega
theorem dfN_0 {f g : Nat → Int32} : ∀ m, dfN f g m = 0 ↔ ∀ s, s < m → f s = g s
  | 0 => ⟨fun _ s hs => by omega, fun _ => rfl⟩
  | m + 1 => by
    have h := dfN_0 (f := f) (g := g) m
    rw [dfN]
    refine ⟨fun e s hs => ?_, fun e => ?_⟩
    · by_cases c : f m = g m
      · rw [if_pos c] at e
        by_cases q : s = m
        · rw [q]; exact c
        · exact h.mp (by omega) s (by omega)
      · rw [if_neg c] at e; omega
    · rw [if_pos (e m (by omega)), h.mpr (fun s hs => e s (by omega))]
theorem dfN_cg {f g f' g' : Nat → Int32} : ∀ m, (∀ s, s < m → f' s = f s ∧ g' s = g s) → dfN f' g' m = dfN f g m
  | 0, _ => rfl
  | m + 1, e => by rw [dfN, dfN, dfN_cg m (fun s hs => e s (by omega)), (e m (by omega)).1, (e m (by omega)).2]
theorem ofN_s (k : Nat) : Int32.ofNat (k + 1) = Int32.ofNat k + 1 := by rw [show (1 : Int32) = Int32.ofNat 1 by rfl, ← Int32.ofNat_add]
theorem ofN_0 {k : Nat} (h : k ≤ 7) : Int32.ofNat k = 0 ↔ k = 0 := (show ∀ k, k < 8 → (Int32.ofNat k = 0 ↔ k = 0) from by decide) k (by omega)
theorem sT6 {x : Int32} (h0 : 1 ≤ x) (c : ¬ 600 < x) : ¬ 601 ≤ x ∧ 1 ≤ x + 1 ∧ x + 1 ≤ 601 ∧ 0 ≤ x := ⟨by grind, by grind, by grind, by grind⟩
theorem sT5 {x : Int32} (h0 : 0 ≤ x) (c : ¬ 600 < x) : ¬ 601 ≤ x ∧ 0 ≤ x + 1 ∧ x + 1 ≤ 601 := ⟨by grind, by grind, by grind⟩
theorem stU {x b : Int32} (h0 : 0 ≤ x) (c : ¬ b ≤ x) : 0 ≤ x + 1 ∧ x + 1 ≤ b := ⟨by grind, by grind⟩
theorem mod_in {a n : Int} (h0 : -n < a) (h1 : a < n) : a % n = if 0 ≤ a then a else a + n := by
  split
  · exact Int.emod_eq_of_lt (by omega) h1
  · have : a = (a + n) + n * (-1) := by omega
    rw [this, Int.add_mul_emod_self_left, Int.emod_eq_of_lt (by omega) (by omega)]
    omega
theorem weP_rn {n w shut : Int32} {sh : Nat → Sh5} {ord : Nat → Nat} {dr : Nat → Int32} (h0 : 10 ≤ n) (h1 : n ≤ 30) {m : Nat} (hd : ∀ s, s < m → 0 ≤ dr s ∧ dr s < n) : ∀ i s, s < m → 0 ≤ (weP n w shut sh ord dr i).2 s ∧ (weP n w shut sh ord dr i).2 s < n
  | 0, s, hs => hd s hs
  | i + 1, s, hs => by
    rw [weP]
    show 0 ≤ (if s = ord i then _ else _) ∧ (if s = ord i then _ else _) < n
    split
    · exact seek_rg (tk := (weP n w shut sh ord dr i).1) (dir := dirP (goP (sh (ord i)) w)) h0 h1 n.toNatClampNeg (dAt n ((weP n w shut sh ord dr i).2 (ord i) + goP (sh (ord i)) w).toInt64) (dAt_rg h0 h1)
    · exact weP_rn h0 h1 hd i s hs
theorem pws_rx {n w shut : Int32} {sh : Nat → Sh5} {ord : Nat → Nat} {m : Nat} {dr : Nat → Int32} (h0 : 10 ≤ n) (h1 : n ≤ 30) (hd : ∀ s, s < m → 0 ≤ dr s ∧ dr s < n) : ∀ k s, s < m → 0 ≤ pws n w shut sh ord m dr k s ∧ pws n w shut sh ord m dr k s < n
  | 0 => hd
  | k + 1 => fun s hs => weP_rn h0 h1 (pws_rx h0 h1 hd k) m s hs
theorem bes_iff {n d e : Int32} (hn : 10 ≤ n ∧ n ≤ 30) (hd : 0 ≤ d ∧ d < n) (he : 0 ≤ e ∧ e < n) : wkV n d e = 1 ↔ (dAt n (d.toInt64 + 1) = e ∨ dAt n (e.toInt64 + 1) = d) := by
  have n1 := Int32.le_iff_toInt_le.mp hn.1
  have n2 := Int32.le_iff_toInt_le.mp hn.2
  have d1 := Int32.le_iff_toInt_le.mp hd.1
  have d2 := Int32.lt_iff_toInt_lt.mp hd.2
  have e1 := Int32.le_iff_toInt_le.mp he.1
  have e2 := Int32.lt_iff_toInt_lt.mp he.2
  have c0 : (0 : Int32).toInt = 0 := by decide
  have c1 : (1 : Int32).toInt = 1 := by decide
  have c10 : (10 : Int32).toInt = 10 := by decide
  have c30 : (30 : Int32).toInt = 30 := by decide
  have j1 : (1 : Int64).toInt = 1 := by decide
  have A : ∀ x : Int32, 0 ≤ x.toInt → x.toInt < n.toInt → (dAt n (x.toInt64 + 1)).toInt = if x.toInt + 1 = n.toInt then 0 else x.toInt + 1 := fun x a b => by
    rw [dAt_toInt (by omega), Int64.toInt_add, Int32.toInt_toInt64, j1, Int.bmod_eq_of_le (by omega) (by omega)]
    split
    · rename_i q; rw [q, Int.emod_self]
    · exact Int.emod_eq_of_lt (by omega) (by omega)
  have C : (dAt n (e - d).toInt64).toInt = if 0 ≤ e.toInt - d.toInt then e.toInt - d.toInt else e.toInt - d.toInt + n.toInt := by
    rw [dAt_toInt (by omega), Int32.toInt_toInt64, Int32.toInt_sub, Int.bmod_eq_of_le (by omega) (by omega), mod_in (by omega) (by omega)]
  have rg := dAt_rg (x := (e - d).toInt64) hn.1 hn.2
  have W : (wkV n d e).toInt = if n.toInt - (dAt n (e - d).toInt64).toInt < (dAt n (e - d).toInt64).toInt then n.toInt - (dAt n (e - d).toInt64).toInt else (dAt n (e - d).toInt64).toInt := by
    unfold wkV
    rw [wr_dAt hn.1 hn.2]
    generalize dAt n (e - d).toInt64 = U at *
    have u1 := Int32.le_iff_toInt_le.mp rg.1
    have u2 := Int32.lt_iff_toInt_lt.mp rg.2
    have eS : (n - U).toInt = n.toInt - U.toInt := by rw [Int32.toInt_sub, Int.bmod_eq_of_le (by omega) (by omega)]
    by_cases q : n - U < U
    · rw [if_pos q, if_pos (by rw [← eS]; exact Int32.lt_iff_toInt_lt.mp q), eS]
    · rw [if_neg q, if_neg (fun z => q (Int32.lt_iff_toInt_lt.mpr (by rw [eS]; exact z)))]
  have Ad := A d (by omega) (by omega)
  have Ae := A e (by omega) (by omega)
  have i1 : wkV n d e = 1 ↔ (wkV n d e).toInt = 1 := ⟨fun q => by rw [q]; exact c1, fun q => Int32.toInt_inj.mp (by rw [q, c1])⟩
  have i2 : dAt n (d.toInt64 + 1) = e ↔ (dAt n (d.toInt64 + 1)).toInt = e.toInt := ⟨fun q => by rw [q], fun q => Int32.toInt_inj.mp q⟩
  have i3 : dAt n (e.toInt64 + 1) = d ↔ (dAt n (e.toInt64 + 1)).toInt = d.toInt := ⟨fun q => by rw [q], fun q => Int32.toInt_inj.mp q⟩
  rw [i1, i2, i3, W, C, Ad, Ae]
  generalize n.toInt = N at *
  generalize d.toInt = D at *
  generalize e.toInt = E at *
  split <;> split <;> split <;> split <;> omega
/-- the length of a round -/
noncomputable def rOf (n : Int32) (far : Nat → Int32) (m : Nat) (set : Int32) : Int32 := @dite _ (∃ r, IsR n far m set r) (Classical.propDecidable _) (fun h => h.choose) (fun _ => 0)
theorem rOf_eq {n : Int32} {far : Nat → Int32} {m : Nat} {set r : Int32} (h : IsR n far m set r) : r = rOf n far m set := by
  unfold rOf
  rw [dif_pos ⟨r, h⟩]
  exact h.eq (Exists.choose_spec (⟨r, h⟩ : ∃ r, IsR n far m set r))
theorem rOf_cg {n : Int32} {far far' : Nat → Int32} {m : Nat} {set : Int32} (e : ∀ s, s < m → far' s = far s) : rOf n far' m set = rOf n far m set := by
  by_cases h : ∃ r, IsR n far m set r
  · obtain ⟨r, q⟩ := h
    rw [← rOf_eq q, ← rOf_eq (q.cg e)]
  · have h' : ¬ ∃ r, IsR n far' m set r := fun ⟨r, q⟩ => h ⟨r, q.cg (fun s hs => (e s hs).symm)⟩
    unfold rOf
    rw [dif_neg h, dif_neg h']
/-- the first of the best, by what is kept -/
def gsF (kp : Int32 → Int32 → Bool) (c v : Nat → Int32) : Nat → Int32 × Int32
  | 0 => (c 0, v 0)
  | k + 1 => if kp (gsF kp c v k).2 (v (k + 1)) = true then gsF kp c v k else (c (k + 1), v (k + 1))
def gsI (kp : Int32 → Int32 → Bool) (c v : Nat → Int32) (a l : Int32) : Nat → Prop
  | 0 => kp l (v 0) = false
  | k + 1 => (a, l) = gsF kp c v k
theorem gs_k {kp : Int32 → Int32 → Bool} {c v : Nat → Int32} {a l : Int32} : ∀ {w : Nat}, gsI kp c v a l w → kp l (v w) = true → gsI kp c v a l (w + 1)
  | 0, h, k => by
    have h' : kp l (v 0) = false := h
    rw [k] at h'; exact absurd h' (by decide)
  | w + 1, h, k => by
    have h' : (a, l) = gsF kp c v w := h
    show (a, l) = gsF kp c v (w + 1)
    rw [gsF, ← h']
    exact (if_pos k).symm
theorem gs_r {kp : Int32 → Int32 → Bool} {c v : Nat → Int32} {a l : Int32} : ∀ {w : Nat}, gsI kp c v a l w → kp l (v w) = false → gsI kp c v (c w) (v w) (w + 1)
  | 0, _, _ => rfl
  | w + 1, h, k => by
    have h' : (a, l) = gsF kp c v w := h
    show (c (w + 1), v (w + 1)) = gsF kp c v (w + 1)
    rw [gsF, ← h']
    exact (if_neg (by show ¬ kp l (v (w + 1)) = true; rw [k]; decide)).symm
theorem gsF_cg {kp : Int32 → Int32 → Bool} {c c' v v' : Nat → Int32} : ∀ k, (∀ j, j ≤ k → v' j = v j ∧ c' j = c j) → gsF kp c' v' k = gsF kp c v k
  | 0, e => by rw [gsF, gsF, (e 0 (Nat.le_refl _)).1, (e 0 (Nat.le_refl _)).2]
  | k + 1, e => by rw [gsF, gsF, gsF_cg k (fun j hj => e j (by omega)), (e (k + 1) (Nat.le_refl _)).1, (e (k + 1) (Nat.le_refl _)).2]
def kpL (l v : Int32) : Bool := decide (l ≤ v)
def kpG (l v : Int32) : Bool := decide (v ≤ l)
theorem kpL_t {l v : Int32} (h : l ≤ v) : kpL l v = true := decide_eq_true h
theorem kpL_f {l v : Int32} (h : ¬ l ≤ v) : kpL l v = false := decide_eq_false h
theorem kpG_t {l v : Int32} (h : v ≤ l) : kpG l v = true := decide_eq_true h
theorem kpG_f {l v : Int32} (h : ¬ v ≤ l) : kpG l v = false := decide_eq_false h
section ANB
variable {G : pG} {u v : pM} {Q : Option Value → pM → Prop}
theorem c_differingx {o0 o1 : Nat} {x2 : Int32} (k0 : okS o0 5) (k1 : okS o1 5) (h2 : 0 ≤ x2 ∧ x2 ≤ 7) : Ws G Sn_differing 0 [(0, .ref o0), (1, .ref o1), (2, .int x2)] [] u (RI fun a u' => u = u' ∧ a = Int32.ofNat (dfN (mI u (o0 + 1)) (mI u (o1 + 1)) x2.toNatClampNeg)) := by
  refine sg_Sn_differing_0 k0 k1 ?_
  have key : ∀ x (x3 : Int32), 0 ≤ x → x ≤ x2 → x3 = Int32.ofNat (dfN (mI u (o0 + 1)) (mI u (o1 + 1)) x.toNatClampNeg) → Ws G Sn_differing 5 [(0, .ref o0), (1, .ref o1), (2, .int x2), (3, .int x3), (4, .int x)] [] u (RI fun a u' => u = u' ∧ a = Int32.ofNat (dfN (mI u (o0 + 1)) (mI u (o1 + 1)) x2.toNatClampNeg)) := by
    refine upI x2 _ (fun x ih x3 h0 hx h3 => ?_)
    refine sg_Sn_differing_5 k0 k1 ⟨fun c => ⟨_, rfl, rfl, by rw [h3, Int32.le_antisymm hx c]⟩, fun c => ?_⟩
    have x7 : x < 7 := Int32.lt_of_lt_of_le (Int32.not_le.mp c) h2.2
    have ed : ∀ o, snD u o x = mI u (o + 1) x.toNatClampNeg := fun o => by unfold snD; rw [if_pos ⟨h0, x7⟩]
    rw [ed o0, ed o1]
    have sx := tn_succ h0 c
    have su := stU h0 c
    refine ⟨fun d => ih c _ su.1 su.2 ?_, fun d => ih c _ su.1 su.2 ?_⟩
    · rw [sx, dfN, if_pos d, h3]; exact Int32.add_zero _
    · rw [sx, dfN, if_neg d, h3, ofN_s]
  exact key 0 0 (by decide) h2.1 rfl
/-! again -/
def agaP (n : Int32) (m : Nat) (dw : Nat → Nat → Int32) (d0 : Nat → Int32) (a : Int32) : Prop := (0 < n ∧ FS (fun w => ∀ s, s < m → dw w s = d0 s) 1 a) ∨ (¬ 0 < n ∧ a = -4)
theorem d_againy (hC : InvC u) (hm : 0 ≤ mI u (mR u 2 10) 1 ∧ mI u (mR u 2 10) 1 ≤ 7) (hK : 0 < mI u (mR u 2 10) 0 → PlK u (mR u 2 10)) : Ws G D_again 0 [(0, .ref 2)] [] u (RI fun a u' => Cl qB u u' ∧ agaP (mI u (mR u 2 10) 0) (mI u (mR u 2 10) 1).toNatClampNeg (dwC u) (mI u 8) a) := by
  have m7 : (mI u (mR u 2 10) 1).toNatClampNeg ≤ 7 := by have := tn_le hm.2; have e : (7 : Int32).toNatClampNeg = 7 := (by decide); omega
  refine sg_D_again_0 (fun hp => ⟨fun k => ?_, fun k => ⟨_, rfl, Cl.rf hC, .inr ⟨k, rfl⟩⟩⟩)
  have ko := pl_ok hp
  have k10 : okS 10 5 := by decide
  have k7 : okS 7 5 := by decide
  have pn := pl_st k10 ko
  have hK' := hK k
  have key : ∀ x v (w : Nat), 1 ≤ x → x ≤ 601 → x.toNatClampNeg = w + 1 → AH u v w → (∀ j, 1 ≤ j → j ≤ w → ¬ ∀ s, s < (mI u (mR u 2 10) 1).toNatClampNeg → dwC u j s = mI u 8 s) → Ws G D_again 26 [(0, .ref 2), (1, .int x)] [] v (RI fun a u' => Cl qB u u' ∧ agaP (mI u (mR u 2 10) 0) (mI u (mR u 2 10) 1).toNatClampNeg (dwC u) (mI u 8) a) := by
    refine upI 601 _ (fun x ih v w h0 hx hw hA hno => ?_)
    have hR : mR v 2 10 = mR u 2 10 := by rw [hA.1.2.1]
    refine sg_D_again_26 ⟨fun c => ⟨_, rfl, hA.1.cl hC, .inl ⟨k, .inr ⟨fun j j1 hj => hno j j1 ?_, rfl⟩⟩⟩, fun c _ => ?_⟩
    · have l := tn_lt (show (0 : Int32) ≤ 600 by decide) c
      have e : (600 : Int32).toNatClampNeg = 600 := by decide
      omega
    obtain ⟨s1, s2, s3, s4⟩ := sT6 h0 c
    rw [hR]
    refine kV (c_ah hK' hp hA) (fun v' h _ => ?_)
    have hR' : mR v' 2 10 = mR u 2 10 := by rw [h.1.2.1]
    rw [hR', h.2.1 _ _ pn.1.1 pn.1.2]
    refine kI (c_differingx k10 k7 hm) (fun a v'' q => ?_)
    obtain ⟨rfl, ea⟩ := q
    have z : a = 0 ↔ ∀ s, s < (mI u (mR u 2 10) 1).toNatClampNeg → dwC u (w + 1) s = mI u 8 s := by
      rw [ea, ofN_0 (Nat.le_trans (dfN_le _) m7), dfN_0]
      refine ⟨fun q s hs => ?_, fun q s hs => ?_⟩
      · rw [← h.2.2.2.2 s hs, ← h.2.1 8 s (by decide) (by decide)]; exact q s hs
      · show mI v' 11 s = mI v' 8 s
        rw [h.2.2.2.2 s hs, h.2.1 8 s (by decide) (by decide)]; exact q s hs
    refine ⟨fun d => ih s1 v' (w + 1) s2 s3 ?_ h (fun j j1 hj => ?_), fun d => ⟨_, rfl, h.1.cl hC, .inl ⟨k, .inl ⟨w + 1, by omega, ?_, z.mp d, fun j j1 hj => hno j j1 (by omega), ?_⟩⟩⟩⟩
    · rw [tn_succ s4 s1, hw]
    · by_cases e : j = w + 1
      · rw [e]; exact fun q => d (z.mpr q)
      · exact hno j j1 (by omega)
    · have l := tn_le (Int32.not_lt.mp c)
      have e : (600 : Int32).toNatClampNeg = 600 := by decide
      omega
    · rw [← hw]; exact (i32_nat s4).symm
  exact key 1 _ 0 (by decide) (by decide) (by decide) (AH.z m7) (fun j j1 hj => by omega)
theorem e_aga43 {x1 : Int32} (hm : 0 ≤ mI v 76 11 ∧ mI v 76 11 ≤ 7) (A : ¬ (∀ s, s < (mI v 76 11).toNatClampNeg → mI v 85 s = mI v 84 s) → Ws G m_again 16 [(0, .ref 76), (1, .int (x1 + 1))] [] v Q) (B : (∀ s, s < (mI v 76 11).toNatClampNeg → mI v 85 s = mI v 84 s) → Q (some (.int x1)) v) : Ws G m_again 43 [(0, .ref 76), (1, .int x1), (2, .int 1), (3, .int 0)] [] v Q := by
  have key : ∀ x (x2 : Int32), 0 ≤ x → x ≤ mI v 76 11 → (¬ x2 = 0 ↔ ∀ s, s < x.toNatClampNeg → mI v 85 s = mI v 84 s) → Ws G m_again 43 [(0, .ref 76), (1, .int x1), (2, .int x2), (3, .int x)] [] v Q := by
    refine upI (mI v 76 11) _ (fun x ih x2 h0 hx h2 => ?_)
    refine sg_m_again_43 ⟨fun c => ?_, fun c => ?_⟩
    · rw [Int32.le_antisymm hx c] at h2
      exact ⟨fun d => A (fun z => h2.mpr z d), fun d => B (h2.mp d)⟩
    · have sx := tn_succ h0 c
      have su := stU h0 c
      have v7 : vp_in x 7 := vin h0 (show (_ : Int32) < 7 from Int32.lt_of_lt_of_le (Int32.not_le.mp c) hm.2) (by decide)
      refine ⟨fun d => ih c _ su.1 su.2 ⟨fun q => absurd rfl q, fun q => absurd d (h2.mpr (fun s hs => q s (by omega)))⟩, fun d => ⟨v7, v7, fun e => ih c _ su.1 su.2 ⟨fun q => absurd rfl q, fun q => absurd (q _ (by omega)) e⟩, fun e => ih c _ su.1 su.2 ⟨fun _ s hs => ?_, fun _ => by decide⟩⟩⟩
      by_cases q : s = x.toNatClampNeg
      · rw [q]; exact e
      · exact h2.mp d s (by omega)
  have z0 : (0 : Int32).toNatClampNeg = 0 := by decide
  exact key 0 1 (by decide) hm.1 ⟨fun _ s hs => by omega, fun _ => by decide⟩
theorem e_againy {ord : Nat → Nat} (hM : InvM u) (ho : OrdP (shM u) (mI u 76 11).toNatClampNeg ord) : Ws G m_again 0 [(0, .ref 76)] [] u (RI fun a u' => Mo mB u u' ∧ agaP (mI u 76 10) (mI u 76 11).toNatClampNeg (dwM u ord) (mI u 84) a) := by
  have m7 := hM.m7
  have n30 := hM.n30
  have key : 0 < mI u 76 10 → ∀ x v (w : Nat), 1 ≤ x → x ≤ 601 → x.toNatClampNeg = w + 1 → AM u v ord w → (∀ j, 1 ≤ j → j ≤ w → ¬ ∀ s, s < (mI u 76 11).toNatClampNeg → dwM u ord j s = mI u 84 s) → Ws G m_again 16 [(0, .ref 76), (1, .int x)] [] v (RI fun a u' => Mo mB u u' ∧ agaP (mI u 76 10) (mI u 76 11).toNatClampNeg (dwM u ord) (mI u 84) a) := by
    intro k
    refine upI 601 _ (fun x ih v w h0 hx hw hA hno => ?_)
    refine sg_m_again_16 ⟨fun c => ⟨_, rfl, hA.1.mo hM, .inl ⟨k, .inr ⟨fun j j1 hj => hno j j1 ?_, rfl⟩⟩⟩, fun c => ?_⟩
    · have l := tn_lt (show (0 : Int32) ≤ 600 by decide) c
      have e : (600 : Int32).toNatClampNeg = 600 := by decide
      omega
    obtain ⟨s1, s2, s3, s4⟩ := sT6 h0 c
    have ex : x - 1 = Int32.ofNat w := by
      have e := i32_nat s4
      rw [hw, ofN_s] at e
      rw [← e]
      clear ih
      grind
    rw [show mI v 76 18 + x - 1 = mI v 76 18 + (x - 1) by clear ih; grind]
    refine kV (e_am hM ho hA ex) (fun v' h => ?_)
    have em : mI v' 76 11 = mI u 76 11 := h.1.m
    have z : (∀ s, s < (mI v' 76 11).toNatClampNeg → mI v' 85 s = mI v' 84 s) ↔ ∀ s, s < (mI u 76 11).toNatClampNeg → dwM u ord (w + 1) s = mI u 84 s := by
      rw [em]
      refine ⟨fun q s hs => ?_, fun q s hs => ?_⟩
      · rw [← h.2.2 s hs, ← h.2.1 84 s (by decide) (by decide)]; exact q s hs
      · rw [h.2.2 s hs, h.2.1 84 s (by decide) (by decide)]; exact q s hs
    refine e_aga43 (by rw [em]; exact m7) (fun d => ih s1 v' (w + 1) s2 s3 ?_ h (fun j j1 hj => ?_)) (fun d => ⟨_, rfl, h.1.mo hM, .inl ⟨k, .inl ⟨w + 1, by omega, ?_, z.mp d, fun j j1 hj => hno j j1 (by omega), ?_⟩⟩⟩)
    · rw [tn_succ s4 s1, hw]
    · by_cases e : j = w + 1
      · rw [e]; exact fun q => d (z.mpr q)
      · exact hno j j1 (by omega)
    · have l := tn_le (Int32.not_lt.mp c)
      have e : (600 : Int32).toNatClampNeg = 600 := by decide
      omega
    · rw [← hw]; exact (i32_nat s4).symm
  exact sg_m_again_0 ⟨fun a => kV (e_am0 hM) (fun v h => key (by have := n30.1; grind) 1 v 0 (by decide) (by decide) (by decide) h (fun j j1 hj => by omega)), fun a => ⟨_, rfl, Mo.rf hM, .inr ⟨by rw [a]; decide, rfl⟩⟩⟩
/-! wants -/
def wanK (m x1 : Int32) : Prop := 0 ≤ x1 ∧ x1 < m
theorem d_wantsy {x1 : Int32} (hC : InvC u) (hm : 0 ≤ mI u (mR u 2 10) 1 ∧ mI u (mR u 2 10) 1 ≤ 7) (hK : 0 < mI u (mR u 2 10) 1 → PlK u (mR u 2 10)) : Ws G D_wants 0 [(0, .ref 2), (1, .int x1)] [] u (RI fun a u' => Cl qB u u' ∧ ((wanK (mI u (mR u 2 10) 1) x1 ∧ a = dAt (mI u (mR u 2 10) 0) (mI u 8 x1.toNatClampNeg + goP (shF u (mR u 2 10) x1.toNatClampNeg) (mI u 7 0)).toInt64 ∧ mI u' 2 12 = dwC u 1 x1.toNatClampNeg) ∨ (¬ wanK (mI u (mR u 2 10) 1) x1 ∧ a = -1 ∧ mI u' 2 12 = mI u 2 12))) := by
  have m7 : (mI u (mR u 2 10) 1).toNatClampNeg ≤ 7 := by have := tn_le hm.2; have e : (7 : Int32).toNatClampNeg = 7 := (by decide); omega
  refine sg_D_wants_0 (fun hp => ⟨fun a hp2 => ?_, fun a => ⟨_, rfl, Cl.rf hC, .inr ⟨fun z => a ⟨z.1, z.2, Int32.lt_of_lt_of_le z.2 hm.2⟩, rfl, rfl⟩⟩⟩)
  have a' : 0 ≤ x1 ∧ x1 < mI u (mR u 2 10) 1 ∧ x1 < 7 := a
  have ko := pl_ok hp
  have k10 : okS 10 5 := by decide
  have pn := pl_st k10 ko
  have hK' := hK (Int32.lt_of_le_of_lt a'.1 a'.2.1)
  have sN := tn_lt a'.1 a'.2.1
  show Ws G Sn_pass 0 [(0, .ref 10), (1, .ref (mR u 2 10)), (2, .int 1)] [] (snB u 10 7) _
  refine kV (c_ah hK' hp (AH.z m7)) (fun v' h _ => ?_)
  have hR' : mR v' 2 10 = mR u 2 10 := by rw [h.1.2.1]
  rw [hR']
  refine sg_Sn_wanted_0 (by decide) ko ⟨_, rfl, ?_⟩
  have fN : ∀ n k, n ≠ 10 → n ≠ 11 → mI v' n k = mI u n k := h.2.1
  refine ⟨_, rfl, (h.1.pI wr_D (by decide)).cl hC, .inl ⟨⟨a'.1, a'.2.1⟩, ?_, ?_⟩⟩
  · have e1 : mI v' (mR u 2 10) 1 = mI u (mR u 2 10) 1 := fN _ _ pn.1.1 pn.1.2
    have R := pl_R k10 ko x1.toNatClampNeg
    have eg : goC (mI u (R0 (mR u 2 10 + 1) x1.toNatClampNeg) 0) (mI u (R0 (mR u 2 10 + 1) x1.toNatClampNeg) 4) (mI u (R0 (mR u 2 10 + 1) x1.toNatClampNeg) 2) (mI u 7 0) = goP (shF u (mR u 2 10) x1.toNatClampNeg) (mI u 7 0) := go_P (hK'.2.2.1 _ sN)
    have ed : snD v' 7 x1 = mI u 8 x1.toNatClampNeg := by
      unfold snD
      rw [if_pos ⟨a'.1, a'.2.2⟩]
      exact fN 8 _ (by decide) (by decide)
    rw [shO_in a'.1 (by rw [e1]; exact a'.2.1) a'.2.2, fN _ 0 pn.1.1 pn.1.2, fN _ 0 R.1 R.2, fN _ 4 R.1 R.2, fN _ 2 R.1 R.2, fN 7 0 (by decide) (by decide), eg, ed, wr_dAt hK'.1.1 hK'.1.2]
  · rw [mI_eq]
    unfold snD
    rw [if_pos ⟨a'.1, a'.2.2⟩]
    exact h.2.2.2.2 _ sN
theorem e_wantsy {x1 : Int32} {ord : Nat → Nat} (hM : InvM u) (ho : OrdP (shM u) (mI u 76 11).toNatClampNeg ord) : Ws G m_wants 0 [(0, .ref 76), (1, .int x1)] [] u (RI fun a u' => Mo mB u u' ∧ ((wanK (mI u 76 11) x1 ∧ a = dAt (mI u 76 10) (mI u 84 x1.toNatClampNeg + goP (shM u x1.toNatClampNeg) (mI u 76 18)).toInt64 ∧ mI u' 76 2 = dwM u ord 1 x1.toNatClampNeg) ∨ (¬ wanK (mI u 76 11) x1 ∧ a = -1 ∧ mI u' 76 2 = mI u 76 2))) := by
  have m7 := hM.m7
  refine sg_m_wants_0 ⟨fun a => ?_, fun a => ⟨_, rfl, Mo.rf hM, .inr ⟨fun z => a ⟨z.1, by have := z.2; grind⟩, rfl, rfl⟩⟩⟩
  have xm : x1 < mI u 76 11 := by have := a.2; grind
  have x7 : x1 < 7 := Int32.lt_of_lt_of_le xm m7.2
  refine kV (e_am0 (ord := ord) hM) (fun v0 h0 => ?_)
  rw [show mI v0 76 18 = mI v0 76 18 + 0 by grind]
  refine kV (e_am hM ho h0 rfl) (fun v h => ?_)
  have hV := h.1.inv hM
  have hm := h.1.m
  have n1 := hV.n10 (s := x1) a.1 (by rw [hm]; exact xm)
  have v7 : vp_in x1 7 := vin a.1 (show (_ : Int32) < 7 from x7) (by decide)
  have i5 := ix5 a.1 x7
  refine ⟨v7, v7, vin (by grind) (show (_ : Int32) < 70 by grind) (by decide), vin (by grind) (show (_ : Int32) < 70 by grind) (by decide), vin (by grind) (show (_ : Int32) < 70 by grind) (by decide), hV.2.2.1 x1 a.1 (by rw [hm]; exact xm), i64_ne (by grind), _, rfl, (h.1.pF (by decide)).mo hM, .inl ⟨⟨a.1, xm⟩, ?_, ?_⟩⟩
  · rw [i5.1, i5.2.2.1, i5.2.2.2.2.1, h.1.n, h.2.1 84 _ (by decide) (by decide), h.2.1 83 (5 * x1.toNatClampNeg) (by decide) (by decide), h.2.1 83 (5 * x1.toNatClampNeg + 2) (by decide) (by decide), h.2.1 83 (5 * x1.toNatClampNeg + 4) (by decide) (by decide), h.2.1 76 18 (by decide) (by decide)]
    rfl
  · rw [mI_eq]; exact h.2.2 _ (tn_lt a.1 xm)
/-! beside -/
def besK (m x1 x2 : Int32) : Prop := (0 ≤ x1 ∧ x1 < m) ∧ (0 ≤ x2 ∧ x2 < m) ∧ ¬ x1 = x2
theorem c_areTwox {x1 x2 : Int32} (hm : mI u (mR u 2 10) 1 ≤ 7) : Ws G D_areTwo 0 [(0, .ref 2), (1, .int x1), (2, .int x2)] [] u (RI fun a u' => u = u' ∧ (¬ a = 0 ↔ besK (mI u (mR u 2 10) 1) x1 x2)) := by
  refine sg_D_areTwo_0 (fun _ => ⟨fun a _ => ⟨fun b => ⟨fun c => ⟨_, rfl, rfl, ?_⟩, fun c => ⟨_, rfl, rfl, ?_⟩⟩, fun b => ⟨_, rfl, rfl, ?_⟩⟩, fun a => ⟨_, rfl, rfl, ?_⟩⟩)
  · exact ⟨fun z => absurd rfl z, fun z => absurd c z.2.2⟩
  · exact ⟨fun _ => ⟨⟨a.1, a.2.1⟩, ⟨b.1, b.2.1⟩, c⟩, fun _ => by decide⟩
  · exact ⟨fun z => absurd rfl z, fun z => (b ⟨z.2.1.1, z.2.1.2, Int32.lt_of_lt_of_le z.2.1.2 hm⟩).elim⟩
  · exact ⟨fun z => absurd rfl z, fun z => (a ⟨z.1.1, z.1.2, Int32.lt_of_lt_of_le z.1.2 hm⟩).elim⟩
def besP (n m x1 x2 : Int32) (dw : Nat → Nat → Int32) (a : Int32) : Prop := (besK m x1 x2 ∧ FS (fun w => wkV n (dw w x1.toNatClampNeg) (dw w x2.toNatClampNeg) = 1) 0 a) ∨ (¬ besK m x1 x2 ∧ a = -1)
theorem d_besidey {x1 x2 : Int32} (hC : InvC u) (hm : 0 ≤ mI u (mR u 2 10) 1 ∧ mI u (mR u 2 10) 1 ≤ 7) (hK : 0 < mI u (mR u 2 10) 1 → PlK u (mR u 2 10)) : Ws G D_beside 0 [(0, .ref 2), (1, .int x1), (2, .int x2)] [] u (RI fun a u' => Cl qB u u' ∧ besP (mI u (mR u 2 10) 0) (mI u (mR u 2 10) 1) x1 x2 (dwC u) a) := by
  have m7 : (mI u (mR u 2 10) 1).toNatClampNeg ≤ 7 := by have := tn_le hm.2; have e : (7 : Int32).toNatClampNeg = 7 := (by decide); omega
  refine sg_D_beside_0 (kI (c_areTwox hm.2) (fun t v0 h0 => ?_))
  obtain ⟨rfl, ht⟩ := h0
  refine ⟨fun d => ?_, fun d => ⟨_, rfl, Cl.rf hC, .inr ⟨fun z => ht.mpr z d, rfl⟩⟩⟩
  have k := ht.mp d
  have hK' := hK (Int32.lt_of_le_of_lt k.1.1 k.1.2)
  have key : ∀ x v, 0 ≤ x → x ≤ 601 → AH u v x.toNatClampNeg → (∀ j, j < x.toNatClampNeg → ¬ wkV (mI u (mR u 2 10) 0) (dwC u j x1.toNatClampNeg) (dwC u j x2.toNatClampNeg) = 1) → Ws G D_beside 24 [(0, .ref 2), (1, .int x1), (2, .int x2), (3, .int x)] [] v (RI fun a u' => Cl qB u u' ∧ besP (mI u (mR u 2 10) 0) (mI u (mR u 2 10) 1) x1 x2 (dwC u) a) := by
    refine upI 601 _ (fun x ih v h0 hx hA hno => ?_)
    have ed : ∀ y : Int32, 0 ≤ y → y < mI u (mR u 2 10) 1 → snD v 10 y = dwC u x.toNatClampNeg y.toNatClampNeg := fun y y0 y1 => by
      unfold snD
      rw [if_pos ⟨y0, Int32.lt_of_lt_of_le y1 hm.2⟩]
      exact hA.2.2.2.2 _ (tn_lt y0 y1)
    have hR : mR v 2 10 = mR u 2 10 := by rw [hA.1.2.1]
    refine sg_D_beside_24 ⟨fun c => ⟨_, rfl, hA.1.cl hC, .inl ⟨k, .inr ⟨fun j _ hj => hno j ?_, rfl⟩⟩⟩, fun c hp => ?_⟩
    · have l := tn_lt (show (0 : Int32) ≤ 600 by decide) c
      have e : (600 : Int32).toNatClampNeg = 600 := by decide
      omega
    rw [hR] at hp
    have pn := pl_st (show okS 10 5 by decide) (pl_ok hp)
    obtain ⟨s1, s2, s3⟩ := sT5 h0 c
    rw [ed x1 k.1.1 k.1.2, ed x2 k.2.1.1 k.2.1.2, hR, hA.2.1 _ 0 pn.1.1 pn.1.2]
    refine ⟨fun d _ => kV (c_ah hK' hp hA) (fun v' h => ih s1 v' s2 s3 ?_ (fun j hj => ?_)), fun d => ⟨_, rfl, hA.1.cl hC, .inl ⟨k, .inl ⟨x.toNatClampNeg, by omega, ?_, d, fun j _ hj => hno j hj, (i32_nat h0).symm⟩⟩⟩⟩
    · rw [tn_succ h0 s1]; exact h
    · rw [tn_succ h0 s1] at hj
      by_cases e : j = x.toNatClampNeg
      · rw [e]; exact d
      · exact hno j (by omega)
    · have l := tn_le (Int32.not_lt.mp c)
      have e : (600 : Int32).toNatClampNeg = 600 := by decide
      omega
  have z0 : (0 : Int32).toNatClampNeg = 0 := by decide
  exact key 0 _ (by decide) (by decide) (by rw [z0]; exact AH.z m7) (fun j hj => by omega)
theorem e_areBesidex {x1 x2 : Int32} (hn : 10 ≤ mI u 76 10 ∧ mI u 76 10 ≤ 30) (h1 : 0 ≤ x1 ∧ x1 < mI u 76 10) (h2 : 0 ≤ x2 ∧ x2 < mI u 76 10) : Ws G m_areBeside 0 [(0, .ref 76), (1, .int x1), (2, .int x2)] [] u (RI fun a u' => u = u' ∧ (¬ a = 0 ↔ wkV (mI u 76 10) x1 x2 = 1)) := by
  have bi := bes_iff hn h1 h2
  have nz : ¬ (mI u 76 10).toInt64 = 0 := i64_ne (Int32.lt_of_lt_of_le (by decide) hn.1)
  exact sg_m_areBeside_0 ⟨nz, fun c => ⟨_, rfl, rfl, fun _ => bi.mpr (.inl c), fun _ => by decide⟩, fun c => ⟨nz, fun d => ⟨_, rfl, rfl, fun z => absurd rfl z, fun z => ((bi.mp z).elim c d).elim⟩, fun d => ⟨_, rfl, rfl, fun _ => bi.mpr (.inr d), fun _ => by decide⟩⟩⟩
theorem e_besidey {x1 x2 : Int32} {ord : Nat → Nat} (hM : InvM u) (ho : OrdP (shM u) (mI u 76 11).toNatClampNeg ord) (hd : ∀ s, s < (mI u 76 11).toNatClampNeg → 0 ≤ mI u 84 s ∧ mI u 84 s < mI u 76 10) : Ws G m_beside 0 [(0, .ref 76), (1, .int x1), (2, .int x2)] [] u (RI fun a u' => Mo mB u u' ∧ besP (mI u 76 10) (mI u 76 11) x1 x2 (dwM u ord) a) := by
  have m7 := hM.m7
  have no : ¬ besK (mI u 76 11) x1 x2 → (RI fun a u' => Mo mB u u' ∧ besP (mI u 76 10) (mI u 76 11) x1 x2 (dwM u ord) a) (some (.int (-1))) u := fun n => ⟨_, rfl, Mo.rf hM, .inr ⟨n, rfl⟩⟩
  refine sg_m_beside_0 ⟨fun a => ⟨fun b => ⟨fun c => ?_, fun c => no (fun z => z.2.2 c)⟩, fun b => no (fun z => b ⟨z.2.1.1, by have := z.2.1.2; grind⟩)⟩, fun a => no (fun z => a ⟨z.1.1, by have := z.1.2; grind⟩)⟩
  have k : besK (mI u 76 11) x1 x2 := ⟨⟨a.1, by have := a.2; grind⟩, ⟨b.1, by have := b.2; grind⟩, c⟩
  have v1 : vp_in x1 7 := vin a.1 (show (_ : Int32) < 7 from Int32.lt_of_lt_of_le k.1.2 m7.2) (by decide)
  have v2 : vp_in x2 7 := vin b.1 (show (_ : Int32) < 7 from Int32.lt_of_lt_of_le k.2.1.2 m7.2) (by decide)
  have hn := hM.n10 k.1.1 k.1.2
  have N1 := tn_lt k.1.1 k.1.2
  have N2 := tn_lt k.2.1.1 k.2.1.2
  have key : ∀ x v, 0 ≤ x → x ≤ 601 → AM u v ord x.toNatClampNeg → (∀ j, j < x.toNatClampNeg → ¬ wkV (mI u 76 10) (dwM u ord j x1.toNatClampNeg) (dwM u ord j x2.toNatClampNeg) = 1) → Ws G m_beside 29 [(0, .ref 76), (1, .int x1), (2, .int x2), (3, .int x)] [] v (RI fun a u' => Mo mB u u' ∧ besP (mI u 76 10) (mI u 76 11) x1 x2 (dwM u ord) a) := by
    refine upI 601 _ (fun x ih v h0 hx hA hno => ?_)
    refine sg_m_beside_29 ⟨fun c => ⟨_, rfl, hA.1.mo hM, .inl ⟨k, .inr ⟨fun j _ hj => hno j ?_, rfl⟩⟩⟩, fun c => ⟨v1, v2, ?_⟩⟩
    · have l := tn_lt (show (0 : Int32) ≤ 600 by decide) c
      have e : (600 : Int32).toNatClampNeg = 600 := by decide
      omega
    obtain ⟨s1, s2, s3⟩ := sT5 h0 c
    rw [hA.2.2 _ N1, hA.2.2 _ N2]
    have r1 := pws_rx (w := mI u 76 18) (shut := mI u 76 19) (sh := shM u) (ord := ord) hn.1 hn.2 hd x.toNatClampNeg _ N1
    have r2 := pws_rx (w := mI u 76 18) (shut := mI u 76 19) (sh := shM u) (ord := ord) hn.1 hn.2 hd x.toNatClampNeg _ N2
    refine kI (e_areBesidex (by rw [hA.1.n]; exact hn) (by rw [hA.1.n]; exact r1) (by rw [hA.1.n]; exact r2)) (fun t v0 q => ?_)
    obtain ⟨rfl, ht⟩ := q
    rw [hA.1.n] at ht
    refine ⟨fun d => kV (e_am hM ho hA (i32_nat h0).symm) (fun v' h => ih s1 v' s2 s3 ?_ (fun j hj => ?_)), fun d => ⟨_, rfl, hA.1.mo hM, .inl ⟨k, .inl ⟨x.toNatClampNeg, by omega, ?_, ht.mp d, fun j _ hj => hno j hj, (i32_nat h0).symm⟩⟩⟩⟩
    · rw [tn_succ h0 s1]; exact h
    · rw [tn_succ h0 s1] at hj
      by_cases e : j = x.toNatClampNeg
      · rw [e]; exact fun z => ht.mpr z d
      · exact hno j (by omega)
    · have l := tn_le (Int32.not_lt.mp c)
      have e : (600 : Int32).toNatClampNeg = 600 := by decide
      omega
  have z0 : (0 : Int32).toNatClampNeg = 0 := by decide
  exact kV (e_am0 hM) (fun v h => key 0 v (by decide) (by decide) (by rw [z0]; exact h) (fun j hj => by omega))
/-! round -/
def rouK (n m x1 x2 : Int32) : Prop := (0 ≤ x1 ∧ x1 < n) ∧ 0 ≤ x2 ∧ x2 >>> (m &&& 31) = 0
def rouM (n m x1 x2 : Int32) : Prop := (0 ≤ x1 ∧ x1 ≤ n - 1) ∧ 0 ≤ x2 ∧ x2 ≤ (1 <<< (m &&& 31)) - 1
theorem rou_eq {n m x1 x2 : Int32} (hm : 0 ≤ m ∧ m ≤ 7) (hn : 0 ≤ n ∧ n ≤ 30) : rouK n m x1 x2 ↔ rouM n m x1 x2 := by
  have e := er_eq (x1 := x1) (x2 := x2) (x3 := 0) (x4 := 0) hm hn
  exact ⟨fun h => ⟨(e.mp ⟨h.1, h.2, by decide, by decide⟩).1, (e.mp ⟨h.1, h.2, by decide, by decide⟩).2.1⟩, fun h => ⟨(e.mpr ⟨h.1, h.2, by decide, by decide⟩).1, (e.mpr ⟨h.1, h.2, by decide, by decide⟩).2.1⟩⟩
def rouP (n m x1 x2 : Int32) (dr : Nat → Int32) (a : Int32) : Prop := (rouK n m x1 x2 ∧ a = rOf n (farP n dr x1) m.toNatClampNeg x2) ∨ (¬ rouK n m x1 x2 ∧ a = -1)
theorem d_roundy {x1 x2 : Int32} (hC : InvC u) (hm : 0 ≤ mI u (mR u 2 10) 1 ∧ mI u (mR u 2 10) 1 ≤ 7) (hK : 0 < mI u (mR u 2 10) 0 → PlK u (mR u 2 10)) (hd : drK u (mI u (mR u 2 10) 1).toNatClampNeg) : Ws G D_round 0 [(0, .ref 2), (1, .int x1), (2, .int x2)] [] u (RI fun a u' => Cl qB u u' ∧ rouP (mI u (mR u 2 10) 0) (mI u (mR u 2 10) 1) x1 x2 (mI u 8) a) := by
  refine sg_D_round_0 (fun hp => ⟨fun a _ => ⟨fun b _ => ?_, fun b => ⟨_, rfl, Cl.rf hC, .inr ⟨fun z => b z.2, rfl⟩⟩⟩, fun a => ⟨_, rfl, Cl.rf hC, .inr ⟨fun z => a z.1, rfl⟩⟩⟩)
  have hK' := hK (Int32.lt_of_le_of_lt a.1 a.2)
  refine kI (c_roundOfx (by decide) (pl_ok hp) hK'.1 hm ⟨a.1, Int32.lt_of_lt_of_le a.2 (Int32.le_trans hK'.1.2 (by decide))⟩ (fun s hs => ⟨(hd s hs).1, Int32.lt_trans (hd s hs).2 (by decide)⟩)) (fun r v h => ?_)
  obtain ⟨rfl, hr⟩ := h
  exact ⟨_, rfl, Cl.rf hC, .inl ⟨⟨a, b⟩, rOf_eq hr⟩⟩
theorem e_roundy {x1 x2 : Int32} (hM : InvM u) : Ws G m_round 0 [(0, .ref 76), (1, .int x1), (2, .int x2)] [] u (RI fun a u' => Mo mB u u' ∧ rouP (mI u 76 10) (mI u 76 11) x1 x2 (mI u 84) a) := by
  have m7 := hM.m7
  have n30 := hM.n30
  have re := rou_eq (x1 := x1) (x2 := x2) m7 n30
  have no : ¬ rouM (mI u 76 10) (mI u 76 11) x1 x2 → (RI fun a u' => Mo mB u u' ∧ rouP (mI u 76 10) (mI u 76 11) x1 x2 (mI u 84) a) (some (.int (-1))) u := fun n => ⟨_, rfl, Mo.rf hM, .inr ⟨fun z => n (re.mp z), rfl⟩⟩
  refine sg_m_round_0 ⟨fun a => ⟨fun b => ?_, fun b => no (fun z => b z.2)⟩, fun a => no (fun z => a z.1)⟩
  have hn : 10 ≤ mI u 76 10 ∧ mI u 76 10 ≤ 30 := hM.nd (fun z => by rw [z] at a; exact absurd (Int32.le_trans a.1 a.2) (by decide))
  refine kV (e_fromNowx hM) (fun v h => ?_)
  refine kI (e_roundOfx (h.1.inv hM) (by rw [h.1.n]; exact hn) b.1 (set128 m7 b.2)) (fun r v' q => ?_)
  obtain ⟨rfl, hr⟩ := q
  rw [h.1.n, h.1.m] at hr
  exact ⟨_, rfl, h.1.mo hM, .inl ⟨re.mpr ⟨a, b⟩, (rOf_eq hr).trans (rOf_cg (farP_cg (fun s hs => h.2.2 s hs)))⟩⟩
/-! best -/
def besC (n m x1 x2 x3 : Int32) : Prop := rouK n m x1 x2 ∧ 0 ≤ x3 ∧ x3 ≤ 60
noncomputable def besV (n m x1 x2 : Int32) (dw : Nat → Nat → Int32) (w : Nat) : Int32 := rOf n (farP n (dw w) x1) m.toNatClampNeg x2
def besQ (n m x1 x2 x3 : Int32) (dw : Nat → Nat → Int32) (a k k' : Int32) : Prop := (besC n m x1 x2 x3 ∧ (a, k') = gsF kpL Int32.ofNat (besV n m x1 x2 dw) x3.toNatClampNeg) ∨ (¬ besC n m x1 x2 x3 ∧ a = -1 ∧ k' = k)
theorem st61 {x3 : Int32} (h : 0 ≤ x3 ∧ x3 ≤ 60) : 0 ≤ x3 + 1 ∧ (x3 + 1).toNatClampNeg = x3.toNatClampNeg + 1 := ⟨by have := h.1; have := h.2; grind, tn_succ (b := 61) h.1 (by have := h.2; grind)⟩
theorem st62 {x x3 : Int32} (h : 0 ≤ x3 ∧ x3 ≤ 60) (h0 : 0 ≤ x) (c : ¬ x3 < x) : ¬ x3 + 1 ≤ x ∧ 0 ≤ x + 1 ∧ x + 1 ≤ x3 + 1 := ⟨by have := h.1; have := h.2; grind, by have := h.1; have := h.2; grind, by have := h.1; have := h.2; grind⟩
theorem st63 {x x3 : Int32} (h : 0 ≤ x3 ∧ x3 ≤ 60) (h0 : 0 ≤ x) (hx : x ≤ x3 + 1) (c : x3 < x) : x.toNatClampNeg = x3.toNatClampNeg + 1 := by
  have : x = x3 + 1 := by have := h.1; have := h.2; grind
  rw [this]; exact (st61 h).2
theorem d_besty {x1 x2 x3 : Int32} (hC : InvC u) (hm : 0 ≤ mI u (mR u 2 10) 1 ∧ mI u (mR u 2 10) 1 ≤ 7) (hK : 0 < mI u (mR u 2 10) 0 → PlK u (mR u 2 10)) (hd : drK u (mI u (mR u 2 10) 1).toNatClampNeg) : Ws G D_best 0 [(0, .ref 2), (1, .int x1), (2, .int x2), (3, .int x3)] [] u (RI fun a u' => Cl qB u u' ∧ besQ (mI u (mR u 2 10) 0) (mI u (mR u 2 10) 1) x1 x2 x3 (dwC u) a (mI u 2 12) (mI u' 2 12)) := by
  have m7 : (mI u (mR u 2 10) 1).toNatClampNeg ≤ 7 := by have := tn_le hm.2; have e : (7 : Int32).toNatClampNeg = 7 := (by decide); omega
  have no : ¬ besC (mI u (mR u 2 10) 0) (mI u (mR u 2 10) 1) x1 x2 x3 → (RI fun a u' => Cl qB u u' ∧ besQ (mI u (mR u 2 10) 0) (mI u (mR u 2 10) 1) x1 x2 x3 (dwC u) a (mI u 2 12) (mI u' 2 12)) (some (.int (-1))) u := fun n => ⟨_, rfl, Cl.rf hC, .inr ⟨n, rfl, rfl⟩⟩
  refine sg_D_best_0 (fun hp => ⟨fun a _ => ⟨fun b => ⟨fun c => no (fun z => absurd c (Int32.not_lt.mpr z.2.1)), fun c => ⟨fun d _ => ?_, fun d => no (fun z => d z.2.2)⟩⟩, fun b => no (fun z => b z.1.2)⟩, fun a => no (fun z => a z.1.1)⟩)
  have w60 : 0 ≤ x3 ∧ x3 ≤ 60 := ⟨Int32.not_lt.mp c, d⟩
  have k : besC (mI u (mR u 2 10) 0) (mI u (mR u 2 10) 1) x1 x2 x3 := ⟨⟨a, b⟩, w60⟩
  have hK' := hK (Int32.lt_of_le_of_lt a.1 a.2)
  have ko := pl_ok hp
  have k10 : okS 10 5 := by decide
  have pn := pl_st k10 ko
  have key : ∀ x v (x4 x5 : Int32), 0 ≤ x → x ≤ x3 + 1 → AH u v x.toNatClampNeg → (x.toNatClampNeg = 0 → mI u (mR u 2 10) 0 < x5) → (¬ x.toNatClampNeg = 0 → gsI kpL Int32.ofNat (besV (mI u (mR u 2 10) 0) (mI u (mR u 2 10) 1) x1 x2 (dwC u)) x4 x5 x.toNatClampNeg) → Ws G D_best 62 [(0, .ref 2), (1, .int x1), (2, .int x2), (3, .int x3), (4, .int x4), (5, .int x5), (6, .int x)] [] v (RI fun a u' => Cl qB u u' ∧ besQ (mI u (mR u 2 10) 0) (mI u (mR u 2 10) 1) x1 x2 x3 (dwC u) a (mI u 2 12) (mI u' 2 12)) := by
    refine upI (x3 + 1) _ (fun x ih v x4 x5 h0 hx hA hz hg => ?_)
    have hR : mR v 2 10 = mR u 2 10 := by rw [hA.1.2.1]
    have fN : ∀ n k, n ≠ 10 → n ≠ 11 → mI v n k = mI u n k := hA.2.1
    refine sg_D_best_62 ⟨fun c => ⟨_, rfl, (hA.1.pI wr_D (by decide)).cl hC, .inl ⟨k, ?_⟩⟩, fun c _ => ?_⟩
    · have e := st63 w60 h0 hx c
      have g := hg (by omega)
      rw [e] at g
      rw [mI_eq]
      exact g
    obtain ⟨s1, s2, s3⟩ := st62 w60 h0 c
    have sx := tn_succ h0 s1
    rw [hR]
    have e0 : mI v (mR u 2 10) 0 = mI u (mR u 2 10) 0 := fN _ _ pn.1.1 pn.1.2
    have e1 : mI v (mR u 2 10) 1 = mI u (mR u 2 10) 1 := fN _ _ pn.1.1 pn.1.2
    have rr := pws_rg (w := mI u 7 0) (shut := mI u 7 1) (sh := shF u (mR u 2 10)) (ord := ordF u (mR u 2 10)) hK'.1.1 hK'.1.2 hd x.toNatClampNeg
    refine kI (c_roundOfx k10 ko (by rw [e0]; exact hK'.1) (by rw [e1]; exact hm) ⟨a.1, Int32.lt_of_lt_of_le a.2 (Int32.le_trans hK'.1.2 (by decide))⟩ (fun s hs => ?_)) (fun r v0 q => ?_)
    · rw [e1] at hs
      have e : mI v (10 + 1) s = dwC u x.toNatClampNeg s := hA.2.2.2.2 s hs
      rw [e]
      exact ⟨(rr s hs).1, Int32.lt_trans (rr s hs).2 (by decide)⟩
    obtain ⟨rfl, hr⟩ := q
    rw [e0, e1] at hr
    have er : r = besV (mI u (mR u 2 10) 0) (mI u (mR u 2 10) 1) x1 x2 (dwC u) x.toNatClampNeg := (rOf_eq hr).trans (rOf_cg (farP_cg (fun s hs => hA.2.2.2.2 s hs)))
    have G0 : gsI kpL Int32.ofNat (besV (mI u (mR u 2 10) 0) (mI u (mR u 2 10) 1) x1 x2 (dwC u)) x4 x5 x.toNatClampNeg := by
      by_cases z : x.toNatClampNeg = 0
      · have l := hz z
        rw [z] at er ⊢
        refine kpL_f (fun q => ?_)
        rw [← er] at q
        exact absurd (Int32.lt_of_lt_of_le (Int32.lt_of_lt_of_le l q) hr.1.2) Int32.lt_irrefl
      · exact hg z
    rw [hR]
    refine ⟨fun d _ => kV (c_ah hK' hp hA) (fun v' h => ih s1 v' x4 x5 s2 s3 (by rw [sx]; exact h) (fun z => by omega) (fun _ => ?_)), fun d _ => kV (c_ah hK' hp hA) (fun v' h => ih s1 v' x r s2 s3 (by rw [sx]; exact h) (fun z => by omega) (fun _ => ?_))⟩
    · rw [sx]
      rw [er] at d
      exact gs_k G0 (kpL_t d)
    · rw [sx]
      rw [er] at d
      have g := gs_r G0 (kpL_f d)
      rw [i32_nat h0, ← er] at g
      exact g
  have z0 : (0 : Int32).toNatClampNeg = 0 := by decide
  exact key 0 _ _ _ (by decide) (st61 w60).1 (by rw [z0]; exact AH.z m7) (fun _ => by have := hK'.1.2; grind) (fun z => absurd z0 z)
theorem e_besty {x1 x2 x3 : Int32} {ord : Nat → Nat} (hM : InvM u) (ho : OrdP (shM u) (mI u 76 11).toNatClampNeg ord) : Ws G m_best 0 [(0, .ref 76), (1, .int x1), (2, .int x2), (3, .int x3)] [] u (RI fun a u' => Mo mB u u' ∧ besQ (mI u 76 10) (mI u 76 11) x1 x2 x3 (dwM u ord) a (mI u 76 2) (mI u' 76 2)) := by
  have m7 := hM.m7
  have n30 := hM.n30
  have re := rou_eq (x1 := x1) (x2 := x2) m7 n30
  have no : ¬ (rouM (mI u 76 10) (mI u 76 11) x1 x2 ∧ 0 ≤ x3 ∧ x3 ≤ 60) → (RI fun a u' => Mo mB u u' ∧ besQ (mI u 76 10) (mI u 76 11) x1 x2 x3 (dwM u ord) a (mI u 76 2) (mI u' 76 2)) (some (.int (-1))) u := fun n => ⟨_, rfl, Mo.rf hM, .inr ⟨fun z => n ⟨re.mp z.1, z.2⟩, rfl, rfl⟩⟩
  refine sg_m_best_0 ⟨fun a => ⟨fun b => ⟨fun w60 => ?_, fun c => no (fun z => c z.2)⟩, fun b => no (fun z => b z.1.2)⟩, fun a => no (fun z => a z.1.1)⟩
  have k : besC (mI u 76 10) (mI u 76 11) x1 x2 x3 := ⟨re.mpr ⟨a, b⟩, w60⟩
  have hn : 10 ≤ mI u 76 10 ∧ mI u 76 10 ≤ 30 := hM.nd (fun z => by rw [z] at a; exact absurd (Int32.le_trans a.1 a.2) (by decide))
  have key : ∀ x v (x4 x5 : Int32), 0 ≤ x → x ≤ x3 + 1 → AM u v ord x.toNatClampNeg → (x.toNatClampNeg = 0 → mI u 76 10 < x5) → (¬ x.toNatClampNeg = 0 → gsI kpL Int32.ofNat (besV (mI u 76 10) (mI u 76 11) x1 x2 (dwM u ord)) x4 x5 x.toNatClampNeg) → Ws G m_best 42 [(0, .ref 76), (1, .int x1), (2, .int x2), (3, .int x3), (4, .int x4), (5, .int x5), (6, .int x)] [] v (RI fun a u' => Mo mB u u' ∧ besQ (mI u 76 10) (mI u 76 11) x1 x2 x3 (dwM u ord) a (mI u 76 2) (mI u' 76 2)) := by
    refine upI (x3 + 1) _ (fun x ih v x4 x5 h0 hx hA hz hg => ?_)
    refine sg_m_best_42 ⟨fun c => ⟨_, rfl, (hA.1.pF (by decide)).mo hM, .inl ⟨k, ?_⟩⟩, fun c => ?_⟩
    · have e := st63 w60 h0 hx c
      have g := hg (by omega)
      rw [e] at g
      rw [mI_eq]
      exact g
    obtain ⟨s1, s2, s3⟩ := st62 w60 h0 c
    have sx := tn_succ h0 s1
    refine kI (e_roundOfx (hA.1.inv hM) (by rw [hA.1.n]; exact hn) b.1 (set128 m7 b.2)) (fun r v0 q => ?_)
    obtain ⟨rfl, hr⟩ := q
    rw [hA.1.n, hA.1.m] at hr
    have er : r = besV (mI u 76 10) (mI u 76 11) x1 x2 (dwM u ord) x.toNatClampNeg := (rOf_eq hr).trans (rOf_cg (farP_cg (fun s hs => hA.2.2 s hs)))
    have G0 : gsI kpL Int32.ofNat (besV (mI u 76 10) (mI u 76 11) x1 x2 (dwM u ord)) x4 x5 x.toNatClampNeg := by
      by_cases z : x.toNatClampNeg = 0
      · have l := hz z
        rw [z] at er ⊢
        refine kpL_f (fun q => ?_)
        rw [← er] at q
        exact absurd (Int32.lt_of_lt_of_le (Int32.lt_of_lt_of_le l q) hr.1.2) Int32.lt_irrefl
      · exact hg z
    have keep : x5 ≤ r → gsI kpL Int32.ofNat (besV (mI u 76 10) (mI u 76 11) x1 x2 (dwM u ord)) x4 x5 (x + 1).toNatClampNeg := fun d => by
      rw [sx]
      rw [er] at d
      exact gs_k G0 (kpL_t d)
    have repl : ¬ x5 ≤ r → gsI kpL Int32.ofNat (besV (mI u 76 10) (mI u 76 11) x1 x2 (dwM u ord)) x r (x + 1).toNatClampNeg := fun d => by
      rw [sx]
      rw [er] at d
      have g := gs_r G0 (kpL_f d)
      rw [i32_nat h0, ← er] at g
      exact g
    refine ⟨fun d => ⟨fun _ => kV (e_am hM ho hA (i32_nat h0).symm) (fun v' h => ih s1 v' x4 x5 s2 s3 (by rw [sx]; exact h) (fun z => by omega) (fun _ => keep d)), fun d' => absurd d d'⟩, fun d => ⟨fun d' => absurd d' d, fun _ => kV (e_am hM ho hA (i32_nat h0).symm) (fun v' h => ih s1 v' x r s2 s3 (by rw [sx]; exact h) (fun z => by omega) (fun _ => repl d))⟩⟩
  have z0 : (0 : Int32).toNatClampNeg = 0 := by decide
  exact kV (e_am0 hM) (fun v h => key 0 v _ _ (by decide) (st61 w60).1 (by rw [z0]; exact h) (fun _ => Int32.lt_of_le_of_lt hn.2 (by decide)) (fun z => absurd z0 z))
end ANB
