/-! ===== rent, dearest ===== -/
/-- went stands w weeks on from now, with these doors closed; what E names may have been written -/
def AMg (u v : pM) (ord : Nat → Nat) (cl : Int32) (E : Nat → Nat → Prop) (w : Nat) : Prop := Mq mB u v ∧ (∀ n k, n ≠ 85 → n ≠ 86 → ¬ E n k → mI v n k = mI u n k) ∧ ∀ s, s < (mI u 76 11).toNatClampNeg → mI v 85 s = pws (mI u 76 10) (mI u 76 18) cl (shM u) ord (mI u 76 11).toNatClampNeg (mI u 84) w s
/-- only ahead has been written -/
def FRc (u v : pM) : Prop := Cq qB u v ∧ ∀ n k, n ≠ 10 → n ≠ 11 → mI v n k = mI u n k
def pasV (sz n : Int32) (f : Nat → Int32) : Int32 := if 0 ≤ sz then (if sz = n then (if ∀ d, d < n.toNatClampNeg → 0 ≤ f d ∧ f d ≤ 99 then 0 else 3) else 5) else 1
theorem pasV_0 {sz n : Int32} {f : Nat → Int32} (h : pasV sz n f = 0) : sz = n ∧ ∀ d, d < n.toNatClampNeg → 0 ≤ f d ∧ f d ≤ 99 := by
  unfold pasV at h
  by_cases a : 0 ≤ sz
  · rw [if_pos a] at h
    by_cases b : sz = n
    · rw [if_pos b] at h
      by_cases c : ∀ d, d < n.toNatClampNeg → 0 ≤ f d ∧ f d ≤ 99
      · exact ⟨b, c⟩
      · rw [if_neg c] at h; exact absurd h (by decide)
    · rw [if_neg b] at h; exact absurd h (by decide)
  · rw [if_neg a] at h; exact absurd h (by decide)
theorem pasV_cg {sz sz' n : Int32} {f g : Nat → Int32} (hs : (sz < 0 ∧ sz' < 0) ∨ (0 ≤ sz ∧ sz = sz')) (hg : ∀ d, d < n.toNatClampNeg → f d = g d) : pasV sz n f = pasV sz' n g := by
  unfold pasV
  rcases hs with ⟨a, b⟩ | ⟨a, b⟩
  · rw [if_neg (Int32.not_le.mpr a), if_neg (Int32.not_le.mpr b)]
  · rw [← b, if_pos a, if_pos a]
    by_cases c : sz = n
    · rw [if_pos c, if_pos c]
      by_cases q : ∀ d, d < n.toNatClampNeg → 0 ≤ f d ∧ f d ≤ 99
      · rw [if_pos q, if_pos (fun d hd => by rw [← hg d hd]; exact q d hd)]
      · rw [if_neg q, if_neg (fun z => q (fun d hd => by rw [hg d hd]; exact z d hd))]
    · rw [if_neg c, if_neg c]
/-- what s pays in so many weeks -/
def rnS (f : Nat → Int32) (dw : Nat → Nat → Int32) (s : Nat) : Nat → Int32
  | 0 => 0
  | w + 1 => rnS f dw s w + f (dw w s).toNatClampNeg
theorem rnS_cg {f g : Nat → Int32} {dw dw' : Nat → Nat → Int32} {s N : Nat} (hd : ∀ w, dw w s = dw' w s) (hb : ∀ w, (dw w s).toNatClampNeg < N) (hf : ∀ d, d < N → f d = g d) : ∀ w, rnS f dw s w = rnS g dw' s w
  | 0 => rfl
  | w + 1 => by rw [rnS, rnS, rnS_cg hd hb hf w, hf _ (hb w), hd w]
theorem rnS_b {f : Nat → Int32} {dw : Nat → Nat → Int32} {s N : Nat} (hb : ∀ w, (dw w s).toNatClampNeg < N) (hf : ∀ d, d < N → 0 ≤ f d ∧ f d ≤ 99) : ∀ w, w ≤ 60 → 0 ≤ (rnS f dw s w).toInt ∧ (rnS f dw s w).toInt ≤ 99 * w
  | 0, _ => by
    have d0 : (0 : Int32).toInt = 0 := by decide
    show 0 ≤ (0 : Int32).toInt ∧ (0 : Int32).toInt ≤ 99 * (0 : Nat)
    omega
  | w + 1, hw => by
    have h := rnS_b hb hf w (by omega)
    have q := hf _ (hb w)
    have q1 := Int32.le_iff_toInt_le.mp q.1
    have q2 := Int32.le_iff_toInt_le.mp q.2
    have d0 : (0 : Int32).toInt = 0 := by decide
    have d9 : (99 : Int32).toInt = 99 := by decide
    rw [rnS, Int32.toInt_add, Int.bmod_eq_of_le (by omega) (by omega)]
    omega
section AND
variable {G : pG} {u v : pM} {Q : Option Value → pM → Prop}
theorem FRc.tr {w : pM} (h : FRc u v) (h2 : FRc v w) : FRc u w := ⟨h.1.tr h2.1, fun n k a b => (h2.2 n k a b).trans (h.2 n k a b)⟩
theorem FRc.ro (h : FRc u v) : mR v 2 10 = mR u 2 10 := by rw [h.1.2.1]
theorem FRc.dw (h : FRc u v) (ko : okS (mR u 2 10) 2) : dwC v = dwC u := by
  have k10 : okS 10 5 := by decide
  have pn := pl_st k10 ko
  funext w
  unfold dwC
  rw [h.ro, h.2 _ _ pn.1.1 pn.1.2, h.2 _ _ pn.1.1 pn.1.2, h.2 7 0 (by decide) (by decide), h.2 7 1 (by decide) (by decide), shF_cg k10 ko h.2, ordF_cg k10 ko h.2, show mI v 8 = mI u 8 from funext (fun k => h.2 8 k (by decide) (by decide))]
theorem AH.fr {w : Nat} (h : AH u v w) : FRc u v := ⟨h.1, h.2.1⟩
theorem c_passersx {r : Nat} (hr : r < 6) (hn : mI u (mR u 2 10) 0 ≤ 30) : Ws G D_passersFinding 0 [(0, .ref 2), (1, .ref (50 + 2 * r))] [] u (RI fun a u' => u = u' ∧ a = pasV (mI u (50 + 2 * r) 1) (mI u (mR u 2 10) 0) (mI u (51 + 2 * r))) := by
  refine sg_D_passersFinding_0 (rL hr).1 ⟨fun a _ => ⟨fun b => ?_, fun b => ⟨_, rfl, rfl, by unfold pasV; rw [if_pos a, if_neg b]⟩⟩, fun a => ⟨_, rfl, rfl, by unfold pasV; rw [if_neg a]⟩⟩
  have key : ∀ x, 0 ≤ x → x ≤ mI u (50 + 2 * r) 1 → (∀ d, d < x.toNatClampNeg → 0 ≤ mI u (51 + 2 * r) d ∧ mI u (51 + 2 * r) d ≤ 99) → Ws G D_passersFinding 27 [(1, .ref (50 + 2 * r)), (2, .int x)] [] u (RI fun a u' => u = u' ∧ a = pasV (mI u (50 + 2 * r) 1) (mI u (mR u 2 10) 0) (mI u (51 + 2 * r))) := by
    refine upI (mI u (50 + 2 * r) 1) _ (fun x ih h0 hx hd => ?_)
    refine sg_D_passersFinding_27 (rL hr).1 ⟨fun c => ⟨_, rfl, rfl, ?_⟩, fun c => ?_⟩
    · rw [Int32.le_antisymm hx c, b] at hd
      unfold pasV
      rw [if_pos a, if_pos b, if_pos hd]
    have xs := Int32.not_le.mp c
    have x40 : x < 40 := Int32.lt_of_lt_of_le xs (by rw [b]; exact Int32.le_trans hn (by decide))
    have bad : ¬ (0 ≤ mI u (51 + 2 * r) x.toNatClampNeg ∧ mI u (51 + 2 * r) x.toNatClampNeg ≤ 99) → 3 = pasV (mI u (50 + 2 * r) 1) (mI u (mR u 2 10) 0) (mI u (51 + 2 * r)) := fun q => by
      unfold pasV
      rw [if_pos a, if_pos b, if_neg (fun z => q (z _ (by rw [← b]; exact tn_lt h0 xs)))]
    rw [spG_at hr h0 xs x40]
    have su := stU h0 c
    refine ⟨fun d => ⟨_, rfl, rfl, bad (fun z => absurd z.1 (Int32.not_le.mpr d))⟩, fun d => ⟨fun e => ih c su.1 su.2 (fun j hj => ?_), fun e => ⟨_, rfl, rfl, bad (fun z => e z.2)⟩⟩⟩
    rw [tn_succ h0 c] at hj
    by_cases q : j = x.toNatClampNeg
    · rw [q]; exact ⟨Int32.not_lt.mp d, e⟩
    · exact hd j (by omega)
  have z0 : (0 : Int32).toNatClampNeg = 0 := by decide
  exact key 0 (by decide) a (fun d hd => by omega)
theorem e_askedRentsx {x1 : Int32} (hM : InvM u) (h1 : 0 ≤ x1 ∧ x1 ≤ 5) : Ws G m_askedRents 0 [(0, .ref 76), (1, .int x1)] [] u (RI fun a u' => (pasV (mI u 78 x1.toNatClampNeg) (mI u 76 10) (fun k => mI u 79 (40 * x1.toNatClampNeg + k)) = 0 ∧ a = 0 ∧ u' = u) ∨ (¬ pasV (mI u 78 x1.toNatClampNeg) (mI u 76 10) (fun k => mI u 79 (40 * x1.toNatClampNeg + k)) = 0 ∧ a = -3 ∧ u' = mt u (pasV (mI u 78 x1.toNatClampNeg) (mI u 76 10) (fun k => mI u 79 (40 * x1.toNatClampNeg + k))))) := by
  have n30 := hM.n30
  have v6 : vp_in x1 6 := vin h1.1 (show (_ : Int32) < 6 from Int32.lt_of_le_of_lt h1.2 (by decide)) (by decide)
  have bad : ∀ f : Int32, ¬ f = 0 → f = pasV (mI u 78 x1.toNatClampNeg) (mI u 76 10) (fun k => mI u 79 (40 * x1.toNatClampNeg + k)) → (RI fun a u' => (pasV (mI u 78 x1.toNatClampNeg) (mI u 76 10) (fun k => mI u 79 (40 * x1.toNatClampNeg + k)) = 0 ∧ a = 0 ∧ u' = u) ∨ (¬ pasV (mI u 78 x1.toNatClampNeg) (mI u 76 10) (fun k => mI u 79 (40 * x1.toNatClampNeg + k)) = 0 ∧ a = -3 ∧ u' = mt u (pasV (mI u 78 x1.toNatClampNeg) (mI u 76 10) (fun k => mI u 79 (40 * x1.toNatClampNeg + k))))) (some (.int (-3))) (mt u f) := fun f f0 e => ⟨_, rfl, .inr ⟨fun z => f0 (e.trans z), rfl, by rw [← e]⟩⟩
  refine sg_m_askedRents_0 ⟨v6, fun a => ⟨v6, fun b => ?_, fun b => bad 5 (by decide) (by unfold pasV; rw [if_pos a, if_neg b])⟩, fun a => bad 1 (by decide) (by unfold pasV; rw [if_neg a])⟩
  have key : ∀ x, 0 ≤ x → x ≤ mI u 76 10 → (∀ d, d < x.toNatClampNeg → 0 ≤ mI u 79 (40 * x1.toNatClampNeg + d) ∧ mI u 79 (40 * x1.toNatClampNeg + d) ≤ 99) → Ws G m_askedRents 36 [(0, .ref 76), (1, .int x1), (2, .int x)] [] u (RI fun a u' => (pasV (mI u 78 x1.toNatClampNeg) (mI u 76 10) (fun k => mI u 79 (40 * x1.toNatClampNeg + k)) = 0 ∧ a = 0 ∧ u' = u) ∨ (¬ pasV (mI u 78 x1.toNatClampNeg) (mI u 76 10) (fun k => mI u 79 (40 * x1.toNatClampNeg + k)) = 0 ∧ a = -3 ∧ u' = mt u (pasV (mI u 78 x1.toNatClampNeg) (mI u 76 10) (fun k => mI u 79 (40 * x1.toNatClampNeg + k))))) := by
    refine upI (mI u 76 10) _ (fun x ih h0 hx hd => ?_)
    refine sg_m_askedRents_36 ⟨fun c => ⟨_, rfl, .inl ⟨?_, rfl, rfl⟩⟩, fun c => ?_⟩
    · rw [Int32.le_antisymm hx c] at hd
      unfold pasV
      rw [if_pos a, if_pos b, if_pos hd]
    have xs := Int32.not_le.mp c
    have x40 : x < 40 := Int32.lt_of_lt_of_le xs (Int32.le_trans n30.2 (by decide))
    have su := stU h0 c
    rw [ix40 h1 ⟨h0, x40⟩]
    refine ⟨?_, fun d => ih c su.1 su.2 (fun j hj => ?_), fun d => bad 3 (by decide) (by unfold pasV; rw [if_pos a, if_pos b, if_neg (fun z => d (z _ (tn_lt h0 xs)))])⟩
    · obtain ⟨p, q⟩ := h1
      clear ih
      exact vin (by grind) (show (_ : Int32) < 240 by grind) (by decide)
    rw [tn_succ h0 c] at hj
    by_cases q : j = x.toNatClampNeg
    · rw [q]; exact d
    · exact hd j (by omega)
  have z0 : (0 : Int32).toNatClampNeg = 0 := by decide
  exact key 0 (by decide) n30.1 (fun d hd => by omega)
theorem c_rentOfx {r : Nat} {x2 x3 : Int32} (hr : r < 6) (hp : pl (mR u 2 10)) (hm : 0 ≤ mI u (mR u 2 10) 1 ∧ mI u (mR u 2 10) 1 ≤ 7) (hK : PlK u (mR u 2 10)) (hd : ∀ s, s < (mI u (mR u 2 10) 1).toNatClampNeg → 0 ≤ mI u 8 s ∧ mI u 8 s < mI u (mR u 2 10) 0) (hz : mI u (50 + 2 * r) 1 = mI u (mR u 2 10) 0) (h2 : 0 ≤ x2 ∧ x2 < mI u (mR u 2 10) 1) (h3 : 0 ≤ x3) : Ws G D_rentOf 0 [(0, .ref 2), (1, .ref (50 + 2 * r)), (2, .int x2), (3, .int x3)] [] u (RI fun a u' => FRc u u' ∧ a = rnS (mI u (51 + 2 * r)) (dwC u) x2.toNatClampNeg x3.toNatClampNeg) := by
  have m7 : (mI u (mR u 2 10) 1).toNatClampNeg ≤ 7 := by have := tn_le hm.2; have e : (7 : Int32).toNatClampNeg = 7 := (by decide); omega
  have sN := tn_lt h2.1 h2.2
  refine sg_D_rentOf_0 (rL hr).1 ?_
  have key : ∀ x v (x4 : Int32), 0 ≤ x → x ≤ x3 → AH u v x.toNatClampNeg → x4 = rnS (mI u (51 + 2 * r)) (dwC u) x2.toNatClampNeg x.toNatClampNeg → Ws G D_rentOf 17 [(0, .ref 2), (1, .ref (50 + 2 * r)), (2, .int x2), (3, .int x3), (4, .int x4), (5, .int x)] [] v (RI fun a u' => FRc u u' ∧ a = rnS (mI u (51 + 2 * r)) (dwC u) x2.toNatClampNeg x3.toNatClampNeg) := by
    refine upI x3 _ (fun x ih v x4 h0 hx hA h4 => ?_)
    have hR : mR v 2 10 = mR u 2 10 := by rw [hA.1.2.1]
    refine sg_D_rentOf_17 (rL hr).1 ⟨fun c => ⟨_, rfl, hA.fr, by rw [h4, Int32.le_antisymm hx c]⟩, fun c _ => ?_⟩
    have su := stU h0 c
    have sx := tn_succ h0 c
    have ed : snD v 10 x2 = dwC u x.toNatClampNeg x2.toNatClampNeg := by
      unfold snD
      rw [if_pos ⟨h2.1, Int32.lt_of_lt_of_le h2.2 hm.2⟩]
      exact hA.2.2.2.2 _ sN
    have rr := pws_rx (w := mI u 7 0) (shut := mI u 7 1) (sh := shF u (mR u 2 10)) (ord := ordF u (mR u 2 10)) hK.1.1 hK.1.2 hd x.toNatClampNeg _ sN
    have er : 0 ≤ dwC u x.toNatClampNeg x2.toNatClampNeg ∧ dwC u x.toNatClampNeg x2.toNatClampNeg < mI u (mR u 2 10) 0 := rr
    rw [hR, ed, spG_at hr er.1 (by rw [hA.2.1 _ _ (by omega) (by omega), hz]; exact er.2) (Int32.lt_of_lt_of_le er.2 (Int32.le_trans hK.1.2 (by decide))), hA.2.1 _ _ (by omega) (by omega)]
    refine kV (c_ah hK hp hA) (fun v' h => ih c v' _ su.1 su.2 (by rw [sx]; exact h) ?_)
    rw [sx, rnS, h4]
  have z0 : (0 : Int32).toNatClampNeg = 0 := by decide
  exact key 0 _ _ (by decide) h3 (by rw [z0]; exact AH.z m7) (by rw [z0]; rfl)
theorem e_amg {ord : Nat → Nat} {cl : Int32} {E : Nat → Nat → Prop} {w : Nat} {y x : Int32} (hM : InvM u) (ho : OrdP (shM u) (mI u 76 11).toNatClampNeg ord) (hc : cnt cl (mI u 76 10).toNatClampNeg ≤ 3) (hE : ¬ E 76 18) (h : AMg u v ord cl E w) (hy : y = mI u 76 18 + Int32.ofNat w) (hx : x = cl) : Ws G m_passOne 0 [(0, .ref 76), (1, .int y), (2, .int x)] [] v (RV fun v' => AMg u v' ord cl E (w + 1) ∧ ∀ n k, n ≠ 85 → n ≠ 86 → mI v' n k = mI v n k) := by
  obtain ⟨hq, hf, hd⟩ := h
  have eM : shM v = shM u := shM_cg (fun k => hq.sh k)
  have hi := hq.inv hM
  rw [hx, hy]
  refine kV (e_passOnex (ord := ord) hi (by rw [hq.n]; exact hc) (by rw [eM, hq.m]; exact ho)) (fun v' h => ?_)
  obtain ⟨q', f', d'⟩ := h
  rw [eM, hq.m, hq.n] at d'
  refine ⟨⟨hq.tr q', fun n k a b e => (f' n k a b).trans (hf n k a b e), fun s hs => ?_⟩, f'⟩
  rw [d' s, pws]
  exact pwk_cg ho.1 hd s hs
theorem e_amg0 {ord : Nat → Nat} {cl : Int32} {E : Nat → Nat → Prop} (hM : InvM u) : Ws G m_fromNow 0 [(0, .ref 76)] [] u (RV fun v' => AMg u v' ord cl E 0 ∧ ∀ n k, n ≠ 85 → mI v' n k = mI u n k) := kV (e_fromNowx hM) (fun v h => ⟨⟨h.1, fun n k a _ _ => h.2.1 n k a, fun s hs => h.2.2 s hs⟩, h.2.1⟩)
def E93 (n _k : Nat) : Prop := n = 93
theorem AMg.p93 {ord : Nat → Nat} {cl : Int32} {w k : Nat} {y : Int32} (h : AMg u v ord cl E93 w) : AMg u (pI v 93 k y) ord cl E93 w := ⟨h.1.pA (by decide), fun n j a b e => by rw [mI_ne e]; exact h.2.1 n j a b e, fun s hs => by rw [mI_ne (by decide)]; exact h.2.2 s hs⟩
theorem e_setRentsx {x1 x2 : Int32} {ord : Nat → Nat} (hM : InvM u) (ho : OrdP (shM u) (mI u 76 11).toNatClampNeg ord) (h1 : 0 ≤ x1 ∧ x1 ≤ 5) (h2 : 0 ≤ x2) : Ws G m_setRents 0 [(0, .ref 76), (1, .int x1), (2, .int x2)] [] u (RV fun u' => Mq mB u u' ∧ (∀ n k, n ≠ 85 → n ≠ 86 → n ≠ 93 → mI u' n k = mI u n k) ∧ ∀ s, s < (mI u 76 11).toNatClampNeg → mI u' 93 s = rnS (fun k => mI u 79 (40 * x1.toNatClampNeg + k)) (dwM u ord) s x2.toNatClampNeg) := by
  have m7 := hM.m7
  have hE : ¬ E93 76 18 := by unfold E93; decide
  have l29 : ∀ x v, 0 ≤ x → x ≤ x2 → AMg u v ord (mI u 76 19) E93 x.toNatClampNeg → (∀ s, s < (mI u 76 11).toNatClampNeg → mI v 93 s = rnS (fun k => mI u 79 (40 * x1.toNatClampNeg + k)) (dwM u ord) s x.toNatClampNeg) → Ws G m_setRents 29 [(0, .ref 76), (1, .int x1), (2, .int x2), (3, .int x)] [] v (RV fun u' => Mq mB u u' ∧ (∀ n k, n ≠ 85 → n ≠ 86 → n ≠ 93 → mI u' n k = mI u n k) ∧ ∀ s, s < (mI u 76 11).toNatClampNeg → mI u' 93 s = rnS (fun k => mI u 79 (40 * x1.toNatClampNeg + k)) (dwM u ord) s x2.toNatClampNeg) := by
    refine upI x2 _ (fun x ih v h0 hx hA hr => ?_)
    refine sg_m_setRents_29 ⟨fun c => ⟨rfl, hA.1, hA.2.1, ?_⟩, fun c => ?_⟩
    · rw [Int32.le_antisymm hx c] at hr
      exact hr
    have su := stU h0 c
    have sx := tn_succ h0 c
    have inn : ∀ y v, 0 ≤ y → y ≤ mI u 76 11 → AMg u v ord (mI u 76 19) E93 x.toNatClampNeg → (∀ s, s < (mI u 76 11).toNatClampNeg → s < y.toNatClampNeg → mI v 93 s = rnS (fun k => mI u 79 (40 * x1.toNatClampNeg + k)) (dwM u ord) s (x.toNatClampNeg + 1)) → (∀ s, s < (mI u 76 11).toNatClampNeg → ¬ s < y.toNatClampNeg → mI v 93 s = rnS (fun k => mI u 79 (40 * x1.toNatClampNeg + k)) (dwM u ord) s x.toNatClampNeg) → Ws G m_setRents 37 [(0, .ref 76), (1, .int x1), (2, .int x2), (3, .int x), (4, .int y)] [] v (RV fun u' => Mq mB u u' ∧ (∀ n k, n ≠ 85 → n ≠ 86 → n ≠ 93 → mI u' n k = mI u n k) ∧ ∀ s, s < (mI u 76 11).toNatClampNeg → mI u' 93 s = rnS (fun k => mI u 79 (40 * x1.toNatClampNeg + k)) (dwM u ord) s x2.toNatClampNeg) := by
      refine upI (mI u 76 11) _ (fun y ihy v y0 hy hA g1 g2 => ?_)
      have w18 : mI v 76 18 = mI u 76 18 := hA.2.1 76 18 (by decide) (by decide) hE
      refine sg_m_setRents_37 ⟨fun c => ?_, fun c => ?_⟩
      · rw [hA.1.m] at c
        refine kV (e_amg hM ho hM.2.2.2.1 hE hA (by rw [w18, i32_nat h0]) hA.1.s) (fun v' h => ih ‹_› v' su.1 su.2 (by rw [sx]; exact h.1) (fun s hs => ?_))
        rw [sx, h.2 93 s (by decide) (by decide)]
        exact g1 s hs (by rw [Int32.le_antisymm hy c]; exact hs)
      rw [hA.1.m] at c
      have ym := Int32.not_le.mp c
      have yN := tn_lt y0 ym
      have sy := tn_succ y0 c
      have sv := stU y0 c
      have v7 : vp_in y 7 := vin y0 (show (_ : Int32) < 7 from Int32.lt_of_lt_of_le ym m7.2) (by decide)
      have b85 := (hA.1.inv hM).b85 y.toNatClampNeg
      have e79 : ∀ k, mI v 79 k = mI u 79 k := fun k => hA.2.1 79 k (by decide) (by decide) (by unfold E93; decide)
      have e85 : mI v 85 y.toNatClampNeg = dwM u ord x.toNatClampNeg y.toNatClampNeg := hA.2.2 _ yN
      have vv : vp_in (40 * x1 + mI v 85 y.toNatClampNeg) 240 := by
        generalize mI v 85 y.toNatClampNeg = D at b85
        obtain ⟨p, q⟩ := h1
        obtain ⟨p', q'⟩ := b85
        clear ih ihy
        exact vin (by grind) (show (_ : Int32) < 240 by grind) (by decide)
      refine ⟨v7, v7, vv, v7, ihy c _ sv.1 sv.2 hA.p93 (fun s hs hs2 => ?_) (fun s hs hs2 => ?_)⟩
      · rw [sy] at hs2
        by_cases q : s = y.toNatClampNeg
        · rw [q, mI_eq, g2 _ yN (by omega), e79, ix40 h1 ⟨b85.1, Int32.lt_trans b85.2 (by decide)⟩, e85]
          rfl
        · rw [mI_nk q]; exact g1 s hs (by omega)
      · rw [sy] at hs2
        rw [mI_nk (by omega)]
        exact g2 s hs (by omega)
    have z0 : (0 : Int32).toNatClampNeg = 0 := by decide
    exact inn 0 v (by decide) m7.1 hA (fun s _ hs => by omega) (fun s hs _ => hr s hs)
  have l6 : ∀ y v, 0 ≤ y → AMg u v ord (mI u 76 19) E93 0 → (∀ s, s < y.toNatClampNeg → mI v 93 s = 0) → Ws G m_setRents 6 [(0, .ref 76), (1, .int x1), (2, .int x2), (3, .int y)] [] v (RV fun u' => Mq mB u u' ∧ (∀ n k, n ≠ 85 → n ≠ 86 → n ≠ 93 → mI u' n k = mI u n k) ∧ ∀ s, s < (mI u 76 11).toNatClampNeg → mI u' 93 s = rnS (fun k => mI u 79 (40 * x1.toNatClampNeg + k)) (dwM u ord) s x2.toNatClampNeg) := by
    refine upI (mI u 76 11) _ (fun y ih v y0 hA g => ?_)
    refine sg_m_setRents_6 ⟨fun c => l29 0 v (by decide) h2 hA (fun s hs => ?_), fun c => ?_⟩
    · rw [hA.1.m] at c
      have := tn_le c
      exact g s (by omega)
    rw [hA.1.m] at c
    have ym := Int32.not_le.mp c
    have sv := stU y0 c
    have v7 : vp_in y 7 := vin y0 (show (_ : Int32) < 7 from Int32.lt_of_lt_of_le ym m7.2) (by decide)
    refine ⟨v7, ih c _ sv.1 hA.p93 (fun s hs => ?_)⟩
    rw [tn_succ y0 c] at hs
    by_cases q : s = y.toNatClampNeg
    · rw [q, mI_eq]
    · rw [mI_nk q]; exact g s (by omega)
  have z0 : (0 : Int32).toNatClampNeg = 0 := by decide
  exact sg_m_setRents_0 (kV (e_amg0 hM) (fun v h => l6 0 v (by decide) h.1 (fun s hs => by omega)))
/-! rent -/
/-! dearest -/
def smR (R : Nat → Int32) : Nat → Int32
  | 0 => 0
  | s + 1 => smR R s + R s
def deF (R : Nat → Int32) : Nat → Nat
  | 0 => 0
  | s + 1 => if R s ≤ R (deF R s) then deF R s else s
theorem deF_le {R : Nat → Int32} : ∀ s, deF R s ≤ s
  | 0 => Nat.le_refl _
  | s + 1 => by
    have := deF_le (R := R) s
    rw [deF]
    split <;> omega
theorem deF_lt {R : Nat → Int32} : ∀ s, deF R (s + 1) ≤ s
  | s => by
    have := deF_le (R := R) s
    rw [deF]
    split <;> omega
theorem smR_cg {R R' : Nat → Int32} : ∀ m, (∀ s, s < m → R' s = R s) → smR R' m = smR R m
  | 0, _ => rfl
  | m + 1, e => by rw [smR, smR, smR_cg m (fun s hs => e s (by omega)), e m (by omega)]
theorem deF_cg {R R' : Nat → Int32} : ∀ m, (∀ s, s < m → R' s = R s) → (∀ s, s < m → R' s = R s) → deF R' m = deF R m
  | 0, _, _ => rfl
  | m + 1, e, _ => by
    have h := deF_cg m (fun s hs => e s (by omega)) (fun s hs => e s (by omega))
    rw [deF, deF, h, e m (by omega)]
    have l := deF_le (R := R) m
    rw [e (deF R m) (by omega)]
def deaK (x1 x2 : Int32) : Prop := (0 ≤ x1 ∧ x1 < 6) ∧ 1 ≤ x2 ∧ x2 ≤ 60
end AND
