/-! ===== rent, dearest ===== -/
/-- went stands w weeks on from now, with these doors closed; what E names may have been written -/
def AMg (u v : pM) (ord : Nat → Nat) (cl : Int32) (E : Nat → Nat → Prop) (w : Nat) : Prop := Mq mB u v ∧ (∀ n k, n ≠ 85 → n ≠ 86 → ¬ E n k → mI v n k = mI u n k) ∧ ∀ s, s < (mI u 76 11).toNatClampNeg → mI v 85 s = pws (mI u 76 10) (mI u 76 18) cl (shM u) ord (mI u 76 11).toNatClampNeg (mI u 84) w s
/-- only ahead has been written -/
def FRc (u v : pM) : Prop := Cq qB u v ∧ ∀ n k, n ≠ 10 → n ≠ 11 → mI v n k = mI u n k
def pasV (sz n : Int32) (f : Nat → Int32) : Int32 := if 0 ≤ sz then (if sz = n then (if ∀ d, d < n.toNatClampNeg → 0 ≤ f d ∧ f d ≤ 99 then 0 else 3) else 5) else 1
theorem pasV_f {sz n : Int32} {f : Nat → Int32} (h : ¬ pasV sz n f = 0) : pasV sz n f = 1 ∨ pasV sz n f = 5 ∨ pasV sz n f = 3 := by
  unfold pasV at *
  by_cases a : 0 ≤ sz
  · rw [if_pos a] at *
    by_cases b : sz = n
    · rw [if_pos b] at *
      by_cases c : ∀ d, d < n.toNatClampNeg → 0 ≤ f d ∧ f d ≤ 99
      · rw [if_pos c] at h; exact absurd rfl h
      · rw [if_neg c]; exact .inr (.inr rfl)
    · rw [if_neg b]; exact .inr (.inl rfl)
  · rw [if_neg a]; exact .inl rfl
theorem pasV_0 {sz n : Int32} {f : Nat → Int32} (h : pasV sz n f = 0) : sz = n ∧ ∀ d, d < n.toNatClampNeg → 0 ≤ f d ∧ f d ≤ 99 := by
  unfold pasV at h
  by_cases a : 0 ≤ sz
  · rw [if_pos a] at h
    by_cases b : sz = n
    · rw [if_pos b] at h
      by_cases c : ∀ d, d < n.toNatClampNeg → 0 ≤ f d ∧ f d ≤ 99
      · exact ⟨b, c⟩
      · rw [if_neg c] at h; exact absurd h (by decide)
    · rw [if_neg b] at h; exact absurd h (by decide)
  · rw [if_neg a] at h; exact absurd h (by decide)
theorem pasV_cg {sz sz' n : Int32} {f g : Nat → Int32} (hs : (sz < 0 ∧ sz' < 0) ∨ (0 ≤ sz ∧ sz = sz')) (hg : ∀ d, d < n.toNatClampNeg → f d = g d) : pasV sz n f = pasV sz' n g := by
  unfold pasV
  rcases hs with ⟨a, b⟩ | ⟨a, b⟩
  · rw [if_neg (Int32.not_le.mpr a), if_neg (Int32.not_le.mpr b)]
  · rw [← b, if_pos a, if_pos a]
    by_cases c : sz = n
    · rw [if_pos c, if_pos c]
      by_cases q : ∀ d, d < n.toNatClampNeg → 0 ≤ f d ∧ f d ≤ 99
      · rw [if_pos q, if_pos (fun d hd => by rw [← hg d hd]; exact q d hd)]
      · rw [if_neg q, if_neg (fun z => q (fun d hd => by rw [hg d hd]; exact z d hd))]
    · rw [if_neg c, if_neg c]
/-- what s pays in so many weeks -/
def rnS (f : Nat → Int32) (dw : Nat → Nat → Int32) (s : Nat) : Nat → Int32
  | 0 => 0
  | w + 1 => rnS f dw s w + f (dw w s).toNatClampNeg
theorem rnS_cg {f g : Nat → Int32} {dw dw' : Nat → Nat → Int32} {s N : Nat} (hd : ∀ w, dw w s = dw' w s) (hb : ∀ w, (dw w s).toNatClampNeg < N) (hf : ∀ d, d < N → f d = g d) : ∀ w, rnS f dw s w = rnS g dw' s w
  | 0 => rfl
  | w + 1 => by rw [rnS, rnS, rnS_cg hd hb hf w, hf _ (hb w), hd w]
theorem rnS_b {f : Nat → Int32} {dw : Nat → Nat → Int32} {s N : Nat} (hb : ∀ w, (dw w s).toNatClampNeg < N) (hf : ∀ d, d < N → 0 ≤ f d ∧ f d ≤ 99) : ∀ w, w ≤ 60 → 0 ≤ (rnS f dw s w).toInt ∧ (rnS f dw s w).toInt ≤ 99 * w
  | 0, _ => by
    have d0 : (0 : Int32).toInt = 0 := by decide
    show 0 ≤ (0 : Int32).toInt ∧ (0 : Int32).toInt ≤ 99 * (0 : Nat)
    omega
  | w + 1, hw => by
    have h := rnS_b hb hf w (by omega)
    have q := hf _ (hb w)
    have q1 := Int32.le_iff_toInt_le.mp q.1
    have q2 := Int32.le_iff_toInt_le.mp q.2
    have d0 : (0 : Int32).toInt = 0 := by decide
    have d9 : (99 : Int32).toInt = 99 := by decide
    rw [rnS, Int32.toInt_add, Int.bmod_eq_of_le (by omega) (by omega)]
    omega
section AND
variable {G : pG} {u v : pM} {Q : Option Value → pM → Prop}
theorem FRc.tr {w : pM} (h : FRc u v) (h2 : FRc v w) : FRc u w := ⟨h.1.tr h2.1, fun n k a b => (h2.2 n k a b).trans (h.2 n k a b)⟩
theorem FRc.ro (h : FRc u v) : mR v 2 10 = mR u 2 10 := by rw [h.1.2.1]
theorem FRc.dw (h : FRc u v) (ko : okS (mR u 2 10) 2) : dwC v = dwC u := by
  have k10 : okS 10 5 := by decide
  have pn := pl_st k10 ko
  funext w
  unfold dwC
  rw [h.ro, h.2 _ _ pn.1.1 pn.1.2, h.2 _ _ pn.1.1 pn.1.2, h.2 7 0 (by decide) (by decide), h.2 7 1 (by decide) (by decide), shF_cg k10 ko h.2, ordF_cg k10 ko h.2, show mI v 8 = mI u 8 from funext (fun k => h.2 8 k (by decide) (by decide))]
theorem AH.fr {w : Nat} (h : AH u v w) : FRc u v := ⟨h.1, h.2.1⟩
theorem c_passersx {r : Nat} (hr : r < 6) (hn : mI u (mR u 2 10) 0 ≤ 30) : Ws G D_passersFinding 0 [(0, .ref 2), (1, .ref (50 + 2 * r))] [] u (RI fun a u' => u = u' ∧ a = pasV (mI u (50 + 2 * r) 1) (mI u (mR u 2 10) 0) (mI u (51 + 2 * r))) := by
  refine sg_D_passersFinding_0 (rL hr).1 ⟨fun a _ => ⟨fun b => ?_, fun b => ⟨_, rfl, rfl, by unfold pasV; rw [if_pos a, if_neg b]⟩⟩, fun a => ⟨_, rfl, rfl, by unfold pasV; rw [if_neg a]⟩⟩
  have key : ∀ x, 0 ≤ x → x ≤ mI u (50 + 2 * r) 1 → (∀ d, d < x.toNatClampNeg → 0 ≤ mI u (51 + 2 * r) d ∧ mI u (51 + 2 * r) d ≤ 99) → Ws G D_passersFinding 27 [(1, .ref (50 + 2 * r)), (2, .int x)] [] u (RI fun a u' => u = u' ∧ a = pasV (mI u (50 + 2 * r) 1) (mI u (mR u 2 10) 0) (mI u (51 + 2 * r))) := by
    refine upI (mI u (50 + 2 * r) 1) _ (fun x ih h0 hx hd => ?_)
    refine sg_D_passersFinding_27 (rL hr).1 ⟨fun c => ⟨_, rfl, rfl, ?_⟩, fun c => ?_⟩
    · rw [Int32.le_antisymm hx c, b] at hd
      unfold pasV
      rw [if_pos a, if_pos b, if_pos hd]
    have xs := Int32.not_le.mp c
    have x40 : x < 40 := Int32.lt_of_lt_of_le xs (by rw [b]; exact Int32.le_trans hn (by decide))
    have bad : ¬ (0 ≤ mI u (51 + 2 * r) x.toNatClampNeg ∧ mI u (51 + 2 * r) x.toNatClampNeg ≤ 99) → 3 = pasV (mI u (50 + 2 * r) 1) (mI u (mR u 2 10) 0) (mI u (51 + 2 * r)) := fun q => by
      unfold pasV
      rw [if_pos a, if_pos b, if_neg (fun z => q (z _ (by rw [← b]; exact tn_lt h0 xs)))]
    rw [spG_at hr h0 xs x40]
    have su := stU h0 c
    refine ⟨fun d => ⟨_, rfl, rfl, bad (fun z => absurd z.1 (Int32.not_le.mpr d))⟩, fun d => ⟨fun e => ih c su.1 su.2 (fun j hj => ?_), fun e => ⟨_, rfl, rfl, bad (fun z => e z.2)⟩⟩⟩
    rw [tn_succ h0 c] at hj
    by_cases q : j = x.toNatClampNeg
    · rw [q]; exact ⟨Int32.not_lt.mp d, e⟩
    · exact hd j (by omega)
  have z0 : (0 : Int32).toNatClampNeg = 0 := by decide
  exact key 0 (by decide) a (fun d hd => by omega)
theorem e_askedRentsx {x1 : Int32} (hM : InvM u) (h1 : 0 ≤ x1 ∧ x1 ≤ 5) : Ws G m_askedRents 0 [(0, .ref 76), (1, .int x1)] [] u (RI fun a u' => (pasV (mI u 78 x1.toNatClampNeg) (mI u 76 10) (fun k => mI u 79 (40 * x1.toNatClampNeg + k)) = 0 ∧ a = 0 ∧ u' = u) ∨ (¬ pasV (mI u 78 x1.toNatClampNeg) (mI u 76 10) (fun k => mI u 79 (40 * x1.toNatClampNeg + k)) = 0 ∧ a = -3 ∧ u' = mt u (pasV (mI u 78 x1.toNatClampNeg) (mI u 76 10) (fun k => mI u 79 (40 * x1.toNatClampNeg + k))))) := by
  have n30 := hM.n30
  have v6 : vp_in x1 6 := vin h1.1 (show (_ : Int32) < 6 from Int32.lt_of_le_of_lt h1.2 (by decide)) (by decide)
  have bad : ∀ f : Int32, ¬ f = 0 → f = pasV (mI u 78 x1.toNatClampNeg) (mI u 76 10) (fun k => mI u 79 (40 * x1.toNatClampNeg + k)) → (RI fun a u' => (pasV (mI u 78 x1.toNatClampNeg) (mI u 76 10) (fun k => mI u 79 (40 * x1.toNatClampNeg + k)) = 0 ∧ a = 0 ∧ u' = u) ∨ (¬ pasV (mI u 78 x1.toNatClampNeg) (mI u 76 10) (fun k => mI u 79 (40 * x1.toNatClampNeg + k)) = 0 ∧ a = -3 ∧ u' = mt u (pasV (mI u 78 x1.toNatClampNeg) (mI u 76 10) (fun k => mI u 79 (40 * x1.toNatClampNeg + k))))) (some (.int (-3))) (mt u f) := fun f f0 e => ⟨_, rfl, .inr ⟨fun z => f0 (e.trans z), rfl, by rw [← e]⟩⟩
  refine sg_m_askedRents_0 ⟨v6, fun a => ⟨v6, fun b => ?_, fun b => bad 5 (by decide) (by unfold pasV; rw [if_pos a, if_neg b])⟩, fun a => bad 1 (by decide) (by unfold pasV; rw [if_neg a])⟩
  have key : ∀ x, 0 ≤ x → x ≤ mI u 76 10 → (∀ d, d < x.toNatClampNeg → 0 ≤ mI u 79 (40 * x1.toNatClampNeg + d) ∧ mI u 79 (40 * x1.toNatClampNeg + d) ≤ 99) → Ws G m_askedRents 36 [(0, .ref 76), (1, .int x1), (2, .int x)] [] u (RI fun a u' => (pasV (mI u 78 x1.toNatClampNeg) (mI u 76 10) (fun k => mI u 79 (40 * x1.toNatClampNeg + k)) = 0 ∧ a = 0 ∧ u' = u) ∨ (¬ pasV (mI u 78 x1.toNatClampNeg) (mI u 76 10) (fun k => mI u 79 (40 * x1.toNatClampNeg + k)) = 0 ∧ a = -3 ∧ u' = mt u (pasV (mI u 78 x1.toNatClampNeg) (mI u 76 10) (fun k => mI u 79 (40 * x1.toNatClampNeg + k))))) := by
    refine upI (mI u 76 10) _ (fun x ih h0 hx hd => ?_)
    refine sg_m_askedRents_36 ⟨fun c => ⟨_, rfl, .inl ⟨?_, rfl, rfl⟩⟩, fun c => ?_⟩
    · rw [Int32.le_antisymm hx c] at hd
      unfold pasV
      rw [if_pos a, if_pos b, if_pos hd]
    have xs := Int32.not_le.mp c
    have x40 : x < 40 := Int32.lt_of_lt_of_le xs (Int32.le_trans n30.2 (by decide))
    have su := stU h0 c
    rw [ix40 h1 ⟨h0, x40⟩]
    refine ⟨?_, fun d => ih c su.1 su.2 (fun j hj => ?_), fun d => bad 3 (by decide) (by unfold pasV; rw [if_pos a, if_pos b, if_neg (fun z => d (z _ (tn_lt h0 xs)))])⟩
    · obtain ⟨p, q⟩ := h1
      clear ih
      exact vin (by grind) (show (_ : Int32) < 240 by grind) (by decide)
    rw [tn_succ h0 c] at hj
    by_cases q : j = x.toNatClampNeg
    · rw [q]; exact d
    · exact hd j (by omega)
  have z0 : (0 : Int32).toNatClampNeg = 0 := by decide
  exact key 0 (by decide) n30.1 (fun d hd => by omega)
theorem c_rentOfx {r : Nat} {x2 x3 : Int32} (hr : r < 6) (hp : pl (mR u 2 10)) (hm : 0 ≤ mI u (mR u 2 10) 1 ∧ mI u (mR u 2 10) 1 ≤ 7) (hK : PlK u (mR u 2 10)) (hd : ∀ s, s < (mI u (mR u 2 10) 1).toNatClampNeg → 0 ≤ mI u 8 s ∧ mI u 8 s < mI u (mR u 2 10) 0) (hz : mI u (50 + 2 * r) 1 = mI u (mR u 2 10) 0) (h2 : 0 ≤ x2 ∧ x2 < mI u (mR u 2 10) 1) (h3 : 0 ≤ x3) : Ws G D_rentOf 0 [(0, .ref 2), (1, .ref (50 + 2 * r)), (2, .int x2), (3, .int x3)] [] u (RI fun a u' => FRc u u' ∧ a = rnS (mI u (51 + 2 * r)) (dwC u) x2.toNatClampNeg x3.toNatClampNeg) := by
  have m7 : (mI u (mR u 2 10) 1).toNatClampNeg ≤ 7 := by have := tn_le hm.2; have e : (7 : Int32).toNatClampNeg = 7 := (by decide); omega
  have sN := tn_lt h2.1 h2.2
  refine sg_D_rentOf_0 (rL hr).1 ?_
  have key : ∀ x v (x4 : Int32), 0 ≤ x → x ≤ x3 → AH u v x.toNatClampNeg → x4 = rnS (mI u (51 + 2 * r)) (dwC u) x2.toNatClampNeg x.toNatClampNeg → Ws G D_rentOf 17 [(0, .ref 2), (1, .ref (50 + 2 * r)), (2, .int x2), (3, .int x3), (4, .int x4), (5, .int x)] [] v (RI fun a u' => FRc u u' ∧ a = rnS (mI u (51 + 2 * r)) (dwC u) x2.toNatClampNeg x3.toNatClampNeg) := by
    refine upI x3 _ (fun x ih v x4 h0 hx hA h4 => ?_)
    have hR : mR v 2 10 = mR u 2 10 := by rw [hA.1.2.1]
    refine sg_D_rentOf_17 (rL hr).1 ⟨fun c => ⟨_, rfl, hA.fr, by rw [h4, Int32.le_antisymm hx c]⟩, fun c _ => ?_⟩
    have su := stU h0 c
    have sx := tn_succ h0 c
    have ed : snD v 10 x2 = dwC u x.toNatClampNeg x2.toNatClampNeg := by
      unfold snD
      rw [if_pos ⟨h2.1, Int32.lt_of_lt_of_le h2.2 hm.2⟩]
      exact hA.2.2.2.2 _ sN
    have rr := pws_rx (w := mI u 7 0) (shut := mI u 7 1) (sh := shF u (mR u 2 10)) (ord := ordF u (mR u 2 10)) hK.1.1 hK.1.2 hd x.toNatClampNeg _ sN
    have er : 0 ≤ dwC u x.toNatClampNeg x2.toNatClampNeg ∧ dwC u x.toNatClampNeg x2.toNatClampNeg < mI u (mR u 2 10) 0 := rr
    rw [hR, ed, spG_at hr er.1 (by rw [hA.2.1 _ _ (by omega) (by omega), hz]; exact er.2) (Int32.lt_of_lt_of_le er.2 (Int32.le_trans hK.1.2 (by decide))), hA.2.1 _ _ (by omega) (by omega)]
    refine kV (c_ah hK hp hA) (fun v' h => ih c v' _ su.1 su.2 (by rw [sx]; exact h) ?_)
    rw [sx, rnS, h4]
  have z0 : (0 : Int32).toNatClampNeg = 0 := by decide
  exact key 0 _ _ (by decide) h3 (by rw [z0]; exact AH.z m7) (by rw [z0]; rfl)
theorem e_amg {ord : Nat → Nat} {cl : Int32} {E : Nat → Nat → Prop} {w : Nat} {y x : Int32} (hM : InvM u) (ho : OrdP (shM u) (mI u 76 11).toNatClampNeg ord) (hc : cnt cl (mI u 76 10).toNatClampNeg ≤ 3) (hE : ¬ E 76 18) (h : AMg u v ord cl E w) (hy : y = mI u 76 18 + Int32.ofNat w) (hx : x = cl) : Ws G m_passOne 0 [(0, .ref 76), (1, .int y), (2, .int x)] [] v (RV fun v' => AMg u v' ord cl E (w + 1) ∧ ∀ n k, n ≠ 85 → n ≠ 86 → mI v' n k = mI v n k) := by
  obtain ⟨hq, hf, hd⟩ := h
  have eM : shM v = shM u := shM_cg (fun k => hq.sh k)
  have hi := hq.inv hM
  rw [hx, hy]
  refine kV (e_passOnex (ord := ord) hi (by rw [hq.n]; exact hc) (by rw [eM, hq.m]; exact ho)) (fun v' h => ?_)
  obtain ⟨q', f', d'⟩ := h
  rw [eM, hq.m, hq.n] at d'
  refine ⟨⟨hq.tr q', fun n k a b e => (f' n k a b).trans (hf n k a b e), fun s hs => ?_⟩, f'⟩
  rw [d' s, pws]
  exact pwk_cg ho.1 hd s hs
theorem e_amg0 {ord : Nat → Nat} {cl : Int32} {E : Nat → Nat → Prop} (hM : InvM u) : Ws G m_fromNow 0 [(0, .ref 76)] [] u (RV fun v' => AMg u v' ord cl E 0 ∧ ∀ n k, n ≠ 85 → mI v' n k = mI u n k) := kV (e_fromNowx hM) (fun v h => ⟨⟨h.1, fun n k a _ _ => h.2.1 n k a, fun s hs => h.2.2 s hs⟩, h.2.1⟩)
def E93 (n _k : Nat) : Prop := n = 93
theorem AMg.p93 {ord : Nat → Nat} {cl : Int32} {w k : Nat} {y : Int32} (h : AMg u v ord cl E93 w) : AMg u (pI v 93 k y) ord cl E93 w := ⟨h.1.pA (by decide), fun n j a b e => by rw [mI_ne e]; exact h.2.1 n j a b e, fun s hs => by rw [mI_ne (by decide)]; exact h.2.2 s hs⟩
theorem e_setRentsx {x1 x2 : Int32} {ord : Nat → Nat} (hM : InvM u) (ho : OrdP (shM u) (mI u 76 11).toNatClampNeg ord) (h1 : 0 ≤ x1 ∧ x1 ≤ 5) (h2 : 0 ≤ x2) : Ws G m_setRents 0 [(0, .ref 76), (1, .int x1), (2, .int x2)] [] u (RV fun u' => Mq mB u u' ∧ (∀ n k, n ≠ 85 → n ≠ 86 → n ≠ 93 → mI u' n k = mI u n k) ∧ ∀ s, s < (mI u 76 11).toNatClampNeg → mI u' 93 s = rnS (fun k => mI u 79 (40 * x1.toNatClampNeg + k)) (dwM u ord) s x2.toNatClampNeg) := by
  have m7 := hM.m7
  have hE : ¬ E93 76 18 := by unfold E93; decide
  have l29 : ∀ x v, 0 ≤ x → x ≤ x2 → AMg u v ord (mI u 76 19) E93 x.toNatClampNeg → (∀ s, s < (mI u 76 11).toNatClampNeg → mI v 93 s = rnS (fun k => mI u 79 (40 * x1.toNatClampNeg + k)) (dwM u ord) s x.toNatClampNeg) → Ws G m_setRents 29 [(0, .ref 76), (1, .int x1), (2, .int x2), (3, .int x)] [] v (RV fun u' => Mq mB u u' ∧ (∀ n k, n ≠ 85 → n ≠ 86 → n ≠ 93 → mI u' n k = mI u n k) ∧ ∀ s, s < (mI u 76 11).toNatClampNeg → mI u' 93 s = rnS (fun k => mI u 79 (40 * x1.toNatClampNeg + k)) (dwM u ord) s x2.toNatClampNeg) := by
    refine upI x2 _ (fun x ih v h0 hx hA hr => ?_)
    refine sg_m_setRents_29 ⟨fun c => ⟨rfl, hA.1, hA.2.1, ?_⟩, fun c => ?_⟩
    · rw [Int32.le_antisymm hx c] at hr
      exact hr
    have su := stU h0 c
    have sx := tn_succ h0 c
    have inn : ∀ y v, 0 ≤ y → y ≤ mI u 76 11 → AMg u v ord (mI u 76 19) E93 x.toNatClampNeg → (∀ s, s < (mI u 76 11).toNatClampNeg → s < y.toNatClampNeg → mI v 93 s = rnS (fun k => mI u 79 (40 * x1.toNatClampNeg + k)) (dwM u ord) s (x.toNatClampNeg + 1)) → (∀ s, s < (mI u 76 11).toNatClampNeg → ¬ s < y.toNatClampNeg → mI v 93 s = rnS (fun k => mI u 79 (40 * x1.toNatClampNeg + k)) (dwM u ord) s x.toNatClampNeg) → Ws G m_setRents 37 [(0, .ref 76), (1, .int x1), (2, .int x2), (3, .int x), (4, .int y)] [] v (RV fun u' => Mq mB u u' ∧ (∀ n k, n ≠ 85 → n ≠ 86 → n ≠ 93 → mI u' n k = mI u n k) ∧ ∀ s, s < (mI u 76 11).toNatClampNeg → mI u' 93 s = rnS (fun k => mI u 79 (40 * x1.toNatClampNeg + k)) (dwM u ord) s x2.toNatClampNeg) := by
      refine upI (mI u 76 11) _ (fun y ihy v y0 hy hA g1 g2 => ?_)
      have w18 : mI v 76 18 = mI u 76 18 := hA.2.1 76 18 (by decide) (by decide) hE
      refine sg_m_setRents_37 ⟨fun c => ?_, fun c => ?_⟩
      · rw [hA.1.m] at c
        refine kV (e_amg hM ho hM.2.2.2.1 hE hA (by rw [w18, i32_nat h0]) hA.1.s) (fun v' h => ih ‹_› v' su.1 su.2 (by rw [sx]; exact h.1) (fun s hs => ?_))
        rw [sx, h.2 93 s (by decide) (by decide)]
        exact g1 s hs (by rw [Int32.le_antisymm hy c]; exact hs)
      rw [hA.1.m] at c
      have ym := Int32.not_le.mp c
      have yN := tn_lt y0 ym
      have sy := tn_succ y0 c
      have sv := stU y0 c
      have v7 : vp_in y 7 := vin y0 (show (_ : Int32) < 7 from Int32.lt_of_lt_of_le ym m7.2) (by decide)
      have b85 := (hA.1.inv hM).b85 y.toNatClampNeg
      have e79 : ∀ k, mI v 79 k = mI u 79 k := fun k => hA.2.1 79 k (by decide) (by decide) (by unfold E93; decide)
      have e85 : mI v 85 y.toNatClampNeg = dwM u ord x.toNatClampNeg y.toNatClampNeg := hA.2.2 _ yN
      have vv : vp_in (40 * x1 + mI v 85 y.toNatClampNeg) 240 := by
        generalize mI v 85 y.toNatClampNeg = D at b85
        obtain ⟨p, q⟩ := h1
        obtain ⟨p', q'⟩ := b85
        clear ih ihy
        exact vin (by grind) (show (_ : Int32) < 240 by grind) (by decide)
      refine ⟨v7, v7, vv, v7, ihy c _ sv.1 sv.2 hA.p93 (fun s hs hs2 => ?_) (fun s hs hs2 => ?_)⟩
      · rw [sy] at hs2
        by_cases q : s = y.toNatClampNeg
        · rw [q, mI_eq, g2 _ yN (by omega), e79, ix40 h1 ⟨b85.1, Int32.lt_trans b85.2 (by decide)⟩, e85]
          rfl
        · rw [mI_nk q]; exact g1 s hs (by omega)
      · rw [sy] at hs2
        rw [mI_nk (by omega)]
        exact g2 s hs (by omega)
    have z0 : (0 : Int32).toNatClampNeg = 0 := by decide
    exact inn 0 v (by decide) m7.1 hA (fun s _ hs => by omega) (fun s hs _ => hr s hs)
  have l6 : ∀ y v, 0 ≤ y → AMg u v ord (mI u 76 19) E93 0 → (∀ s, s < y.toNatClampNeg → mI v 93 s = 0) → Ws G m_setRents 6 [(0, .ref 76), (1, .int x1), (2, .int x2), (3, .int y)] [] v (RV fun u' => Mq mB u u' ∧ (∀ n k, n ≠ 85 → n ≠ 86 → n ≠ 93 → mI u' n k = mI u n k) ∧ ∀ s, s < (mI u 76 11).toNatClampNeg → mI u' 93 s = rnS (fun k => mI u 79 (40 * x1.toNatClampNeg + k)) (dwM u ord) s x2.toNatClampNeg) := by
    refine upI (mI u 76 11) _ (fun y ih v y0 hA g => ?_)
    refine sg_m_setRents_6 ⟨fun c => l29 0 v (by decide) h2 hA (fun s hs => ?_), fun c => ?_⟩
    · rw [hA.1.m] at c
      have := tn_le c
      exact g s (by omega)
    rw [hA.1.m] at c
    have ym := Int32.not_le.mp c
    have sv := stU y0 c
    have v7 : vp_in y 7 := vin y0 (show (_ : Int32) < 7 from Int32.lt_of_lt_of_le ym m7.2) (by decide)
    refine ⟨v7, ih c _ sv.1 hA.p93 (fun s hs => ?_)⟩
    rw [tn_succ y0 c] at hs
    by_cases q : s = y.toNatClampNeg
    · rw [q, mI_eq]
    · rw [mI_nk q]; exact g s (by omega)
  have z0 : (0 : Int32).toNatClampNeg = 0 := by decide
  exact sg_m_setRents_0 (kV (e_amg0 hM) (fun v h => l6 0 v (by decide) h.1 (fun s hs => by omega)))
/-! rent -/
def renK (m x1 x2 x3 : Int32) : Prop := (0 ≤ x1 ∧ x1 < 6) ∧ (0 ≤ x2 ∧ x2 < m) ∧ 1 ≤ x3 ∧ x3 ≤ 60
def renQ (sz n m x1 x2 x3 : Int32) (f : Nat → Int32) (dw : Nat → Nat → Int32) (a : Int32) (F : Int32 → Prop) (S T : Prop) : Prop := (renK m x1 x2 x3 ∧ pasV sz n f = 0 ∧ a = rnS f dw x2.toNatClampNeg x3.toNatClampNeg ∧ T) ∨ (renK m x1 x2 x3 ∧ ¬ pasV sz n f = 0 ∧ a = -3 ∧ F (pasV sz n f)) ∨ (¬ renK m x1 x2 x3 ∧ a = -1 ∧ S)
theorem d_renty {x1 x2 x3 : Int32} (hC : InvC u) (hm : 0 ≤ mI u (mR u 2 10) 1 ∧ mI u (mR u 2 10) 1 ≤ 7) (hK : 0 < mI u (mR u 2 10) 1 → PlK u (mR u 2 10)) (hd : ∀ s, s < (mI u (mR u 2 10) 1).toNatClampNeg → 0 ≤ mI u 8 s ∧ mI u 8 s < mI u (mR u 2 10) 0) (h0 : renK (mI u (mR u 2 10) 1) x1 x2 x3 → pasV (mI u (50 + 2 * x1.toNatClampNeg) 1) (mI u (mR u 2 10) 0) (mI u (51 + 2 * x1.toNatClampNeg)) = 0) : Ws G D_rent 0 [(0, .ref 2), (1, .int x1), (2, .int x2), (3, .int x3)] [] u (RI fun a u' => Cl qB u u' ∧ renQ (mI u (50 + 2 * x1.toNatClampNeg) 1) (mI u (mR u 2 10) 0) (mI u (mR u 2 10) 1) x1 x2 x3 (mI u (51 + 2 * x1.toNatClampNeg)) (dwC u) a (fun f => u' = dF u f) (u' = u) (FRc u u')) := by
  refine sg_D_rent_0 ⟨fun a hp => ⟨fun b => ⟨fun c => ?_, fun c => ⟨_, rfl, Cl.rf hC, .inr (.inr ⟨fun z => c z.2.2, rfl, rfl⟩)⟩⟩, fun b => ⟨_, rfl, Cl.rf hC, .inr (.inr ⟨fun z => b ⟨z.2.1.1, z.2.1.2, Int32.lt_of_lt_of_le z.2.1.2 hm.2⟩, rfl, rfl⟩)⟩⟩, fun a => ⟨_, rfl, Cl.rf hC, .inr (.inr ⟨fun z => a z.1, rfl, rfl⟩)⟩⟩
  have b' : 0 ≤ x2 ∧ x2 < mI u (mR u 2 10) 1 ∧ x2 < 7 := b
  have k : renK (mI u (mR u 2 10) 1) x1 x2 x3 := ⟨a, ⟨b'.1, b'.2.1⟩, c⟩
  have hK' := hK (Int32.lt_of_le_of_lt b'.1 b'.2.1)
  obtain ⟨eo, hr⟩ := rO a
  rw [eo]
  refine kI (c_passersx hr hK'.1.2) (fun f v q => ?_)
  obtain ⟨rfl, ef⟩ := q
  refine ⟨fun z => ?_, fun z => absurd (ef.trans (h0 k)) z⟩
  rw [ef] at z
  refine kI (c_rentOfx hr hp hm hK' hd (pasV_0 z).1 ⟨b'.1, b'.2.1⟩ (Int32.le_trans (by decide) c.1)) (fun y v q => ?_)
  exact ⟨_, rfl, q.1.1.cl hC, .inl ⟨k, z, q.2, q.1⟩⟩
theorem e_renty {x1 x2 x3 : Int32} {ord : Nat → Nat} (hM : InvM u) (ho : OrdP (shM u) (mI u 76 11).toNatClampNeg ord) (h0 : renK (mI u 76 11) x1 x2 x3 → pasV (mI u 78 x1.toNatClampNeg) (mI u 76 10) (fun k => mI u 79 (40 * x1.toNatClampNeg + k)) = 0) : Ws G m_rent 0 [(0, .ref 76), (1, .int x1), (2, .int x2), (3, .int x3)] [] u (RI fun a u' => Mo mB u u' ∧ renQ (mI u 78 x1.toNatClampNeg) (mI u 76 10) (mI u 76 11) x1 x2 x3 (fun k => mI u 79 (40 * x1.toNatClampNeg + k)) (dwM u ord) a (fun f => u' = mt u f) (u' = u) (∀ n k, n ≠ 85 → n ≠ 86 → n ≠ 93 → mI u' n k = mI u n k)) := by
  have m7 := hM.m7
  refine sg_m_rent_0 ⟨fun a => ⟨fun b => ⟨fun c => ?_, fun c => ⟨_, rfl, Mo.rf hM, .inr (.inr ⟨fun z => c z.2.2, rfl, rfl⟩)⟩⟩, fun b => ⟨_, rfl, Mo.rf hM, .inr (.inr ⟨fun z => b ⟨z.2.1.1, ?_⟩, rfl, rfl⟩)⟩⟩, fun a => ⟨_, rfl, Mo.rf hM, .inr (.inr ⟨fun z => a ⟨z.1.1, ?_⟩, rfl, rfl⟩)⟩⟩
  · have xm : x2 < mI u 76 11 := by have := b.2; obtain ⟨p, q⟩ := m7; obtain ⟨p', q'⟩ := b; grind
    have k : renK (mI u 76 11) x1 x2 x3 := ⟨⟨a.1, by have := a.2; grind⟩, ⟨b.1, xm⟩, c⟩
    refine kI (e_askedRentsx hM a) (fun f v q => ?_)
    rcases q with ⟨z, ef, rfl⟩ | ⟨z, ef, ev⟩
    · refine ⟨fun _ => ?_, fun n => absurd (show (0 : Int32) ≤ f by rw [ef]; decide) n⟩
      refine kV (e_setRentsx hM ho a (Int32.le_trans (by decide) c.1)) (fun v' h => ?_)
      exact ⟨vin b.1 (show (_ : Int32) < 7 from Int32.lt_of_lt_of_le xm m7.2) (by decide), _, rfl, h.1.mo hM, .inl ⟨k, z, h.2.2 _ (tn_lt b.1 xm), h.2.1⟩⟩
    · exact absurd (h0 k) z
  · obtain ⟨p, q⟩ := m7; obtain ⟨p', q'⟩ := z.2.1; grind
  · obtain ⟨p', q'⟩ := z.1; grind
/-! dearest -/
def smR (R : Nat → Int32) : Nat → Int32
  | 0 => 0
  | s + 1 => smR R s + R s
def deF (R : Nat → Int32) : Nat → Nat
  | 0 => 0
  | s + 1 => if R s ≤ R (deF R s) then deF R s else s
theorem deF_le {R : Nat → Int32} : ∀ s, deF R s ≤ s
  | 0 => Nat.le_refl _
  | s + 1 => by
    have := deF_le (R := R) s
    rw [deF]
    split <;> omega
theorem deF_lt {R : Nat → Int32} : ∀ s, deF R (s + 1) ≤ s
  | s => by
    have := deF_le (R := R) s
    rw [deF]
    split <;> omega
theorem smR_cg {R R' : Nat → Int32} : ∀ m, (∀ s, s < m → R' s = R s) → smR R' m = smR R m
  | 0, _ => rfl
  | m + 1, e => by rw [smR, smR, smR_cg m (fun s hs => e s (by omega)), e m (by omega)]
def deaK (x1 x2 : Int32) : Prop := (0 ≤ x1 ∧ x1 < 6) ∧ 1 ≤ x2 ∧ x2 ≤ 60
theorem e_partx {x1 x3 : Int64} {x5 : Int32} (h3 : ¬ x3 = 0) : Ws G m_part 0 [(0, .ref 76), (1, .long x1), (3, .long x3), (5, .int x5)] [] u (RI fun a u' => Mq mB u u' ∧ a = x5) := by
  have lc : ∀ y : Int64, lg_cmp y 0 = 0 ↔ y = 0 := fun y => by
    unfold lg_cmp
    by_cases a : y > 0
    · rw [if_pos a]; exact ⟨fun z => absurd z (by decide), fun z => by rw [z] at a; exact absurd a (by decide)⟩
    · rw [if_neg a]
      by_cases b : y = 0
      · rw [if_pos b]; exact ⟨fun _ => b, fun _ => rfl⟩
      · rw [if_neg b]; exact ⟨fun z => absurd z (by decide), fun z => absurd z b⟩
  have key : ∀ (k : Nat) (x y : Int64), y.toInt.natAbs ≤ k → (y = 0 → ¬ x = 0) → Ws G m_part 6 [(0, .ref 76), (1, .long x1), (3, .long x3), (5, .int x5), (6, .long x), (8, .long y)] [] u (RI fun a u' => Mq mB u u' ∧ a = x5) := by
    intro k
    induction k with
    | zero =>
      intro x y hy hx
      have d0 : (0 : Int64).toInt = 0 := by decide
      have h0 : y = 0 := Int64.toInt_inj.mp (by omega)
      exact sg_m_part_6 ⟨fun z => ⟨hx h0, hx h0, _, rfl, Mq.rf.wL.wL, rfl⟩, fun z => absurd ((lc y).mpr h0) z⟩
    | succ k ih =>
      intro x y hy hx
      refine sg_m_part_6 ⟨fun z => ⟨hx ((lc y).mp z), hx ((lc y).mp z), _, rfl, Mq.rf.wL.wL, rfl⟩, fun z => ?_⟩
      have z2 : ¬ y = 0 := fun q => z ((lc y).mpr q)
      refine ⟨z2, ih _ _ ?_ (fun _ => z2)⟩
      have d0 : (0 : Int64).toInt = 0 := by decide
      have hk : ¬ y.toInt = 0 := fun q => z2 (Int64.toInt_inj.mp (by omega))
      rw [rmL_toInt z2, Int.natAbs_tmod]
      have := Nat.mod_lt x.toInt.natAbs (y := y.toInt.natAbs) (by omega)
      omega
  exact sg_m_part_0 (key _ _ _ (Nat.le_refl _) (fun q => absurd q h3))
end AND
noncomputable def deaG (sz n m x1 x2 : Int32) (f : Nat → Int32) (dw : Nat → Nat → Int32) : Int32 := cI (deaK x1 x2) (cI (pasV sz n f = 0) (cI (smR (fun s => rnS f dw s x2.toNatClampNeg) m.toNatClampNeg = 0) 4 0) (pasV sz n f)) 0
section DEG
variable {sz n m x1 x2 : Int32} {f : Nat → Int32} {dw : Nat → Nat → Int32}
theorem deaG_n (h : ¬ deaK x1 x2) : deaG sz n m x1 x2 f dw = 0 := by unfold deaG; rw [cI_f h]
theorem deaG_p (h : deaK x1 x2) (z : ¬ pasV sz n f = 0) : deaG sz n m x1 x2 f dw = pasV sz n f := by unfold deaG; rw [cI_t h, cI_f z]
theorem deaG_4 (h : deaK x1 x2) (z : pasV sz n f = 0) (y : smR (fun s => rnS f dw s x2.toNatClampNeg) m.toNatClampNeg = 0) : deaG sz n m x1 x2 f dw = 4 := by unfold deaG; rw [cI_t h, cI_t z, cI_t y]
theorem deaG_k (h : deaK x1 x2) (z : pasV sz n f = 0) (y : ¬ smR (fun s => rnS f dw s x2.toNatClampNeg) m.toNatClampNeg = 0) : deaG sz n m x1 x2 f dw = 0 := by unfold deaG; rw [cI_t h, cI_t z, cI_f y]
theorem pasV_r (h : ¬ pasV sz n f = 0) : 1 ≤ pasV sz n f ∧ pasV sz n f ≤ 5 := by
  rcases pasV_f h with e | e | e <;> rw [e] <;> decide
end DEG
section AND2
variable {G : pG} {u v : pM} {Q : Option Value → pM → Prop}
theorem d_dearestF {x1 x2 : Int32} (hC : InvC u) (hm : 0 ≤ mI u (mR u 2 10) 1 ∧ mI u (mR u 2 10) 1 ≤ 7) (hn : mI u (mR u 2 10) 0 ≤ 30) (hK : 0 < mI u (mR u 2 10) 1 → PlK u (mR u 2 10)) (hd : ∀ s, s < (mI u (mR u 2 10) 1).toNatClampNeg → 0 ≤ mI u 8 s ∧ mI u 8 s < mI u (mR u 2 10) 0) : Ws G D_dearest 0 [(0, .ref 2), (1, .int x1), (2, .int x2)] [] u (RI fun a u' => Cl (qB ++ qF) u u' ∧ fO (deaG (mI u (50 + 2 * x1.toNatClampNeg) 1) (mI u (mR u 2 10) 0) (mI u (mR u 2 10) 1) x1 x2 (mI u (51 + 2 * x1.toNatClampNeg)) (dwC u)) (Cl qB u u' ∧ True) (fdC u u' (deaG (mI u (50 + 2 * x1.toNatClampNeg) 1) (mI u (mR u 2 10) 0) (mI u (mR u 2 10) 1) x1 x2 (mI u (51 + 2 * x1.toNatClampNeg)) (dwC u)))) := by
  refine sg_D_dearest_0 ⟨fun a => ⟨fun c => ?_, fun c => ⟨_, rfl, foK (Cl.rf hC) (deaG_n (fun z => c z.2)) (by decide)⟩⟩, fun a => ⟨_, rfl, foK (Cl.rf hC) (deaG_n (fun z => a z.1)) (by decide)⟩⟩
  have k : deaK x1 x2 := ⟨a, c⟩
  obtain ⟨eo, hr⟩ := rO a
  rw [eo]
  refine kI (c_passersx hr hn) (fun f v q => ?_)
  obtain ⟨rfl, ef⟩ := q
  refine ⟨fun z => ?_, fun z => ⟨_, rfl, foD hC Cq.rf ((deaG_p k (by rw [← ef]; exact z)).trans ef.symm) (by rw [ef]; exact pasV_r (by rw [← ef]; exact z)) (by decide)⟩⟩
  rw [ef] at z
  have pz := pasV_0 z
  have b60 : x2.toNatClampNeg ≤ 60 := by have := tn_le c.2; have e : (60 : Int32).toNatClampNeg = 60 := (by decide); omega
  generalize hRR : (fun s => rnS (mI u (51 + 2 * x1.toNatClampNeg)) (dwC u) s x2.toNatClampNeg) = R
  have eR : ∀ s, rnS (mI u (51 + 2 * x1.toNatClampNeg)) (dwC u) s x2.toNatClampNeg = R s := fun s => by rw [← hRR]
  have key : ∀ x v (x5 x6 x7 : Int32), 0 ≤ x → x ≤ mI u (mR u 2 10) 1 → FRc u v → x5 = Int32.ofNat (deF R x.toNatClampNeg) → (x6 = R (deF R x.toNatClampNeg) ∨ (x.toNatClampNeg = 0 ∧ x6 = 0)) → x7 = smR R x.toNatClampNeg → Ws G D_dearest 53 [(0, .ref 2), (2, .int x2), (3, .ref (50 + 2 * x1.toNatClampNeg)), (5, .int x5), (6, .int x6), (7, .int x7), (8, .int x)] [] v (RI fun a u' => Cl (qB ++ qF) u u' ∧ fO (deaG (mI u (50 + 2 * x1.toNatClampNeg) 1) (mI u (mR u 2 10) 0) (mI u (mR u 2 10) 1) x1 x2 (mI u (51 + 2 * x1.toNatClampNeg)) (dwC u)) (Cl qB u u' ∧ True) (fdC u u' (deaG (mI u (50 + 2 * x1.toNatClampNeg) 1) (mI u (mR u 2 10) 0) (mI u (mR u 2 10) 1) x1 x2 (mI u (51 + 2 * x1.toNatClampNeg)) (dwC u)))) := by
    refine upI (mI u (mR u 2 10) 1) _ (fun x ih v x5 x6 x7 h0 hx hF h5 h6 h7 => ?_)
    refine sg_D_dearest_53 (rL hr).1 (fun hp => ?_)
    rw [hF.ro] at hp ⊢
    have ko := pl_ok hp
    have k10 : okS 10 5 := by decide
    have pn := pl_st k10 ko
    have e0 : mI v (mR u 2 10) 0 = mI u (mR u 2 10) 0 := hF.2 _ _ pn.1.1 pn.1.2
    have e1 : mI v (mR u 2 10) 1 = mI u (mR u 2 10) 1 := hF.2 _ _ pn.1.1 pn.1.2
    rw [e1]
    refine ⟨fun c => ⟨fun d => ?_, fun d => ⟨_, rfl, foD hC hF.1 (deaG_4 k z ?_) (by decide) (by decide)⟩⟩, fun c => ?_⟩
    · refine kVq (u := u) (h_tellFraction (by decide)) hF.1 (fun v' hq => ⟨_, rfl, foK (hq.cl hC) (deaG_k k z ?_) (by decide)⟩)
      rw [hRR, ← Int32.le_antisymm hx c, ← h7]; exact d
    · rw [hRR, ← Int32.le_antisymm hx c, ← h7]; exact d
    have xm := Int32.not_le.mp c
    have sN := tn_lt h0 xm
    have su := stU h0 c
    have sx := tn_succ h0 c
    have hK' := hK (Int32.lt_of_le_of_lt h0 xm)
    have f51 : mI v (51 + 2 * x1.toNatClampNeg) = mI u (51 + 2 * x1.toNatClampNeg) := funext (fun j => hF.2 _ j (by omega) (by omega))
    have vro := hF.ro
    refine kI (c_rentOfx (u := v) hr (by rw [vro]; exact hp) (by rw [vro, e1]; exact hm) (by rw [vro]; exact hK'.cg k10 ko hF.2) (by rw [vro, e1, e0]; exact fun s hs => by rw [hF.2 8 s (by decide) (by decide)]; exact hd s hs) (by rw [vro, e0, hF.2 _ _ (by omega) (by omega)]; exact pz.1) ⟨h0, by rw [vro, e1]; exact xm⟩ (Int32.le_trans (by decide) ‹1 ≤ x2 ∧ x2 ≤ 60›.1)) (fun y v' q => ?_)
    obtain ⟨hF', ey⟩ := q
    rw [f51, hF.dw ko, eR] at ey
    have hF2 := hF.tr hF'
    have pos : 0 ≤ y := by
      rw [ey, ← eR]
      have rb := rnS_b (f := mI u (51 + 2 * x1.toNatClampNeg)) (dw := dwC u) (s := x.toNatClampNeg) (N := (mI u (mR u 2 10) 0).toNatClampNeg) (fun w => by
        have rr := pws_rx (w := mI u 7 0) (shut := mI u 7 1) (sh := shF u (mR u 2 10)) (ord := ordF u (mR u 2 10)) hK'.1.1 hK'.1.2 hd w _ sN
        exact tn_lt rr.1 rr.2) pz.2 x2.toNatClampNeg b60
      exact Int32.le_iff_toInt_le.mpr (by have d0 : (0 : Int32).toInt = 0 := (by decide); omega)
    refine ⟨fun d => ih c v' _ _ _ su.1 su.2 hF2 ?_ ?_ (by rw [sx, smR, h7, ey]), fun d => ih c v' _ _ _ su.1 su.2 hF2 ?_ ?_ (by rw [sx, smR, h7, ey])⟩
    · rw [sx, deF, h5]
      rcases h6 with h6 | ⟨h6, h6'⟩
      · rw [if_pos (by rw [← h6, ← ey]; exact d)]
      · rw [h6, show deF R 0 = 0 from rfl, if_pos (Int32.le_refl _)]
    · left
      rw [sx, deF]
      rcases h6 with h6 | ⟨h6, h6'⟩
      · rw [if_pos (by rw [← h6, ← ey]; exact d)]; exact h6
      · rw [h6, show deF R 0 = 0 from rfl, if_pos (Int32.le_refl _)]
        rw [h6] at ey
        rw [← ey, h6']
        exact (Int32.le_antisymm (by rw [h6'] at d; exact d) pos).symm
    · rw [sx, deF]
      rcases h6 with h6 | ⟨h6, h6'⟩
      · rw [if_neg (by rw [← h6, ← ey]; exact d)]; exact (i32_nat h0).symm
      · rw [h6, show deF R 0 = 0 from rfl, if_pos (Int32.le_refl _)]
        have e := i32_nat h0
        rw [h6] at e
        exact e.symm
    · left
      rw [sx, deF]
      rcases h6 with h6 | ⟨h6, h6'⟩
      · rw [if_neg (by rw [← h6, ← ey]; exact d)]; exact ey
      · rw [h6] at ey ⊢
        rw [show deF R 0 = 0 from rfl, if_pos (Int32.le_refl _)]
        exact ey
  have z0 : (0 : Int32).toNatClampNeg = 0 := by decide
  exact key 0 _ _ _ _ (by decide) hm.1 ⟨Cq.rf, fun _ _ _ _ => rfl⟩ (by rw [z0]; rfl) (.inr ⟨z0, rfl⟩) (by rw [z0]; rfl)
theorem e_dearestF {x1 x2 : Int32} {ord : Nat → Nat} (hM : InvM u) (ho : OrdP (shM u) (mI u 76 11).toNatClampNeg ord) : Ws G m_dearest 0 [(0, .ref 76), (1, .int x1), (2, .int x2)] [] u (RI fun a u' => Mo (mB ++ mF) u u' ∧ fO (deaG (mI u 78 x1.toNatClampNeg) (mI u 76 10) (mI u 76 11) x1 x2 (fun k => mI u 79 (40 * x1.toNatClampNeg + k)) (dwM u ord)) (Mo mB u u' ∧ True) (fdM u u' (deaG (mI u 78 x1.toNatClampNeg) (mI u 76 10) (mI u 76 11) x1 x2 (fun k => mI u 79 (40 * x1.toNatClampNeg + k)) (dwM u ord)))) := by
  have m7 := hM.m7
  refine sg_m_dearest_0 ⟨fun a => ⟨fun c => ?_, fun c => ⟨_, rfl, foKM (Mo.rf hM) (deaG_n (fun z => c z.2)) (by decide)⟩⟩, fun a => ⟨_, rfl, foKM (Mo.rf hM) (deaG_n (fun z => a ⟨z.1.1, by obtain ⟨p', q'⟩ := z.1; grind⟩)) (by decide)⟩⟩
  have k : deaK x1 x2 := ⟨⟨a.1, by have := a.2; grind⟩, c⟩
  refine kI (e_askedRentsx hM a) (fun f v q => ?_)
  rcases q with ⟨z, ef, rfl⟩ | ⟨z, ef, ev⟩
  rotate_left
  · refine ⟨fun n => absurd n (by rw [ef]; decide), fun _ => ⟨_, rfl, ?_⟩⟩
    rw [ev]
    exact foDM hM Mq.rf (deaG_p k z) z (by decide)
  refine ⟨fun _ => ?_, fun n => absurd (show (0 : Int32) ≤ f by rw [ef]; decide) n⟩
  refine kV (e_setRentsx hM ho a (Int32.le_trans (by decide) c.1)) (fun v' h => ?_)
  generalize hRR : (fun s => rnS (fun k => mI v 79 (40 * x1.toNatClampNeg + k)) (dwM v ord) s x2.toNatClampNeg) = R
  have eR : ∀ s, rnS (fun k => mI v 79 (40 * x1.toNatClampNeg + k)) (dwM v ord) s x2.toNatClampNeg = R s := fun s => by rw [← hRR]
  have h93 : ∀ s, s < (mI v 76 11).toNatClampNeg → mI v' 93 s = R s := fun s hs => (h.2.2 s hs).trans (eR s)
  have e11 := h.1.m
  have key : ∀ x (x4 x5 : Int32), 0 ≤ x → x ≤ mI v 76 11 → x5 = Int32.ofNat (deF R x.toNatClampNeg) → x4 = smR R x.toNatClampNeg → Ws G m_dearest 46 [(0, .ref 76), (4, .int x4), (5, .int x5), (6, .int x)] [] v' (RI fun a u' => Mo (mB ++ mF) v u' ∧ fO (deaG (mI v 78 x1.toNatClampNeg) (mI v 76 10) (mI v 76 11) x1 x2 (fun k => mI v 79 (40 * x1.toNatClampNeg + k)) (dwM v ord)) (Mo mB v u' ∧ True) (fdM v u' (deaG (mI v 78 x1.toNatClampNeg) (mI v 76 10) (mI v 76 11) x1 x2 (fun k => mI v 79 (40 * x1.toNatClampNeg + k)) (dwM v ord)))) := by
    refine upI (mI v 76 11) _ (fun x ih x4 x5 h0 hx h5 h4 => ?_)
    have l5 : x5.toNatClampNeg = deF R x.toNatClampNeg := by
      have l := deF_le (R := R) x.toNatClampNeg
      have l2 := tn_le hx
      have l3 := tn_le m7.2
      have e7 : (7 : Int32).toNatClampNeg = 7 := by decide
      rw [h5]
      exact (show ∀ k, k < 8 → (Int32.ofNat k).toNatClampNeg = k from by decide) _ (by omega)
    have p5 : 0 ≤ x5 := by
      have l := deF_le (R := R) x.toNatClampNeg
      have l2 := tn_le hx
      have l3 := tn_le m7.2
      have e7 : (7 : Int32).toNatClampNeg = 7 := by decide
      rw [h5]
      exact (show ∀ k, k < 8 → 0 ≤ Int32.ofNat k from by decide) _ (by omega)
    refine sg_m_dearest_46 ⟨fun c => ?_, fun c => ?_⟩
    · rw [e11] at c
      have ex := Int32.le_antisymm hx c
      refine ⟨fun d => ?_, fun d => ⟨_, rfl, foDM hM h.1 (deaG_4 k z ?_) (by decide) (by decide)⟩⟩
      · have mp : 0 < (mI v 76 11).toNatClampNeg := by
          rcases Nat.eq_zero_or_pos (mI v 76 11).toNatClampNeg with q | q
          · rw [h4, ex, q] at d; exact absurd rfl d
          · exact q
        have l := deF_lt (R := R) ((mI v 76 11).toNatClampNeg - 1)
        rw [show (mI v 76 11).toNatClampNeg - 1 + 1 = (mI v 76 11).toNatClampNeg by omega] at l
        have l3 := tn_le m7.2
        have e7 : (7 : Int32).toNatClampNeg = 7 := by decide
        have x57 : x5 < 7 := by
          rw [h5, ex]
          exact (show ∀ k, k < 7 → Int32.ofNat k < 7 from by decide) _ (by omega)
        refine ⟨vin p5 (show (_ : Int32) < 7 from x57) (by decide), kI (e_partx (fun q => ?_)) (fun y v2 q => ⟨_, rfl, foKM ((h.1.tr q.1).mo hM) (deaG_k k z ?_) (by decide)⟩)⟩
        · have := congrArg Int64.toInt q
          rw [Int32.toInt_toInt64] at this
          exact d (Int32.toInt_inj.mp this)
        · rw [hRR, ← ex, ← h4]; exact d
      · rw [hRR, ← ex, ← h4]; exact d
    rw [e11] at c
    have xm := Int32.not_le.mp c
    have sN := tn_lt h0 xm
    have su := stU h0 c
    have sx := tn_succ h0 c
    have v7 : vp_in x 7 := vin h0 (show (_ : Int32) < 7 from Int32.lt_of_lt_of_le xm m7.2) (by decide)
    have ld := deF_le (R := R) x.toNatClampNeg
    have w7 : vp_in x5 7 := vin p5 (show (_ : Int32) < 7 by
      have l3 := tn_le m7.2
      have e7 : (7 : Int32).toNatClampNeg = 7 := by decide
      rw [h5]
      exact (show ∀ k, k < 7 → Int32.ofNat k < 7 from by decide) _ (by omega)) (by decide)
    rw [h93 _ sN, l5, h93 (deF R x.toNatClampNeg) (by omega)]
    refine ⟨v7, v7, w7, fun d => ih c _ _ su.1 su.2 ?_ (by rw [sx, smR, h4]), fun d => ih c _ _ su.1 su.2 ?_ (by rw [sx, smR, h4])⟩
    · rw [sx, deF, if_pos d]; exact h5
    · rw [sx, deF, if_neg d]; exact (i32_nat h0).symm
  have z0 : (0 : Int32).toNatClampNeg = 0 := by decide
  exact key 0 _ _ (by decide) m7.1 (by rw [z0]; rfl) (by rw [z0]; rfl)
end AND2
