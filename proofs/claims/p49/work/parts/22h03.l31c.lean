/-! ===== the class reads a shop, a square ===== -/
theorem ne_4 {o q t kd : Nat} (h : okS q 4) (ht : okS t kd) (hk : kd ≠ 4) : t ≠ q := fun e => by rw [e] at ht; exact hk (ht.2.2.symm.trans h.2.2)
def Sk (o q : Nat) (u v : pM) (p a : Int32) : Prop := (∀ n k, ¬ (n = o ∧ (k = 1 ∨ k = 2)) → n ≠ q → mI v n k = mI u n k) ∧ mRQ v = mRQ u ∧ mI v o 1 = p ∧ mI v o 2 = a
def shC (u : pM) (q : Nat) : Sh5 := (mI u q 0, mI u q 1, mI u q 2, mI u q 3, mI u q 4)
def PlL (u : pM) (o : Nat) (l : List Sh5) : Prop := mI u o 1 = Int32.ofNat l.length ∧ l.length ≤ 7 ∧ ∀ s, s < l.length → l[s]? = some (shC u (R0 (o + 1) s))
theorem Sk.rf {o q : Nat} {u : pM} : Sk o q u u (mI u o 1) (mI u o 2) := ⟨fun _ _ _ _ => rfl, rfl, rfl, rfl⟩
theorem Sk.rk {o q : Nat} {u v w : pM} {p a p' a' : Int32} (h : Sk o q u v p a) (h2 : Rk o v w p' a') : Sk o q u w p' a' := ⟨fun n k z y => (h2.1 n k z).trans (h.1 n k z y), h2.2.1.trans h.2.1, h2.2.2.1, h2.2.2.2⟩
theorem Sk.wr {o q k : Nat} {u v : pM} {p a x : Int32} (h : Sk o q u v p a) (hq : q ≠ o) : Sk o q u (pI v q k x) p a := ⟨fun n k z y => by rw [mI_ne y]; exact h.1 n k z y, h.2.1, by rw [mI_ne hq.symm]; exact h.2.2.1, by rw [mI_ne hq.symm]; exact h.2.2.2⟩
theorem Sk.tx {o q : Nat} {u v : pM} {p a : Int32} (h : Sk o q u v p a) (r : RO u o) (kq : okS q 4) : Tx v o = Tx u o ∧ Tn v o = Tn u o := by
  have n := ne_3_6 r.1 r.2.1
  have n4 := ne_4 (o := o) kq r.2.1 (by decide)
  have n5 := ne_4 (o := o) kq (os_6_0 r.2.1) (by decide)
  have e1 : mI v (mR u o 0) = mI u (mR u o 0) := by funext k; exact h.1 _ _ (fun z => n.1 z.1) n4
  have e2 : mI v (mR u o 0 + 1) = mI u (mR u o 0 + 1) := by funext k; exact h.1 _ _ (fun z => n.2 z.1) n5
  unfold Tx Tn
  rw [mRQ_r h.2.1, e1, e2]
  exact ⟨rfl, rfl⟩
theorem Sk.ro {o q : Nat} {u v : pM} {p a : Int32} (h : Sk o q u v p a) (r : RO u o) (kq : okS q 4) (hp : 0 ≤ p) : RO v o := by
  have t := (h.tx r kq).2
  refine ⟨r.1, by rw [mRQ_r h.2.1]; exact r.2.1, by rw [t, mRQ_r h.2.1]; exact r.2.2.1, by rw [t]; exact r.2.2.2.1, by rw [h.2.2.1]; exact hp⟩
theorem rk_q {o q k : Nat} {u v : pM} {p a : Int32} (h : Rk o u v p a) (hq : q ≠ o) : mI v q k = mI u q k := h.1 q k (fun z => hq z.1)
theorem nm2_p {u : pM} {o : Nat} {x : Int32} (r : RO u o) (hx : 0 ≤ x) : 0 ≤ (nm2 (Tx u o) x).2.2 := by
  have h9 := r.2.2.2.1
  unfold nm2
  by_cases a : fig (Tx u o x)
  · have i := fig_in a
    rw [if_pos a]
    by_cases b : fig (Tx u o (x + 1))
    · have j := fig_in b
      rw [if_pos b]; show 0 ≤ x + 1 + 1; grind
    · rw [if_neg b]; show 0 ≤ x + 1; grind
  · rw [if_neg a]; exact hx
theorem nx {u : pM} {o : Nat} {x c : Int32} (r : RO u o) (h : Tx u o x = c) (h9 : ¬ c = -9) : 0 ≤ x + 1 := by
  have i := tx_in (u := u) (o := o) (x := x) (by rw [h]; exact h9)
  have := r.2.2.2.1
  grind
section RDX
variable {G : pG} {u : pM}
theorem x_readKind {o : Nat} (r : RO u o) : Ws G Rd_readKind 0 [(0, .ref o)] [] u (RI fun a u' => (¬ kindV (Tx u o (mI u o 1)) = -9 ∧ ¬ a = 0 ∧ Rk o u u' (mI u o 1 + 1) (kindV (Tx u o (mI u o 1)))) ∨ (kindV (Tx u o (mI u o 1)) = -9 ∧ a = 0 ∧ u' = u)) := by
  have l9 : ∀ j, j < 6 → ¬ lets j = 0 ∧ ¬ lets j = -9 ∧ kindV (lets j) = Int32.ofNat j ∧ ¬ Int32.ofNat j = -9 := by decide
  have key : ∀ x, 0 ≤ x → (∀ j, j < x.toNatClampNeg → ¬ Tx u o (mI u o 1) = lets j) → Ws G Rd_readKind 2 [(0, .ref o), (1, .int x)] [] u (RI fun a u' => (¬ kindV (Tx u o (mI u o 1)) = -9 ∧ ¬ a = 0 ∧ Rk o u u' (mI u o 1 + 1) (kindV (Tx u o (mI u o 1)))) ∨ (kindV (Tx u o (mI u o 1)) = -9 ∧ a = 0 ∧ u' = u)) := by
    refine upI 6 _ (fun x ih h0 hn => ?_)
    refine sg_Rd_readKind_2 r.1 ⟨fun c => ⟨_, rfl, .inr ⟨?_, rfl, rfl⟩⟩, fun c => ⟨vin h0 (show (_ : Int32) < 6 by grind) (by decide), ?_⟩⟩
    · have l := tn_le c
      have e : (6 : Int32).toNatClampNeg = 6 := by decide
      have n0 : ¬ Tx u o (mI u o 1) = 115 := hn 0 (by omega)
      have n1 : ¬ Tx u o (mI u o 1) = 102 := hn 1 (by omega)
      have n2 : ¬ Tx u o (mI u o 1) = 121 := hn 2 (by omega)
      have n3 : ¬ Tx u o (mI u o 1) = 110 := hn 3 (by omega)
      have n4 : ¬ Tx u o (mI u o 1) = 111 := hn 4 (by omega)
      have n5 : ¬ Tx u o (mI u o 1) = 112 := hn 5 (by omega)
      unfold kindV
      rw [if_neg n0, if_neg n1, if_neg n2, if_neg n3, if_neg n4, if_neg n5]
    · have x6 : x.toNatClampNeg < 6 := ixn (n := 6) h0 (show (_ : Int32) < 6 by grind) (by decide)
      have q := l9 _ x6
      refine kI (x_passes r q.1 q.2.1) (fun a v h => ?_)
      rcases h with ⟨e, a1, rk⟩ | ⟨e, a0, rfl⟩
      · refine ⟨fun z => absurd z a1, fun _ => ⟨_, rfl, .inl ⟨?_, by decide, ?_⟩⟩⟩
        · rw [e, q.2.2.1]; exact q.2.2.2
        · rw [e, q.2.2.1, i32_nat h0]; exact rk.p2
      · refine ⟨fun _ => ih c (by grind) (fun j hj => ?_), fun z => absurd a0 z⟩
        rw [tn_succ h0 c] at hj
        by_cases ej : j = x.toNatClampNeg
        · rw [ej]; exact e
        · exact hn j (by omega)
  exact sg_Rd_readKind_0 r.1 (key 0 (by decide) (fun j hj => by have e : (0 : Int32).toNatClampNeg = 0 := (by decide); omega))
theorem x_readStep {o : Nat} (r : RO u o) : Ws G Rd_readStep 0 [(0, .ref o)] [] u (RI fun a u' => (((Tx u o (mI u o 1) = 45 ∨ Tx u o (mI u o 1) = 43) ∧ fig (Tx u o (mI u o 1 + 1))) ∧ ¬ a = 0 ∧ Rk o u u' (mI u o 1 + 1 + 1) (if Tx u o (mI u o 1) = 45 then -dg (Tx u o (mI u o 1 + 1)) else dg (Tx u o (mI u o 1 + 1)))) ∨ (¬ ((Tx u o (mI u o 1) = 45 ∨ Tx u o (mI u o 1) = 43) ∧ fig (Tx u o (mI u o 1 + 1))) ∧ a = 0 ∧ ∃ p b, 0 ≤ p ∧ Rk o u u' p b)) := by
  have p0 := r.2.2.2.2
  have fin : ∀ v (c s : Int32), ¬ c = 0 → Tx u o (mI u o 1) = s → ¬ s = -9 → (s = 45 ∨ s = 43) → Rk o u v (mI u o 1 + 1) (mI u o 2) → ∀ (k : Int32), (k = 0 ↔ ¬ s = 45) → Ws G Rd_readNumber 0 [(0, .ref o), (1, .int 1), (2, .int 1), (3, .int 0), (4, .int 9)] [] v (RI fun a3 u3 => ((¬ a3 = 0 → ((k = 0 → (RI fun a u' => (((Tx u o (mI u o 1) = 45 ∨ Tx u o (mI u o 1) = 43) ∧ fig (Tx u o (mI u o 1 + 1))) ∧ ¬ a = 0 ∧ Rk o u u' (mI u o 1 + 1 + 1) (if Tx u o (mI u o 1) = 45 then -dg (Tx u o (mI u o 1 + 1)) else dg (Tx u o (mI u o 1 + 1)))) ∨ (¬ ((Tx u o (mI u o 1) = 45 ∨ Tx u o (mI u o 1) = 43) ∧ fig (Tx u o (mI u o 1 + 1))) ∧ a = 0 ∧ ∃ p b, 0 ≤ p ∧ Rk o u u' p b)) (some (.int 1)) (pI u3 o 2 (mI u3 o 2))) ∧ (¬ k = 0 → (RI fun a u' => (((Tx u o (mI u o 1) = 45 ∨ Tx u o (mI u o 1) = 43) ∧ fig (Tx u o (mI u o 1 + 1))) ∧ ¬ a = 0 ∧ Rk o u u' (mI u o 1 + 1 + 1) (if Tx u o (mI u o 1) = 45 then -dg (Tx u o (mI u o 1 + 1)) else dg (Tx u o (mI u o 1 + 1)))) ∨ (¬ ((Tx u o (mI u o 1) = 45 ∨ Tx u o (mI u o 1) = 43) ∧ fig (Tx u o (mI u o 1 + 1))) ∧ a = 0 ∧ ∃ p b, 0 ≤ p ∧ Rk o u u' p b)) (some (.int 1)) (pI u3 o 2 (-(mI u3 o 2)))))) ∧ (a3 = 0 → (RI fun a u' => (((Tx u o (mI u o 1) = 45 ∨ Tx u o (mI u o 1) = 43) ∧ fig (Tx u o (mI u o 1 + 1))) ∧ ¬ a = 0 ∧ Rk o u u' (mI u o 1 + 1 + 1) (if Tx u o (mI u o 1) = 45 then -dg (Tx u o (mI u o 1 + 1)) else dg (Tx u o (mI u o 1 + 1)))) ∨ (¬ ((Tx u o (mI u o 1) = 45 ∨ Tx u o (mI u o 1) = 43) ∧ fig (Tx u o (mI u o 1 + 1))) ∧ a = 0 ∧ ∃ p b, 0 ≤ p ∧ Rk o u u' p b)) (some (.int 0)) u3))) := by
    intro v c s _ hs h9 ho hv k hk
    have p1 := nx r hs h9
    have rv := hv.ro r p1
    obtain ⟨t1, t2⟩ := hv.tx r
    refine kI (x_num1 rv (by decide)) (fun a3 v3 h => ?_)
    rw [t1, hv.2.2.1] at h
    rcases h with ⟨g, rk, hi⟩ | ⟨g, a0, rk⟩
    · have d0 : 0 ≤ dg (Tx u o (mI u o 1 + 1)) := by unfold dg; have := g.1; have := g.2; grind
      have ss : Tx u o (mI u o 1) = 45 ∨ Tx u o (mI u o 1) = 43 := by rw [hs]; exact ho
      refine ⟨fun _ => ⟨fun k0 => ⟨_, rfl, .inl ⟨⟨ss, g⟩, by decide, ?_⟩⟩, fun k0 => ⟨_, rfl, .inl ⟨⟨ss, g⟩, by decide, ?_⟩⟩⟩, fun z => absurd z (hi.mpr d0)⟩
      · rw [if_neg (by rw [hs]; exact hk.mp k0), rk.2.2.2]; exact (hv.tr rk).p2
      · rw [if_pos (by rw [hs]; exact Decidable.not_not.mp (fun z => k0 (hk.mpr z))), rk.2.2.2]; exact (hv.tr rk).p2
    · exact ⟨fun z => absurd a0 z, fun _ => ⟨_, rfl, .inr ⟨fun z => g z.2, rfl, _, _, p1, hv.tr rk⟩⟩⟩
  refine sg_Rd_readStep_0 r.1 (kI (x_passes r (c := 45) (by decide) (by decide)) (fun a v h => ?_))
  rcases h with ⟨e, a1, rk⟩ | ⟨e, a0, rfl⟩
  · exact ⟨fun _ => fin v a 45 a1 e (by decide) (.inl rfl) rk a ⟨fun z => absurd z a1, fun z => absurd rfl z⟩, fun z => absurd z a1⟩
  · refine ⟨fun z => absurd a0 z, fun _ => kI (x_passes r (c := 43) (by decide) (by decide)) (fun b v2 h2 => ?_)⟩
    rcases h2 with ⟨e2, b1, rk⟩ | ⟨e2, b0, rfl⟩
    · exact ⟨fun z => absurd z b1, fun _ => fin v2 b 43 b1 e2 (by decide) (.inr rfl) rk a ⟨fun _ => by decide, fun _ => a0⟩⟩
    · exact ⟨fun _ => ⟨_, rfl, .inr ⟨fun z => z.1.elim e e2, rfl, _, _, p0, Rk.rf⟩⟩, fun z => absurd b0 z⟩
theorem x_isFirst {o : Nat} {x1 : Int32} {l : List Sh5} (k0 : okS o 2) (hl : PlL u o l) : Ws G Pl_isFirstDoor 0 [(0, .ref o), (1, .int x1)] [] u (RI fun a u' => u' = u ∧ (¬ a = 0 ↔ toldL l x1 = true)) := by
  have ln : (Int32.ofNat l.length).toNatClampNeg = l.length := Int32.toNatClampNeg_ofNat_of_lt (by have := hl.2.1; omega)
  have key : ∀ x, 0 ≤ x → (∀ s, s < x.toNatClampNeg → s < l.length → ¬ mI u (R0 (o + 1) s) 1 = x1) → Ws G Pl_isFirstDoor 2 [(0, .ref o), (1, .int x1), (2, .int x)] [] u (RI fun a u' => u' = u ∧ (¬ a = 0 ↔ toldL l x1 = true)) := by
    refine upI (mI u o 1) _ (fun x ih h0 hn => ?_)
    refine sg_Pl_isFirstDoor_2 k0 ⟨fun c => ⟨_, rfl, rfl, fun z => absurd rfl z, fun z => ?_⟩, fun c => ?_⟩
    · rw [hl.1] at c
      have cl := tn_le c
      rw [ln] at cl
      obtain ⟨s, hs, e⟩ := List.any_eq_true.mp z
      obtain ⟨i, hi, rfl⟩ := List.getElem_of_mem hs
      have g := hl.2.2 i hi
      rw [List.getElem?_eq_getElem hi] at g
      rw [Option.some.inj g] at e
      exact absurd (by simpa [shC] using e) (hn i (by omega) hi)
    · rw [hl.1] at c
      have xl : x.toNatClampNeg < l.length := by
        have := tn_lt h0 (Int32.not_le.mp c)
        rw [ln] at this; exact this
      have x7 : x < 7 := by
        have := Int32.not_le.mp c
        have e : Int32.ofNat l.length ≤ 7 := by
          apply Int32.le_iff_toInt_le.mpr
          have p : (Int32.ofNat l.length).toInt = l.length := nI_toInt (by have := hl.2.1; omega)
          have d : (7 : Int32).toInt = 7 := by decide
          have := hl.2.1
          omega
        grind
      have so : shO u o x = R0 (o + 1) x.toNatClampNeg := by
        unfold shO
        rw [if_pos ⟨h0, by rw [hl.1]; exact Int32.not_le.mp c, x7⟩]
      rw [so]
      refine ⟨fun d => ih (by rw [hl.1]; exact c) (by grind) (fun s hs hl' => ?_), fun d => ⟨_, rfl, rfl, fun _ => ?_, fun _ => by decide⟩⟩
      · rw [tn_succ h0 c] at hs
        by_cases e : s = x.toNatClampNeg
        · rw [e]; exact d
        · exact hn s (by omega) hl'
      · have g := hl.2.2 _ xl
        exact List.any_eq_true.mpr ⟨_, List.mem_of_getElem? g, by simp [shC, d]⟩
  exact sg_Pl_isFirstDoor_0 k0 (key 0 (by decide) (fun s hs => by have e : (0 : Int32).toNatClampNeg = 0 := (by decide); omega))
end RDX
