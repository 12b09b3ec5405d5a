/-! ===== the class reads a text ===== -/
def Tx (u : pM) (o : Nat) : Int32 → Int32 := sgT (mI u (mR u o 0) 1) (mI u (mR u o 0 + 1))
def Tn (u : pM) (o : Nat) : Int32 := mI u (mR u o 0) 1
/-- the Reader o stands, its text too -/
def RO (u : pM) (o : Nat) : Prop := okS o 3 ∧ okS (mR u o 0) 6 ∧ Tn u o ≤ Int32.ofNat (S0 (mR u o 0 + 1)).2 ∧ Tn u o ≤ 100 ∧ 0 ≤ mI u o 1
def Rk (o : Nat) (u u' : pM) (p v : Int32) : Prop := (∀ n k, ¬ (n = o ∧ (k = 1 ∨ k = 2)) → mI u' n k = mI u n k) ∧ mRQ u' = mRQ u ∧ mI u' o 1 = p ∧ mI u' o 2 = v
theorem ne_3_6 {o t : Nat} (h : okS o 3) (ht : okS t 6) : t ≠ o ∧ t + 1 ≠ o := by
  refine ⟨fun e => ?_, fun e => ?_⟩
  · rw [e] at ht; have := ht.2.2; rw [h.2.2] at this; exact absurd this (by decide)
  · have q := os_6_0 ht
    rw [e] at q; have := q.2.2; rw [h.2.2] at this; exact absurd this (by decide)
theorem Rk.rf {o : Nat} {u : pM} : Rk o u u (mI u o 1) (mI u o 2) := ⟨fun _ _ _ => rfl, rfl, rfl, rfl⟩
theorem Rk.tr {o : Nat} {u v w : pM} {p q a b : Int32} (h : Rk o u v p a) (h2 : Rk o v w q b) : Rk o u w q b := ⟨fun n k z => (h2.1 n k z).trans (h.1 n k z), h2.2.1.trans h.2.1, h2.2.2.1, h2.2.2.2⟩
theorem Rk.p1 {o : Nat} {u v : pM} {p a x : Int32} (h : Rk o u v p a) : Rk o u (pI v o 1 x) x a := ⟨fun n k z => by
  show up2 (mI v) o 1 x n k = _
  rw [up2, if_neg (fun q => z ⟨q.1, .inl q.2⟩)]
  exact h.1 n k z, h.2.1, mI_eq, by rw [mI_nk (by decide)]; exact h.2.2.2⟩
theorem Rk.p2 {o : Nat} {u v : pM} {p a x : Int32} (h : Rk o u v p a) : Rk o u (pI v o 2 x) p x := ⟨fun n k z => by
  show up2 (mI v) o 2 x n k = _
  rw [up2, if_neg (fun q => z ⟨q.1, .inr q.2⟩)]
  exact h.1 n k z, h.2.1, by rw [mI_nk (by decide)]; exact h.2.2.1, mI_eq⟩
theorem Rk.tx {o : Nat} {u v : pM} {p a : Int32} (h : Rk o u v p a) (r : RO u o) : Tx v o = Tx u o ∧ Tn v o = Tn u o := by
  have n := ne_3_6 r.1 r.2.1
  have e1 : mI v (mR u o 0) = mI u (mR u o 0) := by funext k; exact h.1 _ _ (fun z => n.1 z.1)
  have e2 : mI v (mR u o 0 + 1) = mI u (mR u o 0 + 1) := by funext k; exact h.1 _ _ (fun z => n.2 z.1)
  unfold Tx Tn
  rw [mRQ_r h.2.1, e1, e2]
  exact ⟨rfl, rfl⟩
theorem Rk.ro {o : Nat} {u v : pM} {p a : Int32} (h : Rk o u v p a) (r : RO u o) (hp : 0 ≤ p) : RO v o := by
  have t := (h.tx r).2
  refine ⟨r.1, by rw [mRQ_r h.2.1]; exact r.2.1, by rw [t, mRQ_r h.2.1]; exact r.2.2.1, by rw [t]; exact r.2.2.2.1, by rw [h.2.2.1]; exact hp⟩
theorem Rk.cq {L : List Nat} {o : Nat} {u v : pM} {p a : Int32} (h : Rk o u v p a) (k0 : okS o 3) (m : o ∈ L) : Cq L u v := ⟨fun n k q => h.1 n k (fun z => q (by rw [z.1]; exact wr_3 k0)), mRQ_r h.2.1, ⟨fun n k q => h.1 n k (fun z => q (by rw [z.1]; exact m_3 m k0)), (mRQ_l h.2.1).lk⟩⟩
theorem sp_T {u : pM} {o : Nat} {x : Int32} (r : RO u o) : spG u (mR u o 0) x = (if 0 ≤ x ∧ x < Tn u o then Tx u o x else 0) := by
  have h := r.2.2.1
  unfold spG Tx sgT
  by_cases c : 0 ≤ x ∧ x < Tn u o
  · have c3 : 0 ≤ x ∧ x < mI u (mR u o 0) 1 ∧ x < Int32.ofNat (S0 (mR u o 0 + 1)).2 := ⟨c.1, c.2, Int32.lt_of_lt_of_le c.2 h⟩
    rw [if_pos c, if_pos c3, if_pos (show 0 ≤ x ∧ x < mI u (mR u o 0) 1 from c)]
  · rw [if_neg c, if_neg (fun z => c ⟨z.1, z.2.1⟩)]
theorem sp_c {u : pM} {o : Nat} {x c : Int32} (r : RO u o) (h0 : ¬ c = 0) (h9 : ¬ c = -9) : spG u (mR u o 0) x = c ↔ Tx u o x = c := by
  rw [sp_T r]
  by_cases q : 0 ≤ x ∧ x < Tn u o
  · rw [if_pos q]
  · rw [if_neg q]
    unfold Tx sgT
    rw [if_neg (show ¬ (0 ≤ x ∧ x < mI u (mR u o 0) 1) from q)]
    exact ⟨fun e => absurd e.symm h0, fun e => absurd e.symm h9⟩
theorem sp_f {u : pM} {o : Nat} {x : Int32} (r : RO u o) : (48 ≤ spG u (mR u o 0) x ∧ spG u (mR u o 0) x ≤ 57) ↔ fig (Tx u o x) := by
  rw [sp_T r]
  by_cases q : 0 ≤ x ∧ x < Tn u o
  · rw [if_pos q]
  · rw [if_neg q]
    unfold Tx sgT
    rw [if_neg (show ¬ (0 ≤ x ∧ x < mI u (mR u o 0) 1) from q)]
    constructor <;> intro z <;> exact absurd z (by decide)
theorem tx_in {u : pM} {o : Nat} {x : Int32} (h : ¬ Tx u o x = -9) : 0 ≤ x ∧ x < Tn u o := sg_in h
theorem fig_in {u : pM} {o : Nat} {x : Int32} (h : fig (Tx u o x)) : 0 ≤ x ∧ x < Tn u o := tx_in (fun e => by rw [e] at h; exact absurd h (by decide))
section RDX
variable {G : pG} {u : pM}
theorem x_skip {o : Nat} (r : RO u o) : Ws G Rd_skipBlanks 0 [(0, .ref o)] [] u (RV fun u' => Rk o u u' (sk (Tx u o) (Tn u o) (mI u o 1)) (mI u o 2)) := by
  have key : ∀ x v, mI v o 1 = x → 0 ≤ x → Rk o u v x (mI u o 2) → Ws G Rd_skipBlanks 0 [(0, .ref o)] [] v (RV fun u' => Rk o u u' (sk (Tx u o) (Tn u o) x) (mI u o 2)) := by
    refine upI (Tn u o) _ (fun x ih v hx h0 hq => ?_)
    have rv := hq.ro r h0
    obtain ⟨t1, t2⟩ := hq.tx r
    refine sg_Rd_skipBlanks_0 r.1 (fun k => ⟨fun c => ⟨rfl, ?_⟩, fun c => fun _ => ⟨fun d => ⟨rfl, ?_⟩, fun d => ?_⟩⟩)
    · have nb : ¬ Tx u o x = 32 := fun e => by
        have := tx_in (u := u) (o := o) (x := x) (by rw [e]; decide)
        have c' : Tn v o ≤ mI v o 1 := c
        rw [t2, hx] at c'
        exact absurd this.2 (Int32.not_lt.mpr c')
      rw [show sk (Tx u o) (Tn u o) x = x from sk_n nb]; exact hq
    · have nb : ¬ Tx u o x = 32 := fun e => d (by rw [hx]; exact (sp_c rv (by decide) (by decide)).mpr (by rw [t1]; exact e))
      rw [show sk (Tx u o) (Tn u o) x = x from sk_n nb]; exact hq
    · rw [hx] at d
      have b : Tx u o x = 32 := by rw [← t1]; exact (sp_c rv (by decide) (by decide)).mp d
      have i := tx_in (u := u) (o := o) (x := x) (by rw [b]; decide)
      rw [show sk (Tx u o) (Tn u o) x = sk (Tx u o) (Tn u o) (x + 1) from sk_b r.2.2.2.1 b, hx]
      have h9 := r.2.2.2.1
      exact ih (Int32.not_le.mpr i.2) _ mI_eq (by grind) hq.p1
  exact key _ u rfl r.2.2.2.2 Rk.rf
theorem x_passes {o : Nat} {c : Int32} (r : RO u o) (h0 : ¬ c = 0) (h9 : ¬ c = -9) : Ws G Rd_passes 0 [(0, .ref o), (1, .int c)] [] u (RI fun a u' => (Tx u o (mI u o 1) = c ∧ ¬ a = 0 ∧ Rk o u u' (mI u o 1 + 1) (mI u o 2)) ∨ (¬ Tx u o (mI u o 1) = c ∧ a = 0 ∧ u' = u)) := by
  refine sg_Rd_passes_0 r.1 ⟨fun d => ⟨_, rfl, .inr ⟨fun e => ?_, rfl, rfl⟩⟩, fun d _ => ⟨fun e => ⟨_, rfl, .inl ⟨(sp_c r h0 h9).mp e, by decide, Rk.rf.p1⟩⟩, fun e => ⟨_, rfl, .inr ⟨fun q => e ((sp_c r h0 h9).mpr q), rfl, rfl⟩⟩⟩⟩
  have := tx_in (u := u) (o := o) (x := mI u o 1) (by rw [e]; exact h9)
  exact absurd this.2 (Int32.not_lt.mpr d)
/-- a number of at most two figures -/
theorem x_num2 {o : Nat} {x1 x3 x4 : Int32} (r : RO u o) : Ws G Rd_readNumber 0 [(0, .ref o), (1, .int x1), (2, .int 2), (3, .int x3), (4, .int x4)] [] u (RI fun a u' => Rk o u u' (nm2 (Tx u o) (mI u o 1)).2.2 (nm2 (Tx u o) (mI u o 1)).2.1 ∧ (¬ a = 0 ↔ (x1 ≤ (nm2 (Tx u o) (mI u o 1)).1 ∧ x3 ≤ (nm2 (Tx u o) (mI u o 1)).2.1 ∧ (nm2 (Tx u o) (mI u o 1)).2.1 ≤ x4))) := by
  have fin : ∀ v (c n p : Int32), nm2 (Tx u o) (mI u o 1) = (c, n, p) → Rk o u v p n → (c < x1 → (RI fun a u' => Rk o u u' (nm2 (Tx u o) (mI u o 1)).2.2 (nm2 (Tx u o) (mI u o 1)).2.1 ∧ (¬ a = 0 ↔ (x1 ≤ (nm2 (Tx u o) (mI u o 1)).1 ∧ x3 ≤ (nm2 (Tx u o) (mI u o 1)).2.1 ∧ (nm2 (Tx u o) (mI u o 1)).2.1 ≤ x4))) (some (.int 0)) v) ∧ (¬ c < x1 → (mI v o 2 < x3 → (RI fun a u' => Rk o u u' (nm2 (Tx u o) (mI u o 1)).2.2 (nm2 (Tx u o) (mI u o 1)).2.1 ∧ (¬ a = 0 ↔ (x1 ≤ (nm2 (Tx u o) (mI u o 1)).1 ∧ x3 ≤ (nm2 (Tx u o) (mI u o 1)).2.1 ∧ (nm2 (Tx u o) (mI u o 1)).2.1 ≤ x4))) (some (.int 0)) v) ∧ (¬ mI v o 2 < x3 → (x4 < mI v o 2 → (RI fun a u' => Rk o u u' (nm2 (Tx u o) (mI u o 1)).2.2 (nm2 (Tx u o) (mI u o 1)).2.1 ∧ (¬ a = 0 ↔ (x1 ≤ (nm2 (Tx u o) (mI u o 1)).1 ∧ x3 ≤ (nm2 (Tx u o) (mI u o 1)).2.1 ∧ (nm2 (Tx u o) (mI u o 1)).2.1 ≤ x4))) (some (.int 0)) v) ∧ (¬ x4 < mI v o 2 → (RI fun a u' => Rk o u u' (nm2 (Tx u o) (mI u o 1)).2.2 (nm2 (Tx u o) (mI u o 1)).2.1 ∧ (¬ a = 0 ↔ (x1 ≤ (nm2 (Tx u o) (mI u o 1)).1 ∧ x3 ≤ (nm2 (Tx u o) (mI u o 1)).2.1 ∧ (nm2 (Tx u o) (mI u o 1)).2.1 ≤ x4))) (some (.int 1)) v))) := by
    intro v c n p e h
    rw [e, h.2.2.2]
    refine ⟨fun q => ⟨_, rfl, h, fun z => absurd rfl z, fun z => absurd q (Int32.not_lt.mpr z.1)⟩, fun a => ⟨fun q => ⟨_, rfl, h, fun z => absurd rfl z, fun z => absurd q (Int32.not_lt.mpr z.2.1)⟩, fun b => ⟨fun q => ⟨_, rfl, h, fun z => absurd rfl z, fun z => absurd q (Int32.not_lt.mpr z.2.2)⟩, fun d => ⟨_, rfl, h, fun _ => ⟨Int32.not_lt.mp a, Int32.not_lt.mp b, Int32.not_lt.mp d⟩, fun _ => by decide⟩⟩⟩⟩
  have e10 : ∀ c : Int32, 10 * 0 + c - 48 = dg c := fun c => by unfold dg; grind
  have r0 : Rk o u (pI u o 2 0) (mI u o 1) 0 := Rk.rf.p2
  have ro0 := r0.ro r r.2.2.2.2
  have t0 := (r0.tx r).1
  refine sg_Rd_readNumber_0 r.1 (sg_Rd_readNumber_8 r.1 ⟨fun q => absurd q (by decide), fun _ _ => ⟨fun f1 _ => ?_, fun f1 => ?_⟩⟩)
  · rw [r0.2.2.1] at f1 ⊢
    have g1 : fig (Tx u o (mI u o 1)) := by rw [← t0]; exact (sp_f ro0).mp f1
    have i1 := fig_in g1
    have s1 : spG (pI u o 2 0) (mR (pI u o 2 0) o 0) (mI u o 1) = Tx u o (mI u o 1) := by
      rw [sp_T ro0, (r0.tx r).2, if_pos i1, t0]
    rw [s1, r0.2.2.2, e10]
    have r1 : Rk o u (pI (pI (pI u o 2 0) o 2 (dg (Tx u o (mI u o 1)))) o 1 (mI (pI (pI u o 2 0) o 2 (dg (Tx u o (mI u o 1)))) o 1 + 1)) (mI u o 1 + 1) (dg (Tx u o (mI u o 1))) := by
      have := (r0.p2 (x := dg (Tx u o (mI u o 1)))).p1 (x := mI u o 1 + 1)
      rw [(r0.p2 (x := dg (Tx u o (mI u o 1)))).2.2.1]
      exact this
    have h100 := r.2.2.2.1
    have p1 : 0 ≤ mI u o 1 + 1 := by have := i1.1; have := i1.2; grind
    have ro1 := r1.ro r p1
    have t1 := (r1.tx r).1
    generalize pI (pI (pI u o 2 0) o 2 (dg (Tx u o (mI u o 1)))) o 1 (mI (pI (pI u o 2 0) o 2 (dg (Tx u o (mI u o 1)))) o 1 + 1) = v1 at r1 ro1 t1
    refine sg_Rd_readNumber_8 r.1 ⟨fun q => absurd q (by decide), fun _ _ => ⟨fun f2 _ => ?_, fun f2 => ?_⟩⟩
    · rw [r1.2.2.1] at f2 ⊢
      have g2 : fig (Tx u o (mI u o 1 + 1)) := by rw [← t1]; exact (sp_f ro1).mp f2
      have i2 := fig_in g2
      have s2 : spG v1 (mR v1 o 0) (mI u o 1 + 1) = Tx u o (mI u o 1 + 1) := by
        rw [sp_T ro1, (r1.tx r).2, if_pos i2, t1]
      have e2 : 10 * mI v1 o 2 + spG v1 (mR v1 o 0) (mI u o 1 + 1) - 48 = 10 * dg (Tx u o (mI u o 1)) + dg (Tx u o (mI u o 1 + 1)) := by
        rw [s2, r1.2.2.2]
        generalize dg (Tx u o (mI u o 1)) = z
        unfold dg; grind
      rw [e2]
      have r2 := (r1.p2 (x := 10 * dg (Tx u o (mI u o 1)) + dg (Tx u o (mI u o 1 + 1)))).p1 (x := mI u o 1 + 1 + 1)
      have e3 : mI (pI v1 o 2 (10 * dg (Tx u o (mI u o 1)) + dg (Tx u o (mI u o 1 + 1)))) o 1 + 1 = mI u o 1 + 1 + 1 := by rw [(r1.p2 (x := 10 * dg (Tx u o (mI u o 1)) + dg (Tx u o (mI u o 1 + 1)))).2.2.1]
      rw [e3]
      refine sg_Rd_readNumber_8 r.1 ⟨fun _ => fin _ (1 + 1) _ _ ?_ r2, fun q => absurd (by decide) q⟩
      unfold nm2; rw [if_pos g1, if_pos g2]; rfl
    · have n2 : ¬ fig (Tx u o (mI u o 1 + 1)) := fun q => f2 (by rw [r1.2.2.1]; exact (sp_f ro1).mpr (by rw [t1]; exact q))
      exact fin _ (0 + 1) _ _ (by unfold nm2; rw [if_pos g1, if_neg n2]; rfl) r1
  · have n1 : ¬ fig (Tx u o (mI u o 1)) := fun q => f1 (by rw [r0.2.2.1]; exact (sp_f ro0).mpr (by rw [t0]; exact q))
    exact fin _ 0 _ _ (by unfold nm2; rw [if_neg n1]) r0
/-- one figure -/
theorem x_num1 {o : Nat} {x3 : Int32} (r : RO u o) (h3 : 0 ≤ x3) : Ws G Rd_readNumber 0 [(0, .ref o), (1, .int 1), (2, .int 1), (3, .int x3), (4, .int 9)] [] u (RI fun a u' => (fig (Tx u o (mI u o 1)) ∧ Rk o u u' (mI u o 1 + 1) (dg (Tx u o (mI u o 1))) ∧ (¬ a = 0 ↔ x3 ≤ dg (Tx u o (mI u o 1)))) ∨ (¬ fig (Tx u o (mI u o 1)) ∧ a = 0 ∧ Rk o u u' (mI u o 1) 0)) := by
  have e10 : ∀ c : Int32, 10 * 0 + c - 48 = dg c := fun c => by unfold dg; grind
  have r0 : Rk o u (pI u o 2 0) (mI u o 1) 0 := Rk.rf.p2
  have ro0 := r0.ro r r.2.2.2.2
  have t0 := (r0.tx r).1
  refine sg_Rd_readNumber_0 r.1 (sg_Rd_readNumber_8 r.1 ⟨fun q => absurd q (by decide), fun _ _ => ⟨fun f1 _ => ?_, fun f1 => ?_⟩⟩)
  · rw [r0.2.2.1] at f1 ⊢
    have g1 : fig (Tx u o (mI u o 1)) := by rw [← t0]; exact (sp_f ro0).mp f1
    have i1 := fig_in g1
    have s1 : spG (pI u o 2 0) (mR (pI u o 2 0) o 0) (mI u o 1) = Tx u o (mI u o 1) := by
      rw [sp_T ro0, (r0.tx r).2, if_pos i1, t0]
    rw [s1, r0.2.2.2, e10]
    have r1 : Rk o u (pI (pI (pI u o 2 0) o 2 (dg (Tx u o (mI u o 1)))) o 1 (mI (pI (pI u o 2 0) o 2 (dg (Tx u o (mI u o 1)))) o 1 + 1)) (mI u o 1 + 1) (dg (Tx u o (mI u o 1))) := by
      have := (r0.p2 (x := dg (Tx u o (mI u o 1)))).p1 (x := mI u o 1 + 1)
      rw [(r0.p2 (x := dg (Tx u o (mI u o 1)))).2.2.1]
      exact this
    have d9 : dg (Tx u o (mI u o 1)) ≤ 9 := by unfold dg; have := g1.1; have := g1.2; grind
    refine sg_Rd_readNumber_8 r.1 ⟨fun _ => ⟨fun q => absurd q (by decide), fun _ => ?_⟩, fun q => absurd (by decide) q⟩
    rw [r1.2.2.2]
    exact ⟨fun q => ⟨_, rfl, .inl ⟨g1, r1, fun z => absurd rfl z, fun z => absurd q (Int32.not_lt.mpr z)⟩⟩, fun b => ⟨fun q => absurd q (Int32.not_lt.mpr d9), fun _ => ⟨_, rfl, .inl ⟨g1, r1, fun _ => Int32.not_lt.mp b, fun _ => by decide⟩⟩⟩⟩
  · have n1 : ¬ fig (Tx u o (mI u o 1)) := fun q => f1 (by rw [r0.2.2.1]; exact (sp_f ro0).mpr (by rw [t0]; exact q))
    exact ⟨fun _ => ⟨_, rfl, .inr ⟨n1, rfl, r0⟩⟩, fun q => absurd (by decide) q⟩
end RDX
