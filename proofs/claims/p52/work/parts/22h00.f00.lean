/-! ===== what was found: words ===== -/
noncomputable def cI (p : Prop) (a b : Int32) : Int32 := @ite Int32 p (Classical.propDecidable p) a b
theorem cI_t {p : Prop} {a b : Int32} (h : p) : cI p a b = a := by unfold cI; exact if_pos h
theorem cI_f {p : Prop} {a b : Int32} (h : ¬ p) : cI p a b = b := by unfold cI; exact if_neg h
theorem cI_n {p : Prop} {a : Int32} (h : cI p a 0 = 0) (ha : ¬ a = 0) : ¬ p := fun q => ha ((cI_t q).symm.trans h)
theorem cI_p {p : Prop} {a : Int32} (h : ¬ cI p a 0 = 0) : p := by
  by_cases q : p
  · exact q
  · exact absurd (cI_f q) h
theorem cI_cg {p q : Prop} {a b : Int32} (h : p ↔ q) : cI p a b = cI q a b := by rw [propext h]
theorem fp15 {L : List Nat} {u v : pM} (h : Fp L u v) (h1 : 315 ∉ L) : mI v 2 15 = mI u 2 15 := h 2 15 (by rw [show cd 2 15 = 315 by decide]; exact h1)
theorem fp21 {L : List Nat} {u v : pM} {k : Nat} (h : Fp L u v) (h1 : 21 ∉ L) : mI v 21 k = mI u 21 k := h 21 k (by rw [cd_n (by decide)]; exact h1)
theorem fp77 {L : List Nat} {u v : pM} {k : Nat} (h : Fp L u v) (h1 : 77 ∉ L) : mI v 77 k = mI u 77 k := h 77 k (by rw [cd_n (by decide)]; exact h1)
theorem fp760 {L : List Nat} {u v : pM} (h : Fp L u v) (h1 : 200 ∉ L) : mI v 76 0 = mI u 76 0 := h 76 0 (by rw [show cd 76 0 = 200 by decide]; exact h1)
theorem Cl.lif {L L' : List Nat} {u v : pM} (h : Cl L u v) (hL : ∀ x ∈ L, x ∈ L') : Cl L' u v := ⟨h.1, h.2.1, h.2.2.1.mono hL, fun z => h.2.2.2 (fun y => z (hL _ y))⟩
theorem Cq.lif {L L' : List Nat} {u v : pM} (h : Cq L u v) (hL : ∀ x ∈ L, x ∈ L') : Cq L' u v := ⟨h.1, h.2.1, h.2.2.mono hL⟩
def fnC (u v : pM) (f : Int32) : Prop := mI v 2 15 = f ∧ ∀ k, mI v 21 k = if k = f.toNatClampNeg then mI u 21 k + 1 else mI u 21 k
def fnM (u v : pM) (f : Int32) : Prop := mI v 76 0 = f ∧ ∀ k, mI v 77 k = if k = f.toNatClampNeg then mI u 77 k + 1 else mI u 77 k
def fdC (u v : pM) (f : Int32) : Prop := Cl (qB ++ qF) u v ∧ fnC u v f
def fdM (u v : pM) (f : Int32) : Prop := Mo (mB ++ mF) u v ∧ fnM u v f
def fO (f : Int32) (K D : Prop) : Prop := (f = 0 ∧ K) ∨ (¬ f = 0 ∧ D)
theorem fnC.d {u v : pM} {f : Int32} (hf : 1 ≤ f ∧ f ≤ 5) (e1 : ∀ k, mI v 21 k = mI u 21 k) : fnC u (dF v f) f := by
  unfold dF
  rw [if_pos hf]
  refine ⟨by rw [mI_ne (by decide), mI_eq], fun k => ?_⟩
  by_cases e : k = f.toNatClampNeg
  · rw [if_pos e, e, mI_eq, mI_ne (by decide), e1]
  · rw [if_neg e, mI_nk e, mI_ne (by decide), e1]
theorem fnM.d {u v : pM} {f : Int32} (e1 : ∀ k, mI v 77 k = mI u 77 k) : fnM u (mt v f) f := by
  unfold mt
  refine ⟨by rw [mI_ne (by decide), mI_eq], fun k => ?_⟩
  by_cases e : k = f.toNatClampNeg
  · rw [if_pos e, e, mI_eq, mI_ne (by decide), e1]
  · rw [if_neg e, mI_nk e, mI_ne (by decide), e1]
theorem fdC.d {u v : pM} {f : Int32} (h : Cq qB u v) (hC : InvC u) (hf : 1 ≤ f ∧ f ≤ 5) : fdC u (dF v f) f := ⟨(cq_dF (L := qB ++ qF) (h.lif (by decide)) (by decide)).cl hC, fnC.d hf (fun k => fp21 h.2.2 (by decide))⟩
theorem fdM.d {u v : pM} {f : Int32} (h : Mq mB u v) (hM : InvM u) : fdM u (mt v f) f := ⟨(Mq.tm (L := mB ++ mF) (h.up (by decide)) (by decide)).mo hM, fnM.d (fun k => fp77 h.2.2.1 (by decide))⟩
section FND
variable {G : pG} {M : pY} {pc : Nat} {l : pLo} {st : List Value} {u : pM}
theorem fcl {f g : Int32} (hC : InvC u) (e : f = g) (hf : 1 ≤ g ∧ g ≤ 5) : (RI fun _ u' => fdC u u' f) (some (.int (-3))) (dF u g) := ⟨_, rfl, by rw [e]; exact fdC.d Cq.rf hC hf⟩
theorem fml {f g : Int32} (hM : InvM u) (e : f = g) : (RI fun _ u' => fdM u u' f) (some (.int (-3))) (mt u g) := ⟨_, rfl, by rw [e]; exact fdM.d Mq.rf hM⟩
theorem foK {f : Int32} {v : pM} {L LF : List Nat} (hK : Cl L u v) (e : f = 0) (hL : ∀ x ∈ L, x ∈ LF) : Cl LF u v ∧ fO f (Cl L u v ∧ True) (fdC u v f) := ⟨hK.lif hL, .inl ⟨e, hK, trivial⟩⟩
theorem foD {f g : Int32} {w : pM} {K : Prop} {LF : List Nat} (hC : InvC u) (h : Cq qB u w) (e : f = g) (hf : 1 ≤ g ∧ g ≤ 5) (hF : ∀ x ∈ qB ++ qF, x ∈ LF) : Cl LF u (dF w g) ∧ fO f K (fdC u (dF w g) f) := by
  have q := fdC.d h hC hf
  refine ⟨q.1.lif hF, .inr ⟨fun z => ?_, by rw [e]; exact q⟩⟩
  rw [e] at z
  rw [z] at hf
  exact absurd hf.1 (by decide)
theorem foKM {f : Int32} {v : pM} {L LF : List Nat} (hK : Mo L u v) (e : f = 0) (hL : ∀ x ∈ L, x ∈ LF) : Mo LF u v ∧ fO f (Mo L u v ∧ True) (fdM u v f) := ⟨hK.up hL, .inl ⟨e, hK, trivial⟩⟩
theorem foDM {f g : Int32} {w : pM} {K : Prop} {LF : List Nat} (hM : InvM u) (h : Mq mB u w) (e : f = g) (hg : ¬ g = 0) (hF : ∀ x ∈ mB ++ mF, x ∈ LF) : Mo LF u (mt w g) ∧ fO f K (fdM u (mt w g) f) := by
  have q := fdM.d (f := g) h hM
  exact ⟨q.1.up hF, .inr ⟨fun z => hg (e.symm.trans z), by rw [e]; exact q⟩⟩
theorem wFC {f : Int32} {P : Int32 → pM → Prop} {L LF : List Nat} (h1 : f = 0 → Ws G M pc l st u (RI fun a u' => Cl L u u' ∧ P a u')) (h2 : ¬ f = 0 → Ws G M pc l st u (RI fun _ u' => fdC u u' f)) (hL : ∀ x ∈ L, x ∈ LF) (hF : ∀ x ∈ qB ++ qF, x ∈ LF) : Ws G M pc l st u (RI fun a u' => Cl LF u u' ∧ fO f (Cl L u u' ∧ P a u') (fdC u u' f)) := by
  by_cases z : f = 0
  · exact kI (h1 z) (fun a v h => ⟨h.1.lif hL, .inl ⟨z, h⟩⟩)
  · exact kI (h2 z) (fun a v h => ⟨h.1.lif hF, .inr ⟨z, h⟩⟩)
theorem wFM {f : Int32} {P : Int32 → pM → Prop} {L LF : List Nat} (h1 : f = 0 → Ws G M pc l st u (RI fun a u' => Mo L u u' ∧ P a u')) (h2 : ¬ f = 0 → Ws G M pc l st u (RI fun _ u' => fdM u u' f)) (hL : ∀ x ∈ L, x ∈ LF) (hF : ∀ x ∈ mB ++ mF, x ∈ LF) : Ws G M pc l st u (RI fun a u' => Mo LF u u' ∧ fO f (Mo L u u' ∧ P a u') (fdM u u' f)) := by
  by_cases z : f = 0
  · exact kI (h1 z) (fun a v h => ⟨h.1.up hL, .inl ⟨z, h⟩⟩)
  · exact kI (h2 z) (fun a v h => ⟨h.1.up hF, .inr ⟨z, h⟩⟩)
end FND
