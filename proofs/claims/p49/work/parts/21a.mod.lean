/-! ===== the Model ===== -/
section MOD
variable {G : pG} {u w : pM} {L : List Nat}
def tb (x : Int32) (i : Nat) : Bool := x.toBitVec.getLsbD i
def cnt (x : Int32) : Nat → Nat
  | 0 => 0
  | k + 1 => cnt x k + (tb x k).toNat
def okv (n : Nat) (v : Int32) : Prop := (n = 78 → v ≤ 40) ∧ (n = 81 → v ≤ 100) ∧ ((n = 84 ∨ n = 85 ∨ n = 86) → 0 ≤ v ∧ v < 30) ∧ (n = 88 → 0 ≤ v ∧ v ≤ 16777216)
def bOK (u : pM) : Prop := ∀ n k, okv n (mI u n k)
def wn (n k : Nat) : Prop := 76 ≤ n ∧ n ≠ 83 ∧ n ≠ 87 ∧ ¬ (n = 76 ∧ (k = 10 ∨ k = 11 ∨ k = 19 ∨ k = 28))
abbrev mLg : List Nat := [203, 204]
abbrev mB : List Nat := [200, 77, 202, 80, 85, 86, 88, 89, 90, 91, 93, 94, 231, 232, 213, 214, 215, 216, 183]
abbrev mRw : List Nat := [78, 79]
abbrev mTx : List Nat := [81, 82]
abbrev mNw : List Nat := [218, 219, 84]
abbrev mKp : List Nat := [87]
abbrev mJn : List Nat := [92, 228]
abbrev mPl : List Nat := [210, 211, 83]
abbrev mFd : List Nat := [200, 201, 202, 203, 204, 205, 206, 207, 208, 209, 210, 211, 212, 213, 214, 215, 216, 217, 218, 219, 220, 221, 222, 223, 224, 225, 226, 227, 228, 229, 230, 231, 232, 233]
theorem cd_76 (k : Nat) : cd 76 k ∈ mFd := by
  by_cases h : k < 33
  · rw [cd_m h]; exact (show ∀ k, k < 33 → 200 + k ∈ mFd from by decide) k h
  · have : cd 76 k = 233 := by unfold cd; rw [if_pos rfl, if_neg h]
    rw [this]; decide
def Mq (L : List Nat) (u u' : pM) : Prop := (∀ n k, ¬ wn n k → mI u' n k = mI u n k) ∧ (bOK u → bOK u') ∧ Fp L u u' ∧ mR u' = mR u
def shK (u : pM) : Prop := ∀ s : Int32, 0 ≤ s → s < mI u 76 11 → 3 ≤ mI u 83 (5 * s + 0 : Int32).toNatClampNeg → ¬ mI u 83 (5 * s + 4 : Int32).toNatClampNeg = 0
def kpK (u : pM) : Prop := ∀ k : Int32, 0 ≤ k → k ≤ 2 → (¬ mI u 87 (10 * k : Int32).toNatClampNeg = -9 → cnt (mI u 87 (10 * k + 1 : Int32).toNatClampNeg) (mI u 76 10).toNatClampNeg ≤ 3) ∧ ∀ s : Int32, 0 ≤ s → s < 7 → 0 ≤ mI u 87 (10 * k + 2 + s : Int32).toNatClampNeg ∧ mI u 87 (10 * k + 2 + s : Int32).toNatClampNeg < 30
def szK (u : pM) : Prop := (mI u 76 10 = 0 ∧ mI u 76 11 = 0) ∨ (10 ≤ mI u 76 10 ∧ mI u 76 10 ≤ 30 ∧ 0 ≤ mI u 76 11 ∧ mI u 76 11 ≤ 7)
def InvM (u : pM) : Prop := bOK u ∧ szK u ∧ shK u ∧ cnt (mI u 76 19) (mI u 76 10).toNatClampNeg ≤ 3 ∧ kpK u ∧ 0 ≤ mI u 76 28 ∧ mI u 76 28 ≤ 12
def Mo (L : List Nat) (u u' : pM) : Prop := InvM u' ∧ (∀ n k, n < 76 → mI u' n k = mI u n k) ∧ Fp L u u' ∧ mR u' = mR u
theorem wn_f {k : Nat} (h : k = 10 ∨ k = 11 ∨ k = 19 ∨ k = 28) : ¬ wn 76 k := fun q => q.2.2.2 ⟨rfl, h⟩
theorem Mq.rf : Mq L u u := ⟨fun _ _ _ => rfl, fun h => h, Fp.rf, rfl⟩
theorem Mq.tr {v : pM} {L' : List Nat} (h : Mq L u v) (h2 : Mq L' v w) (hL : ∀ x ∈ L', x ∈ L := by decide) : Mq L u w := ⟨fun n k q => (h2.1 n k q).trans (h.1 n k q), fun q => h2.2.1 (h.2.1 q), h.2.2.1.tr (h2.2.2.1.mono hL), h2.2.2.2.trans h.2.2.2⟩
theorem Mq.up {L' : List Nat} (h : Mq L' u w) (hL : ∀ x ∈ L', x ∈ L := by decide) : Mq L u w := ⟨h.1, h.2.1, h.2.2.1.mono hL, h.2.2.2⟩
theorem Mq.n (h : Mq L u w) : mI w 76 10 = mI u 76 10 := h.1 _ _ (wn_f (by decide))
theorem Mq.m (h : Mq L u w) : mI w 76 11 = mI u 76 11 := h.1 _ _ (wn_f (by decide))
theorem Mq.s (h : Mq L u w) : mI w 76 19 = mI u 76 19 := h.1 _ _ (wn_f (by decide))
theorem Mq.o (h : Mq L u w) : mI w 76 28 = mI u 76 28 := h.1 _ _ (wn_f (by decide))
theorem Mq.sh (h : Mq L u w) (k : Nat) : mI w 83 k = mI u 83 k := h.1 _ _ (fun q => q.2.1 rfl)
theorem Mq.kp (h : Mq L u w) (k : Nat) : mI w 87 k = mI u 87 k := h.1 _ _ (fun q => q.2.2.1 rfl)
theorem Mq.inv (h : Mq L u w) (hM : InvM u) : InvM w := by
  obtain ⟨a, b, c, d, e, f⟩ := hM
  refine ⟨h.2.1 a, ?_, ?_, ?_, ?_, ?_⟩
  · unfold szK at *; rw [h.n, h.m]; exact b
  · unfold shK at *; rw [h.m]; intro s; rw [h.sh, h.sh]; exact c s
  · rw [h.s, h.n]; exact d
  · unfold kpK at *; rw [h.n]; intro k; rw [h.kp, h.kp]; intro k0 k2; exact ⟨(e k k0 k2).1, fun s => by rw [h.kp]; exact (e k k0 k2).2 s⟩
  · rw [h.o]; exact f
theorem Mq.mo (h : Mq L u w) (hM : InvM u) : Mo L u w := ⟨h.inv hM, fun n k q => h.1 n k (fun z => by have := z.1; omega), h.2.2.1, h.2.2.2⟩
theorem Mo.rf (hM : InvM u) : Mo L u u := ⟨hM, fun _ _ _ => rfl, Fp.rf, rfl⟩
theorem Mo.tr {v : pM} (h : Mo L u v) (h2 : Mo L v w) : Mo L u w := ⟨h2.1, fun n k q => (h2.2.1 n k q).trans (h.2.1 n k q), h.2.2.1.tr h2.2.2.1, h2.2.2.2.trans h.2.2.2⟩
theorem Mo.up {L' : List Nat} (h : Mo L' u w) (hL : ∀ x ∈ L', x ∈ L := by decide) : Mo L u w := ⟨h.1, h.2.1, h.2.2.1.mono hL, h.2.2.2⟩
theorem Mo.fp (h : Mo L u w) : Fp L u w := h.2.2.1
theorem Mq.fp (h : Mq L u w) : Fp L u w := h.2.2.1
theorem Mo.mq {v : pM} {L' : List Nat} (h : Mo L u v) (h2 : Mq L' v w) (hL : ∀ x ∈ L', x ∈ L := by decide) : Mo L u w := h.tr ((h2.mo h.1).up hL)
theorem bOK.wI {n k : Nat} {v : Int32} (h : bOK u) (hv : okv n v) : bOK (pI u n k v) := fun a b => by
  show okv a (up2 (mI u) n k v a b)
  unfold up2
  split
  · rename_i c; rw [c.1]; exact hv
  · exact h a b
theorem Mq.wI {n k : Nat} {v : Int32} (h : Mq L u w) (hw : wn n k) (hv : okv n v) (hm : cd n k ∈ L) : Mq L u (pI w n k v) := ⟨fun a b q => by
  show up2 (mI w) n k v a b = _
  rw [up2, if_neg (fun z => q (by rw [z.1, z.2]; exact hw))]
  exact h.1 a b q, fun q => (h.2.1 q).wI hv, h.2.2.1.pI hm, h.2.2.2⟩
theorem Mq.wL {n k : Nat} {v : Int64} (h : Mq L u w) (hm : cd n k ∈ L) : Mq L u (pL w n k v) := ⟨h.1, h.2.1, h.2.2.1.pL hm, h.2.2.2⟩
theorem Mq.pA {n k : Nat} {v : Int32} (h : Mq L u w) (hn : 76 < n ∧ n ≠ 83 ∧ n ≠ 87 ∧ n ≠ 78 ∧ n ≠ 81 ∧ n ≠ 84 ∧ n ≠ 85 ∧ n ≠ 86 ∧ n ≠ 88 ∧ n ∈ L) : Mq L u (pI w n k v) := h.wI ⟨by omega, hn.2.1, hn.2.2.1, fun z => by omega⟩ ⟨fun z => by omega, fun z => by omega, fun z => by omega, fun z => by omega⟩ (by rw [cd_n ⟨by omega, by omega, by omega⟩]; exact hn.2.2.2.2.2.2.2.2.2)
theorem Mq.pF {k : Nat} {v : Int32} (h : Mq L u w) (hk : k ≠ 10 ∧ k ≠ 11 ∧ k ≠ 19 ∧ k ≠ 28 ∧ k < 33 ∧ 200 + k ∈ L) : Mq L u (pI w 76 k v) := h.wI ⟨by decide, by decide, by decide, fun z => by omega⟩ ⟨fun z => by omega, fun z => by omega, fun z => by omega, fun z => by omega⟩ (by rw [cd_m hk.2.2.2.2.1]; exact hk.2.2.2.2.2)
theorem Mq.pD {n k : Nat} {v : Int32} (h : Mq L u w) (hn : n = 84 ∨ n = 85 ∨ n = 86) (hv : 0 ≤ v ∧ v < 30) (hm : n ∈ L := by decide) : Mq L u (pI w n k v) := h.wI ⟨by omega, by omega, by omega, fun z => by omega⟩ ⟨fun z => by omega, fun z => by omega, fun z => hv, fun z => by omega⟩ (by rw [cd_n ⟨by omega, by omega, by omega⟩]; exact hm)
theorem Mq.p78 {k : Nat} {v : Int32} (h : Mq L u w) (hv : v ≤ 40) (hm : 78 ∈ L := by decide) : Mq L u (pI w 78 k v) := h.wI ⟨by decide, by decide, by decide, fun z => by omega⟩ ⟨fun z => hv, fun z => by omega, fun z => by omega, fun z => by omega⟩ hm
theorem Mq.p81 {k : Nat} {v : Int32} (h : Mq L u w) (hv : v ≤ 100) (hm : 81 ∈ L := by decide) : Mq L u (pI w 81 k v) := h.wI ⟨by decide, by decide, by decide, fun z => by omega⟩ ⟨fun z => by omega, fun z => hv, fun z => by omega, fun z => by omega⟩ hm
theorem Mq.p88 {k : Nat} {v : Int32} (h : Mq L u w) (hv : 0 ≤ v ∧ v ≤ 16777216) (hm : 88 ∈ L := by decide) : Mq L u (pI w 88 k v) := h.wI ⟨by decide, by decide, by decide, fun z => by omega⟩ ⟨fun z => by omega, fun z => by omega, fun z => by omega, fun z => hv⟩ hm
theorem Mq.tm {f : Int32} (h : Mq L u w) (hm : 200 ∈ L ∧ 77 ∈ L := by decide) : Mq L u (mt w f) := (h.pF ⟨by decide, by decide, by decide, by decide, by decide, hm.1⟩).pA ⟨by decide, by decide, by decide, by decide, by decide, by decide, by decide, by decide, by decide, hm.2⟩
theorem InvM.b78 (h : InvM u) (k : Nat) : mI u 78 k ≤ 40 := (h.1 78 k).1 rfl
theorem InvM.b81 (h : InvM u) (k : Nat) : mI u 81 k ≤ 100 := (h.1 81 k).2.1 rfl
theorem InvM.b84 (h : InvM u) (k : Nat) : 0 ≤ mI u 84 k ∧ mI u 84 k < 30 := (h.1 84 k).2.2.1 (.inl rfl)
theorem InvM.b85 (h : InvM u) (k : Nat) : 0 ≤ mI u 85 k ∧ mI u 85 k < 30 := (h.1 85 k).2.2.1 (.inr (.inl rfl))
theorem InvM.b88 (h : InvM u) (k : Nat) : 0 ≤ mI u 88 k ∧ mI u 88 k ≤ 16777216 := (h.1 88 k).2.2.2 rfl
theorem InvM.m7 (h : InvM u) : 0 ≤ mI u 76 11 ∧ mI u 76 11 ≤ 7 := by
  rcases h.2.1 with ⟨_, b⟩ | ⟨_, _, c⟩
  · rw [b]; decide
  · exact c
theorem InvM.n30 (h : InvM u) : 0 ≤ mI u 76 10 ∧ mI u 76 10 ≤ 30 := by
  rcases h.2.1 with ⟨b, _⟩ | ⟨a, b, _⟩
  · rw [b]; decide
  · exact ⟨by grind, b⟩
theorem InvM.n10 (h : InvM u) {s : Int32} (h0 : 0 ≤ s) (h1 : s < mI u 76 11) : 10 ≤ mI u 76 10 ∧ mI u 76 10 ≤ 30 := by
  rcases h.2.1 with ⟨_, b⟩ | ⟨a, b, _⟩
  · rw [b] at h1; grind
  · exact ⟨a, b⟩
theorem lfM {e : Int32} (hM : InvM u) (h : Mq L u w) : (RI fun _ u' => Mo L u u') (some (.int e)) w := ⟨e, rfl, h.mo hM⟩
theorem kVm {M : pY} {pc : Nat} {l : pLo} {st : List Value} {P' : pM → Prop} {L' : List Nat} (h : Ws G M pc l st w (RV fun u' => Mq L' w u')) (hq : Mq L u w) (k : ∀ v, Mq L u v → P' v) (hL : ∀ x ∈ L', x ∈ L := by decide) : Ws G M pc l st w (RV P') := kV h (fun v e => k v (hq.tr e hL))
theorem kIm {M : pY} {pc : Nat} {l : pLo} {st : List Value} {P' : Int32 → pM → Prop} {L' : List Nat} (h : Ws G M pc l st w (RI fun _ u' => Mq L' w u')) (hq : Mq L u w) (k : ∀ a v, Mq L u v → P' a v) (hL : ∀ x ∈ L', x ∈ L := by decide) : Ws G M pc l st w (RI P') := kI h (fun a v e => k a v (hq.tr e hL))
theorem e_row {x1 x2 : Int32} : Ws G m_row 0 [(0, .ref 76), (1, .int x1), (2, .int x2)] [] u (RI fun x u' => rowV x1 x2 = x ∧ Mq (mB ++ mRw) u u') := by
  have key : 0 ≤ x1 ∧ x1 ≤ 5 → ∀ x v, 0 ≤ x → Mq (mB ++ mRw) u v → Ws G m_row 34 [(0, .ref 76), (1, .int x1), (2, .int x2), (3, .int x)] [] v (RI fun x u' => x2 = x ∧ Mq (mB ++ mRw) u u') := by
    intro h1
    refine upI 40 _ (fun x ih v h0 hq => ?_)
    exact sg_m_row_34 ⟨fun _ => ⟨_, rfl, rfl, hq⟩, fun c => ⟨vin (by grind) (show (_ : Int32) < 240 by grind) (by decide), ih c _ (by grind) (hq.pA (by decide))⟩⟩
  refine sg_m_row_0 ⟨fun a => ⟨fun b => ⟨fun c => ⟨vin a.1 (show (_ : Int32) < 6 by grind) (by decide), (key a 0 _ (by decide) (Mq.rf.p78 b)).mono ?_⟩, fun c => ⟨_, rfl, ?_, Mq.rf.tm⟩⟩, fun b => ⟨_, rfl, ?_, Mq.rf⟩⟩, fun a => ⟨_, rfl, ?_, Mq.rf⟩⟩
  · rintro r w _ ⟨x, rfl, e, h⟩
    exact ⟨x, rfl, by rw [rowV, if_pos (by grind), if_pos b, if_pos c]; exact e, h⟩
  · rw [rowV, if_pos (by grind), if_pos b, if_neg c]
  · rw [rowV, if_pos (by grind), if_neg b]
  · rw [rowV, if_neg (by grind)]
theorem e_askedRow {x1 : Int32} : Ws G m_askedRow 0 [(0, .ref 76), (1, .int x1)] [] u (RI fun a u' => Mq mB u u' ∧ (0 ≤ a → u' = u ∧ 0 ≤ x1 ∧ x1 ≤ 5 ∧ 0 ≤ mI u 78 (x1 : Int32).toNatClampNeg)) := by
  refine sg_m_askedRow_0 ⟨fun a => ⟨vin a.1 (show (_ : Int32) < 6 by grind) (by decide), fun b => ⟨_, rfl, Mq.rf, fun _ => ⟨rfl, a.1, a.2, b⟩⟩, fun _ => ⟨_, rfl, Mq.rf.tm, fun c => absurd c (by decide)⟩⟩, fun _ => ⟨_, rfl, Mq.rf, fun c => absurd c (by decide)⟩⟩
theorem e_askedText {x1 : Int32} : Ws G m_askedText 0 [(0, .ref 76), (1, .int x1)] [] u (RI fun a u' => Mq mB u u' ∧ (0 ≤ a → u' = u ∧ 0 ≤ x1 ∧ x1 ≤ 3 ∧ 0 ≤ mI u 81 (x1 : Int32).toNatClampNeg)) := by
  refine sg_m_askedText_0 ⟨fun a => ⟨vin a.1 (show (_ : Int32) < 4 by grind) (by decide), fun b => ⟨_, rfl, Mq.rf, fun _ => ⟨rfl, a.1, a.2, b⟩⟩, fun _ => ⟨_, rfl, Mq.rf.tm, fun c => absurd c (by decide)⟩⟩, fun _ => ⟨_, rfl, Mq.rf, fun c => absurd c (by decide)⟩⟩
theorem e_at {x1 x2 : Int32} (hM : InvM u) : Ws G m_at 0 [(0, .ref 76), (1, .int x1), (2, .int x2)] [] u (RI fun a u' => Mq mB u u' ∧ (0 ≤ a → 0 ≤ x1 ∧ x1 ≤ 5 ∧ 0 ≤ x2 ∧ x2 < 40)) := by
  refine sg_m_at_0 (kI e_askedRow (fun a v h => ⟨fun c => ?_, fun c => ⟨_, rfl, h.1.up, fun z => absurd z c⟩⟩))
  obtain ⟨rfl, r0, r5, s0⟩ := h.2 c
  have b := hM.b78 (x1 : Int32).toNatClampNeg
  refine ⟨vin r0 (show (_ : Int32) < 6 by grind) (by decide), fun d => ⟨vin (by grind) (show (_ : Int32) < 240 by grind) (by decide), _, rfl, Mq.rf.pF (by decide), fun _ => ⟨r0, r5, d.1, by grind⟩⟩, fun _ => ⟨_, rfl, Mq.rf.tm, fun z => absurd z (by decide)⟩⟩
theorem e_mean {x1 : Int32} (hM : InvM u) : Ws G m_mean 0 [(0, .ref 76), (1, .int x1)] [] u (RI fun _ u' => Mo mB u u') := by
  refine sg_m_mean_0 (kI e_askedRow (fun a v h => ⟨fun c => ?_, fun c => lfM hM h.1.up⟩))
  obtain ⟨rfl, r0, r5, s0⟩ := h.2 c
  have b := hM.b78 (x1 : Int32).toNatClampNeg
  have hv : vp_in x1 6 := vin r0 (show (_ : Int32) < 6 by grind) (by decide)
  have key : ∀ x (y : Int64), 0 ≤ x → Ws G m_mean 17 [(0, .ref 76), (1, .int x1), (3, .long y), (5, .int x)] [] v (RI fun _ u' => Mo mB v u') := by
    refine upI (mI v 78 (x1 : Int32).toNatClampNeg) _ (fun x ih y h0 => ?_)
    refine sg_m_mean_17 ⟨hv, fun _ => ⟨hv, fun z => ⟨hv, i64_ne (by grind), lfM hM (Mq.rf.pF (by decide))⟩, fun _ => lfM hM (Mq.rf.tm)⟩, fun c => ⟨vin (by grind) (show (_ : Int32) < 240 by grind) (by decide), ih c _ (by grind)⟩⟩
  exact key 0 0 (by decide)
end MOD
