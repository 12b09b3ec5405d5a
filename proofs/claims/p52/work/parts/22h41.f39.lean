/-! ===== the calls that find, with what they found ===== -/
def szR (s t : Int32) : Prop := (¬ 0 ≤ s ∧ ¬ 0 ≤ t) ∨ (0 ≤ s ∧ s = t)
noncomputable def plG (p : Prop) (sz x2 : Int32) : Int32 := cI p (cI (0 ≤ sz) (cI (0 ≤ x2 ∧ x2 < sz) 0 2) 1) 0
noncomputable def meG (p : Prop) (sz : Int32) : Int32 := cI p (cI (0 ≤ sz) (cI (0 < sz) 0 4) 1) 0
noncomputable def copG (s1 s3 x1 x2 x3 x4 x5 : Int32) : Int32 := cI ((0 ≤ x1 ∧ x1 < 6) ∧ 0 ≤ x3 ∧ x3 < 6) (cI (0 ≤ x5) (cI (0 ≤ s1 ∧ 0 ≤ s3) (cI ((0 ≤ x2 ∧ x2 ≤ s1 - x5) ∧ 0 ≤ x4 ∧ x4 ≤ s3 - x5) 0 2) 1) 5) 0
noncomputable def gonG (n m sz x : Int32) (f : Nat → Int32) : Int32 := cI ((0 ≤ x ∧ x < 6) ∧ 0 < n) (gonI n m sz f) 0
noncomputable def renG (sz n m x1 x2 x3 : Int32) (f : Nat → Int32) : Int32 := cI (renK m x1 x2 x3) (pasV sz n f) 0
section FG
variable {p : Prop} {sz t x2 : Int32}
theorem plG_n (h : ¬ p) : plG p sz x2 = 0 := by unfold plG; rw [cI_f h]
theorem plG_1 (h : p) (b : ¬ 0 ≤ sz) : plG p sz x2 = 1 := by unfold plG; rw [cI_t h, cI_f b]
theorem plG_2 (h : p) (b : 0 ≤ sz) (c : ¬ (0 ≤ x2 ∧ x2 < sz)) : plG p sz x2 = 2 := by unfold plG; rw [cI_t h, cI_t b, cI_f c]
theorem plG_k (h : p) (b : 0 ≤ sz) (c : 0 ≤ x2 ∧ x2 < sz) : plG p sz x2 = 0 := by unfold plG; rw [cI_t h, cI_t b, cI_t c]
theorem plG_0 (e : plG p sz x2 = 0) (h : p) : 0 ≤ x2 ∧ x2 < sz := by
  by_cases b : 0 ≤ sz
  · by_cases c : 0 ≤ x2 ∧ x2 < sz
    · exact c
    · rw [plG_2 h b c] at e; exact absurd e (by decide)
  · rw [plG_1 h b] at e; exact absurd e (by decide)
theorem plG_cg (h : p → szR sz t) : plG p sz x2 = plG p t x2 := by
  by_cases k : p
  · rcases h k with ⟨a, b⟩ | ⟨_, rfl⟩
    · rw [plG_1 k a, plG_1 k b]
    · rfl
  · rw [plG_n k, plG_n k]
theorem meG_n (h : ¬ p) : meG p sz = 0 := by unfold meG; rw [cI_f h]
theorem meG_1 (h : p) (b : ¬ 0 ≤ sz) : meG p sz = 1 := by unfold meG; rw [cI_t h, cI_f b]
theorem meG_4 (h : p) (b : 0 ≤ sz) (c : ¬ 0 < sz) : meG p sz = 4 := by unfold meG; rw [cI_t h, cI_t b, cI_f c]
theorem meG_k (h : p) (b : 0 ≤ sz) (c : 0 < sz) : meG p sz = 0 := by unfold meG; rw [cI_t h, cI_t b, cI_t c]
theorem meG_cg (h : p → szR sz t) : meG p sz = meG p t := by
  by_cases k : p
  · rcases h k with ⟨a, b⟩ | ⟨_, rfl⟩
    · rw [meG_1 k a, meG_1 k b]
    · rfl
  · rw [meG_n k, meG_n k]
theorem noG_cg {c : Int32} (h : p → szR sz t) : cI (p ∧ ¬ 0 ≤ sz) c 0 = cI (p ∧ ¬ 0 ≤ t) c 0 := cI_cg ⟨fun z => ⟨z.1, by
  rcases h z.1 with ⟨_, b⟩ | ⟨_, b⟩
  · exact b
  · rw [← b]; exact z.2⟩, fun z => ⟨z.1, by
  rcases h z.1 with ⟨b, _⟩ | ⟨_, b⟩
  · exact b
  · rw [b]; exact z.2⟩⟩
end FG
section CG
variable {s1 s3 t1 t3 x1 x2 x3 x4 x5 : Int32}
theorem copG_n (h : ¬ ((0 ≤ x1 ∧ x1 < 6) ∧ 0 ≤ x3 ∧ x3 < 6)) : copG s1 s3 x1 x2 x3 x4 x5 = 0 := by unfold copG; exact cI_f h
theorem copG_5 (a : 0 ≤ x1 ∧ x1 < 6) (b : 0 ≤ x3 ∧ x3 < 6) (c : ¬ 0 ≤ x5) : copG s1 s3 x1 x2 x3 x4 x5 = 5 := by unfold copG; rw [cI_t (And.intro a b), cI_f c]
theorem copG_1 (a : 0 ≤ x1 ∧ x1 < 6) (b : 0 ≤ x3 ∧ x3 < 6) (c : 0 ≤ x5) (d : ¬ (0 ≤ s1 ∧ 0 ≤ s3)) : copG s1 s3 x1 x2 x3 x4 x5 = 1 := by unfold copG; rw [cI_t (And.intro a b), cI_t c, cI_f d]
theorem copG_2 (a : 0 ≤ x1 ∧ x1 < 6) (b : 0 ≤ x3 ∧ x3 < 6) (c : 0 ≤ x5) (d : 0 ≤ s1 ∧ 0 ≤ s3) (e : ¬ ((0 ≤ x2 ∧ x2 ≤ s1 - x5) ∧ 0 ≤ x4 ∧ x4 ≤ s3 - x5)) : copG s1 s3 x1 x2 x3 x4 x5 = 2 := by unfold copG; rw [cI_t (And.intro a b), cI_t c, cI_t d, cI_f e]
theorem copG_k (a : 0 ≤ x1 ∧ x1 < 6) (b : 0 ≤ x3 ∧ x3 < 6) (c : 0 ≤ x5) (d : 0 ≤ s1 ∧ 0 ≤ s3) (e : (0 ≤ x2 ∧ x2 ≤ s1 - x5) ∧ 0 ≤ x4 ∧ x4 ≤ s3 - x5) : copG s1 s3 x1 x2 x3 x4 x5 = 0 := by unfold copG; rw [cI_t (And.intro a b), cI_t c, cI_t d, cI_t e]
theorem copG_0 (h : copG s1 s3 x1 x2 x3 x4 x5 = 0) (a : 0 ≤ x1 ∧ x1 < 6) (b : 0 ≤ x3 ∧ x3 < 6) : 0 ≤ x5 ∧ 0 ≤ s1 ∧ 0 ≤ s3 ∧ (0 ≤ x2 ∧ x2 ≤ s1 - x5) ∧ 0 ≤ x4 ∧ x4 ≤ s3 - x5 := by
  by_cases c : 0 ≤ x5
  · by_cases d : 0 ≤ s1 ∧ 0 ≤ s3
    · by_cases e : (0 ≤ x2 ∧ x2 ≤ s1 - x5) ∧ 0 ≤ x4 ∧ x4 ≤ s3 - x5
      · exact ⟨c, d.1, d.2, e.1, e.2⟩
      · rw [copG_2 a b c d e] at h; exact absurd h (by decide)
    · rw [copG_1 a b c d] at h; exact absurd h (by decide)
  · rw [copG_5 a b c] at h; exact absurd h (by decide)
theorem copG_cg (h : (0 ≤ x1 ∧ x1 < 6) ∧ 0 ≤ x3 ∧ x3 < 6 → szR s1 t1 ∧ szR s3 t3) : copG s1 s3 x1 x2 x3 x4 x5 = copG t1 t3 x1 x2 x3 x4 x5 := by
  by_cases k : (0 ≤ x1 ∧ x1 < 6) ∧ 0 ≤ x3 ∧ x3 < 6
  · by_cases c : 0 ≤ x5
    · obtain ⟨r1, r3⟩ := h k
      rcases r1 with ⟨p, q⟩ | ⟨p, rfl⟩
      · exact (copG_1 k.1 k.2 c (fun z => p z.1)).trans (copG_1 k.1 k.2 c (fun z => q z.1)).symm
      · rcases r3 with ⟨p', q'⟩ | ⟨p', rfl⟩
        · exact (copG_1 k.1 k.2 c (fun z => p' z.2)).trans (copG_1 k.1 k.2 c (fun z => q' z.2)).symm
        · rfl
    · exact (copG_5 k.1 k.2 c).trans (copG_5 k.1 k.2 c).symm
  · exact (copG_n k).trans (copG_n k).symm
end CG
section GG
variable {n m sz t x : Int32} {f f' : Nat → Int32}
theorem gonG_n (h : ¬ ((0 ≤ x ∧ x < 6) ∧ 0 < n)) : gonG n m sz x f = 0 := by unfold gonG; rw [cI_f h]
theorem gonG_y (h : (0 ≤ x ∧ x < 6) ∧ 0 < n) : gonG n m sz x f = gonI n m sz f := by unfold gonG; rw [cI_t h]
theorem gonI_e (h : gonI n m sz f = 0) : sz = m + 2 ∧ imK n m f := by
  by_cases a : 0 ≤ sz
  · by_cases b : sz = m + 2
    · by_cases c : imK n m f
      · exact ⟨b, c⟩
      · rw [gonI_3 a b c] at h; exact absurd h (by decide)
    · rw [gonI_5 a b] at h; exact absurd h (by decide)
  · rw [gonI_1 a] at h; exact absurd h (by decide)
theorem gonI_r (h : ¬ gonI n m sz f = 0) : 1 ≤ gonI n m sz f ∧ gonI n m sz f ≤ 5 := by
  by_cases a : 0 ≤ sz
  · by_cases b : sz = m + 2
    · by_cases c : imK n m f
      · exact absurd (gonI_0 a b c) h
      · rw [gonI_3 a b c]; decide
    · rw [gonI_5 a b]; decide
  · rw [gonI_1 a]; decide
theorem gonI_cg (h : szR sz t) (hi : imK n m f ↔ imK n m f') : gonI n m sz f = gonI n m t f' := by
  rcases h with ⟨a, b⟩ | ⟨a, rfl⟩
  · rw [gonI_1 a, gonI_1 b]
  · by_cases b : sz = m + 2
    · by_cases c : imK n m f
      · rw [gonI_0 a b c, gonI_0 a b (hi.mp c)]
      · rw [gonI_3 a b c, gonI_3 a b (fun z => c (hi.mpr z))]
    · rw [gonI_5 a b, gonI_5 a b]
theorem gonG_cg (h : (0 ≤ x ∧ x < 6) ∧ 0 < n → szR sz t ∧ (imK n m f ↔ imK n m f')) : gonG n m sz x f = gonG n m t x f' := by
  by_cases k : (0 ≤ x ∧ x < 6) ∧ 0 < n
  · rw [gonG_y k, gonG_y k, gonI_cg (h k).1 (h k).2]
  · rw [gonG_n k, gonG_n k]
end GG
section FNS
variable {G : pG} {u v : pM}
theorem d_rowF {x1 x2 : Int32} (hC : InvC u) : Ws G D_row 0 [(0, .ref 2), (1, .int x1), (2, .int x2)] [] u (RI fun a u' => Cl (qB ++ qR ++ qF) u u' ∧ fO (cI ((0 ≤ x1 ∧ x1 < 6) ∧ x2 ≤ 40 ∧ ¬ 0 ≤ x2) 5 0) (Cl (qB ++ qR) u u' ∧ rowV x1 x2 = a ∧ rwP u u' (rokC x1 x2) x1.toNatClampNeg (rnV x2) (fun _ => 0)) (fdC u u' (cI ((0 ≤ x1 ∧ x1 < 6) ∧ x2 ≤ 40 ∧ ¬ 0 ≤ x2) 5 0))) := by
  refine wFC (P := fun a u' => rowV x1 x2 = a ∧ rwP u u' (rokC x1 x2) x1.toNatClampNeg (rnV x2) (fun _ => 0)) (fun z => d_rowy hC (cI_n z (by decide))) (fun z => ?_) (by decide) (by decide)
  have q := cI_p z
  exact sg_D_row_0 ⟨fun a => ⟨fun b => ⟨fun c => absurd c q.2.2, fun c => fcl hC (cI_t q) (by decide)⟩, fun b => absurd q.2.1 b⟩, fun a => absurd q.1 a⟩
theorem e_rowF {x1 x2 : Int32} (hM : InvM u) : Ws G m_row 0 [(0, .ref 76), (1, .int x1), (2, .int x2)] [] u (RI fun a u' => Mo (mB ++ mRw ++ mF) u u' ∧ fO (cI ((0 ≤ x1 ∧ x1 < 6) ∧ x2 ≤ 40 ∧ ¬ 0 ≤ x2) 5 0) (Mo (mB ++ mRw) u u' ∧ rowV x1 x2 = a ∧ rmP u u' (rokC x1 x2) x1.toNatClampNeg x2 (fun _ => 0)) (fdM u u' (cI ((0 ≤ x1 ∧ x1 < 6) ∧ x2 ≤ 40 ∧ ¬ 0 ≤ x2) 5 0))) := by
  refine wFM (P := fun a u' => rowV x1 x2 = a ∧ rmP u u' (rokC x1 x2) x1.toNatClampNeg x2 (fun _ => 0)) (fun z => e_rowyy hM (cI_n z (by decide))) (fun z => ?_) (by decide) (by decide)
  have q := cI_p z
  have q5 : 0 ≤ x1 ∧ x1 ≤ 5 := ⟨q.1.1, by have := q.1.2; grind⟩
  exact sg_m_row_0 ⟨fun a => ⟨fun b => ⟨fun c => absurd c q.2.2, fun c => fml hM (cI_t q)⟩, fun b => absurd q.2.1 b⟩, fun a => absurd q5 a⟩
theorem d_textF {x1 x2 : Int32} (hC : InvC u) : Ws G D_text 0 [(0, .ref 2), (1, .int x1), (2, .int x2)] [] u (RI fun a u' => Cl (qB ++ qT ++ qF) u u' ∧ fO (cI ((0 ≤ x1 ∧ x1 < 4) ∧ x2 ≤ 100 ∧ ¬ 0 ≤ x2) 5 0) (Cl (qB ++ qT) u u' ∧ textV x1 x2 = a ∧ textC u x1 x2 u') (fdC u u' (cI ((0 ≤ x1 ∧ x1 < 4) ∧ x2 ≤ 100 ∧ ¬ 0 ≤ x2) 5 0))) := by
  refine wFC (P := fun a u' => textV x1 x2 = a ∧ textC u x1 x2 u') (fun z => d_textx hC (cI_n z (by decide))) (fun z => ?_) (by decide) (by decide)
  have q := cI_p z
  exact sg_D_text_0 ⟨fun a => ⟨fun b => ⟨fun c => absurd c q.2.2, fun c => fcl hC (cI_t q) (by decide)⟩, fun b => absurd q.2.1 b⟩, fun a => absurd q.1 a⟩
theorem e_textF {x1 x2 : Int32} (hM : InvM u) : Ws G m_text 0 [(0, .ref 76), (1, .int x1), (2, .int x2)] [] u (RI fun a u' => Mo (mB ++ mTx ++ mF) u u' ∧ fO (cI ((0 ≤ x1 ∧ x1 < 4) ∧ x2 ≤ 100 ∧ ¬ 0 ≤ x2) 5 0) (Mo (mB ++ mTx) u u' ∧ textV x1 x2 = a ∧ textM u x1 x2 u') (fdM u u' (cI ((0 ≤ x1 ∧ x1 < 4) ∧ x2 ≤ 100 ∧ ¬ 0 ≤ x2) 5 0))) := by
  refine wFM (P := fun a u' => textV x1 x2 = a ∧ textM u x1 x2 u') (fun z => e_textx hM (cI_n z (by decide))) (fun z => ?_) (by decide) (by decide)
  have q := cI_p z
  have q5 : 0 ≤ x1 ∧ x1 ≤ 3 := ⟨q.1.1, by have := q.1.2; grind⟩
  exact sg_m_text_0 ⟨fun a => ⟨fun b => ⟨fun c => absurd c q.2.2, fun c => fml hM (cI_t q)⟩, fun b => absurd q.2.1 b⟩, fun a => absurd q5 a⟩
theorem d_tearF {x1 : Int32} (hC : InvC u) : Ws G D_tear 0 [(0, .ref 2), (1, .int x1)] [] u (RI fun a u' => Cl (qB ++ qR ++ qF) u u' ∧ fO (cI ((0 ≤ x1 ∧ x1 < 6) ∧ ¬ 0 ≤ (mI u (50 + 2 * x1.toNatClampNeg) 1)) 1 0) (Cl (qB ++ qR) u u' ∧ tearV (mI u (50 + 2 * x1.toNatClampNeg) 1) x1 = a ∧ rwP u u' ((0 ≤ x1 ∧ x1 < 6) ∧ 0 ≤ mI u (50 + 2 * x1.toNatClampNeg) 1) x1.toNatClampNeg (-1) (mI u (51 + 2 * x1.toNatClampNeg))) (fdC u u' (cI ((0 ≤ x1 ∧ x1 < 6) ∧ ¬ 0 ≤ (mI u (50 + 2 * x1.toNatClampNeg) 1)) 1 0))) := by
  refine wFC (P := fun a u' => tearV (mI u (50 + 2 * x1.toNatClampNeg) 1) x1 = a ∧ rwP u u' ((0 ≤ x1 ∧ x1 < 6) ∧ 0 ≤ mI u (50 + 2 * x1.toNatClampNeg) 1) x1.toNatClampNeg (-1) (mI u (51 + 2 * x1.toNatClampNeg))) (fun z => d_teary hC (cI_n z (by decide))) (fun z => ?_) (by decide) (by decide)
  have q := cI_p z
  refine sg_D_tear_0 ⟨fun a => ?_, fun a => absurd q.1 a⟩
  obtain ⟨e, hr⟩ := rO a
  rw [e]
  exact ⟨fun b => absurd b q.2, fun b => fcl hC (cI_t q) (by decide)⟩
theorem e_tearF {x1 : Int32} (hM : InvM u) : Ws G m_tear 0 [(0, .ref 76), (1, .int x1)] [] u (RI fun a u' => Mo (mB ++ mRw ++ mF) u u' ∧ fO (cI ((0 ≤ x1 ∧ x1 < 6) ∧ ¬ 0 ≤ (mI u 78 x1.toNatClampNeg)) 1 0) (Mo (mB ++ mRw) u u' ∧ tearV (mI u 78 x1.toNatClampNeg) x1 = a ∧ rmP u u' ((0 ≤ x1 ∧ x1 < 6) ∧ 0 ≤ mI u 78 x1.toNatClampNeg) x1.toNatClampNeg (-9) (fun k => mI u 79 (40 * x1.toNatClampNeg + k))) (fdM u u' (cI ((0 ≤ x1 ∧ x1 < 6) ∧ ¬ 0 ≤ (mI u 78 x1.toNatClampNeg)) 1 0))) := by
  refine wFM (P := fun a u' => tearV (mI u 78 x1.toNatClampNeg) x1 = a ∧ rmP u u' ((0 ≤ x1 ∧ x1 < 6) ∧ 0 ≤ mI u 78 x1.toNatClampNeg) x1.toNatClampNeg (-9) (fun k => mI u 79 (40 * x1.toNatClampNeg + k))) (fun z => e_teary hM (cI_n z (by decide))) (fun z => ?_) (by decide) (by decide)
  have q := cI_p z
  have q5 : 0 ≤ x1 ∧ x1 ≤ 5 := ⟨q.1.1, by have := q.1.2; grind⟩
  refine sg_m_tear_0 (sg_m_askedRow_0 ⟨fun a => ?_, fun a => absurd q5 a⟩)
  have v6 : vp_in x1 6 := vin a.1 (show (_ : Int32) < 6 by grind) (by decide)
  exact ⟨v6, fun b => absurd b q.2, fun b => ⟨_, rfl, fun c => absurd c (by decide), fun _ => fml hM (cI_t q)⟩⟩
theorem d_copyF {x1 x2 x3 x4 x5 : Int32} (hC : InvC u) : Ws G D_copy 0 [(0, .ref 2), (1, .int x1), (2, .int x2), (3, .int x3), (4, .int x4), (5, .int x5)] [] u (RI fun a u' => Cl (qB ++ qR ++ qF) u u' ∧ fO (copG (mI u (50 + 2 * x1.toNatClampNeg) 1) (mI u (50 + 2 * x3.toNatClampNeg) 1) x1 x2 x3 x4 x5) (Cl (qB ++ qR) u u' ∧ copV (mI u (50 + 2 * x1.toNatClampNeg) 1) (mI u (50 + 2 * x3.toNatClampNeg) 1) x1 x2 x3 x4 x5 = a ∧ rwP u u' (copV (mI u (50 + 2 * x1.toNatClampNeg) 1) (mI u (50 + 2 * x3.toNatClampNeg) 1) x1 x2 x3 x4 x5 = 1) x3.toNatClampNeg (mI u (50 + 2 * x3.toNatClampNeg) 1) (cpyF (mI u (51 + 2 * x1.toNatClampNeg)) (mI u (51 + 2 * x3.toNatClampNeg)) x2.toNatClampNeg x4.toNatClampNeg x5.toNatClampNeg)) (fdC u u' (copG (mI u (50 + 2 * x1.toNatClampNeg) 1) (mI u (50 + 2 * x3.toNatClampNeg) 1) x1 x2 x3 x4 x5))) := by
  refine wFC (P := fun a u' => copV (mI u (50 + 2 * x1.toNatClampNeg) 1) (mI u (50 + 2 * x3.toNatClampNeg) 1) x1 x2 x3 x4 x5 = a ∧ rwP u u' (copV (mI u (50 + 2 * x1.toNatClampNeg) 1) (mI u (50 + 2 * x3.toNatClampNeg) 1) x1 x2 x3 x4 x5 = 1) x3.toNatClampNeg (mI u (50 + 2 * x3.toNatClampNeg) 1) (cpyF (mI u (51 + 2 * x1.toNatClampNeg)) (mI u (51 + 2 * x3.toNatClampNeg)) x2.toNatClampNeg x4.toNatClampNeg x5.toNatClampNeg)) (fun z => d_copyy hC (fun a b => copG_0 z a b)) (fun z => ?_) (by decide) (by decide)
  refine sg_D_copy_0 ⟨fun a => ⟨fun b => ?_, fun b => (z (copG_n (fun y => b y.2))).elim⟩, fun a => (z (copG_n (fun y => a y.1))).elim⟩
  obtain ⟨e1, h1⟩ := rO a
  obtain ⟨e3, h3⟩ := rO b
  rw [e1, e3]
  exact ⟨fun c5 => ⟨fun c1 => ⟨fun c3 => ⟨fun d => ⟨fun f => (z (copG_k a b c5 ⟨c1, c3⟩ ⟨⟨d.1, d.2.2⟩, f.1, f.2.2⟩)).elim, fun f => fcl hC (copG_2 a b c5 ⟨c1, c3⟩ (fun y => f ⟨y.2.1, c5, y.2.2⟩)) (by decide)⟩, fun d => fcl hC (copG_2 a b c5 ⟨c1, c3⟩ (fun y => d ⟨y.1.1, c5, y.1.2⟩)) (by decide)⟩, fun c3 => fcl hC (copG_1 a b c5 (fun y => c3 y.2)) (by decide)⟩, fun c1 => fcl hC (copG_1 a b c5 (fun y => c1 y.1)) (by decide)⟩, fun c5 => fcl hC (copG_5 a b c5) (by decide)⟩
theorem e_copyF {x1 x2 x3 x4 x5 : Int32} (hM : InvM u) : Ws G m_copy 0 [(0, .ref 76), (1, .int x1), (2, .int x2), (3, .int x3), (4, .int x4), (5, .int x5)] [] u (RI fun a u' => Mo (mB ++ mRw ++ mF) u u' ∧ fO (copG (mI u 78 x1.toNatClampNeg) (mI u 78 x3.toNatClampNeg) x1 x2 x3 x4 x5) (Mo (mB ++ mRw) u u' ∧ copV (mI u 78 x1.toNatClampNeg) (mI u 78 x3.toNatClampNeg) x1 x2 x3 x4 x5 = a ∧ rmP u u' (copV (mI u 78 x1.toNatClampNeg) (mI u 78 x3.toNatClampNeg) x1 x2 x3 x4 x5 = 1) x3.toNatClampNeg (mI u 78 x3.toNatClampNeg) (cpyF (fun k => mI u 79 (40 * x1.toNatClampNeg + k)) (fun k => mI u 79 (40 * x3.toNatClampNeg + k)) x2.toNatClampNeg x4.toNatClampNeg x5.toNatClampNeg)) (fdM u u' (copG (mI u 78 x1.toNatClampNeg) (mI u 78 x3.toNatClampNeg) x1 x2 x3 x4 x5))) := by
  refine wFM (P := fun a u' => copV (mI u 78 x1.toNatClampNeg) (mI u 78 x3.toNatClampNeg) x1 x2 x3 x4 x5 = a ∧ rmP u u' (copV (mI u 78 x1.toNatClampNeg) (mI u 78 x3.toNatClampNeg) x1 x2 x3 x4 x5 = 1) x3.toNatClampNeg (mI u 78 x3.toNatClampNeg) (cpyF (fun k => mI u 79 (40 * x1.toNatClampNeg + k)) (fun k => mI u 79 (40 * x3.toNatClampNeg + k)) x2.toNatClampNeg x4.toNatClampNeg x5.toNatClampNeg)) (fun z => e_copyy hM (fun a b => copG_0 z a b)) (fun z => ?_) (by decide) (by decide)
  refine sg_m_copy_0 ⟨fun a => ⟨fun b => ?_, fun b => (z (copG_n (fun y => b ⟨y.2.1, by have := y.2.2; grind⟩))).elim⟩, fun a => (z (copG_n (fun y => a ⟨y.1.1, by have := y.1.2; grind⟩))).elim⟩
  have a6 : 0 ≤ x1 ∧ x1 < 6 := ⟨a.1, by have := a.2; grind⟩
  have b6 : 0 ≤ x3 ∧ x3 < 6 := ⟨b.1, by have := b.2; grind⟩
  have v1 : vp_in x1 6 := vin a.1 (show (_ : Int32) < 6 from a6.2) (by decide)
  have v3 : vp_in x3 6 := vin b.1 (show (_ : Int32) < 6 from b6.2) (by decide)
  exact ⟨fun c => ⟨v1, fun d => fml hM (copG_1 a6 b6 c (fun y => absurd d (Int32.not_lt.mpr y.1))), fun d => ⟨v3, fun f => ⟨fun g => fml hM (copG_2 a6 b6 c ⟨Int32.not_lt.mp d, f⟩ (fun y => absurd g (Int32.not_lt.mpr y.1.1))), fun g => ⟨fun h => fml hM (copG_2 a6 b6 c ⟨Int32.not_lt.mp d, f⟩ (fun y => absurd h (Int32.not_lt.mpr y.2.1))), fun h => ⟨v1, fun i => fml hM (copG_2 a6 b6 c ⟨Int32.not_lt.mp d, f⟩ (fun y => absurd i (Int32.not_lt.mpr ((cpL y.1.1 c (Int32.not_lt.mp d)).mpr y.1.2)))), fun i => ⟨v3, fun j => (z (copG_k a6 b6 c ⟨Int32.not_lt.mp d, f⟩ ⟨⟨Int32.not_lt.mp g, (cpL (Int32.not_lt.mp g) c (Int32.not_lt.mp d)).mp (Int32.not_lt.mp i)⟩, Int32.not_lt.mp h, (cpL (Int32.not_lt.mp h) c f).mp j⟩)).elim, fun j => fml hM (copG_2 a6 b6 c ⟨Int32.not_lt.mp d, f⟩ (fun y => j ((cpL y.2.1 c f).mpr y.2.2)))⟩⟩⟩⟩, fun f => fml hM (copG_1 a6 b6 c (fun y => f y.2))⟩⟩, fun c => fml hM (copG_5 a6 b6 c)⟩
theorem d_putF {x1 x2 x3 : Int32} (hC : InvC u) : Ws G D_put 0 [(0, .ref 2), (1, .int x1), (2, .int x2), (3, .int x3)] [] u (RI fun a u' => Cl (qB ++ qT ++ qF) u u' ∧ fO (plG (0 ≤ x1 ∧ x1 < 4) (mI u (62 + 2 * x1.toNatClampNeg) 1) x2) (Cl (qB ++ qT) u u' ∧ putC u x1 x2 x3 a u') (fdC u u' (plG (0 ≤ x1 ∧ x1 < 4) (mI u (62 + 2 * x1.toNatClampNeg) 1) x2))) := by
  refine wFC (P := fun a u' => putC u x1 x2 x3 a u') (fun z => d_putx hC (fun a => plG_0 z a)) (fun z => ?_) (by decide) (by decide)
  refine sg_D_put_0 ⟨fun a => ?_, fun a => (z (plG_n a)).elim⟩
  obtain ⟨e, ht⟩ := tO a
  have k0 := (tL ht).1
  have zz : (S0 (62 + 2 * x1.toNatClampNeg + 1)).2 = 100 := (tL ht).2
  have hs := hC.1 _ k0
  rw [zz] at hs
  rw [e]
  refine sg_D_placeFinding_0 k0 ⟨fun b => ⟨fun c => (z (plG_k a b ⟨c.1, c.2.1⟩)).elim, fun c => ⟨_, rfl, fun q => absurd q (by decide), fun _ => fcl hC (plG_2 a b (fun y => c ⟨y.1, y.2, ?_⟩)) (by decide)⟩⟩, fun b => ⟨_, rfl, fun q => absurd q (by decide), fun _ => fcl hC (plG_1 a b) (by decide)⟩⟩
  rw [zz]
  exact Int32.lt_of_lt_of_le y.2 hs
theorem e_putF {x1 x2 x3 : Int32} (hM : InvM u) : Ws G m_put 0 [(0, .ref 76), (1, .int x1), (2, .int x2), (3, .int x3)] [] u (RI fun a u' => Mo (mB ++ mTx ++ mF) u u' ∧ fO (plG (0 ≤ x1 ∧ x1 < 4) (mI u 81 x1.toNatClampNeg) x2) (Mo (mB ++ mTx) u u' ∧ putM u x1 x2 x3 a u') (fdM u u' (plG (0 ≤ x1 ∧ x1 < 4) (mI u 81 x1.toNatClampNeg) x2))) := by
  refine wFM (P := fun a u' => putM u x1 x2 x3 a u') (fun z => e_putx hM (fun a => plG_0 z a)) (fun z => ?_) (by decide) (by decide)
  refine sg_m_put_0 (sg_m_askedText_0 ⟨fun a => ?_, fun a => (z (plG_n (fun y => a ⟨y.1, by have := y.2; grind⟩))).elim⟩)
  have a4 : 0 ≤ x1 ∧ x1 < 4 := ⟨a.1, by have := a.2; grind⟩
  have v4 : vp_in x1 4 := vin a.1 (show (_ : Int32) < 4 from a4.2) (by decide)
  refine ⟨v4, fun b => ⟨_, rfl, fun _ => ⟨v4, fun c => (z (plG_k a4 b ⟨c.1, ?_⟩)).elim, fun c => fml hM (plG_2 a4 b (fun y => c ⟨y.1, ?_⟩))⟩, fun q => absurd (by decide) q⟩, fun b => ⟨_, rfl, fun q => absurd q (by decide), fun _ => fml hM (plG_1 a4 b)⟩⟩
  · obtain ⟨c1, c2⟩ := c
    clear z
    generalize mI u 81 x1.toNatClampNeg = S at *
    grind
  · obtain ⟨c1, c2⟩ := y
    clear z
    generalize mI u 81 x1.toNatClampNeg = S at *
    grind
theorem d_atF {x1 x2 : Int32} (hC : InvC u) : Ws G D_at 0 [(0, .ref 2), (1, .int x1), (2, .int x2)] [] u (RI fun a u' => Cl (qB ++ qF) u u' ∧ fO (plG (0 ≤ x1 ∧ x1 < 6) (mI u (50 + 2 * x1.toNatClampNeg) 1) x2) (Cl qB u u' ∧ True) (fdC u u' (plG (0 ≤ x1 ∧ x1 < 6) (mI u (50 + 2 * x1.toNatClampNeg) 1) x2))) := by
  refine d_atq hC (fun a u' h => ?_)
  rcases h with ⟨k, _, e⟩ | ⟨k, b, _, e⟩ | ⟨k, b, d, _, e⟩ | ⟨k, b, d, _, e⟩
  · exact ⟨_, rfl, foK (by rw [e]; exact Cl.rf hC) (plG_n k) (by decide)⟩
  · rw [e]; exact ⟨_, rfl, foD hC Cq.rf (plG_1 k b) (by decide) (by decide)⟩
  · rw [e]; exact ⟨_, rfl, foD hC Cq.rf (plG_2 k b d) (by decide) (by decide)⟩
  · exact ⟨_, rfl, foK (by rw [e]; exact (Cq.rf.pI wr_D (by decide)).cl hC) (plG_k k b d) (by decide)⟩
theorem e_atF {x1 x2 : Int32} (hM : InvM u) : Ws G m_at 0 [(0, .ref 76), (1, .int x1), (2, .int x2)] [] u (RI fun a u' => Mo (mB ++ mF) u u' ∧ fO (plG (0 ≤ x1 ∧ x1 < 6) (mI u 78 x1.toNatClampNeg) x2) (Mo mB u u' ∧ True) (fdM u u' (plG (0 ≤ x1 ∧ x1 < 6) (mI u 78 x1.toNatClampNeg) x2))) := by
  refine e_atq hM (fun a u' h => ?_)
  rcases h with ⟨k, _, e⟩ | ⟨k, b, _, e⟩ | ⟨k, b, d, _, e⟩ | ⟨k, b, d, _, e⟩
  · exact ⟨_, rfl, foKM (by rw [e]; exact Mo.rf hM) (plG_n k) (by decide)⟩
  · rw [e]; exact ⟨_, rfl, foDM hM Mq.rf (plG_1 k b) (by decide) (by decide)⟩
  · rw [e]; exact ⟨_, rfl, foDM hM Mq.rf (plG_2 k b d) (by decide) (by decide)⟩
  · exact ⟨_, rfl, foKM (by rw [e]; exact (Mq.rf.pF (by decide)).mo hM) (plG_k k b d) (by decide)⟩
theorem d_meanF {x1 : Int32} (hC : InvC u) : Ws G D_mean 0 [(0, .ref 2), (1, .int x1)] [] u (RI fun a u' => Cl (qB ++ qF) u u' ∧ fO (meG (0 ≤ x1 ∧ x1 < 6) (mI u (50 + 2 * x1.toNatClampNeg) 1)) (Cl qB u u' ∧ True) (fdC u u' (meG (0 ≤ x1 ∧ x1 < 6) (mI u (50 + 2 * x1.toNatClampNeg) 1)))) := by
  refine d_meanq hC (fun a u' h => ?_)
  rcases h with ⟨k, _, e⟩ | ⟨k, b, _, e⟩ | ⟨k, b, d, _, e⟩ | ⟨k, b, d, _, e⟩
  · exact ⟨_, rfl, foK (by rw [e]; exact Cl.rf hC) (meG_n k) (by decide)⟩
  · rw [e]; exact ⟨_, rfl, foD hC Cq.rf (meG_1 k b) (by decide) (by decide)⟩
  · rw [e]; exact ⟨_, rfl, foD hC Cq.rf (meG_4 k b d) (by decide) (by decide)⟩
  · exact ⟨_, rfl, foK (by rw [e]; exact (Cq.rf.pI wr_D (by decide)).cl hC) (meG_k k b d) (by decide)⟩
theorem e_meanF {x1 : Int32} (hM : InvM u) : Ws G m_mean 0 [(0, .ref 76), (1, .int x1)] [] u (RI fun a u' => Mo (mB ++ mF) u u' ∧ fO (meG (0 ≤ x1 ∧ x1 < 6) (mI u 78 x1.toNatClampNeg)) (Mo mB u u' ∧ True) (fdM u u' (meG (0 ≤ x1 ∧ x1 < 6) (mI u 78 x1.toNatClampNeg)))) := by
  refine e_meanq hM (fun a u' h => ?_)
  rcases h with ⟨k, _, e⟩ | ⟨k, b, _, e⟩ | ⟨k, b, d, _, e⟩ | ⟨k, b, d, _, e⟩
  · exact ⟨_, rfl, foKM (by rw [e]; exact Mo.rf hM) (meG_n k) (by decide)⟩
  · rw [e]; exact ⟨_, rfl, foDM hM Mq.rf (meG_1 k b) (by decide) (by decide)⟩
  · rw [e]; exact ⟨_, rfl, foDM hM Mq.rf (meG_4 k b d) (by decide) (by decide)⟩
  · exact ⟨_, rfl, foKM (by rw [e]; exact (Mq.rf.pF (by decide)).mo hM) (meG_k k b d) (by decide)⟩
theorem layV_at {sz x1 x2 a : Int32} {B F1 F2 T : Prop} (h : atQ sz x1 x2 a B F1 F2 T) : layV sz x1 x2 = a := by
  unfold layV
  rcases h with ⟨k, e, _⟩ | ⟨k, b, e, _⟩ | ⟨k, b, d, e, _⟩ | ⟨k, b, d, e, _⟩
  · rw [if_neg k, e]
  · rw [if_pos k, if_neg (fun z => b (Int32.le_of_lt (Int32.lt_of_le_of_lt z.1 z.2))), e]
  · rw [if_pos k, if_neg d, e]
  · rw [if_pos k, if_pos d, e]
theorem d_layF {x1 x2 x3 : Int32} (hC : InvC u) : Ws G D_lay 0 [(0, .ref 2), (1, .int x1), (2, .int x2), (3, .int x3)] [] u (RI fun a u' => Cl (qB ++ qR ++ qF) u u' ∧ fO (plG (0 ≤ x1 ∧ x1 < 6) (mI u (50 + 2 * x1.toNatClampNeg) 1) x2) (Cl (qB ++ qR) u u' ∧ layV (mI u (50 + 2 * x1.toNatClampNeg) 1) x1 x2 = a ∧ rwP u u' (layV (mI u (50 + 2 * x1.toNatClampNeg) 1) x1 x2 = 1) x1.toNatClampNeg (mI u (50 + 2 * x1.toNatClampNeg) 1) (setF (mI u (51 + 2 * x1.toNatClampNeg)) x2.toNatClampNeg x3)) (fdC u u' (plG (0 ≤ x1 ∧ x1 < 6) (mI u (50 + 2 * x1.toNatClampNeg) 1) x2))) := by
  refine d_layq hC (fun a u' h => ?_)
  have lv := layV_at h
  rcases h with ⟨k, ea, e⟩ | ⟨k, b, _, e⟩ | ⟨k, b, d, _, e⟩ | ⟨k, b, d, ea, e⟩
  · have w : Cl (qB ++ qR) u u' := by rw [e]; exact Cl.rf hC
    exact ⟨_, rfl, w.lif (by decide), .inl ⟨plG_n k, w, lv, .inr ⟨by rw [lv, ea]; decide, by rw [e]; exact rwK.rf⟩⟩⟩
  · rw [e]; exact ⟨_, rfl, foD hC Cq.rf (plG_1 k b) (by decide) (by decide)⟩
  · rw [e]; exact ⟨_, rfl, foD hC Cq.rf (plG_2 k b d) (by decide) (by decide)⟩
  · have w : Cl (qB ++ qR) u u' := by
      rw [e]
      have hr := (rO k).2
      have k0 := (rL hr).1
      rw [show 51 + 2 * x1.toNatClampNeg = 50 + 2 * x1.toNatClampNeg + 1 by omega]
      exact ((Cq.rf.pI (wr_6a k0) (cm_6a k0 ((show ∀ t, t < 6 → In2 (qB ++ qR) (50 + 2 * t) from by decide) _ hr))).pI wr_D (by decide)).cl hC
    refine ⟨_, rfl, w.lif (by decide), .inl ⟨plG_k k b d, w, lv, .inl ⟨by rw [lv, ea], ?_⟩⟩⟩
    rw [e]
    refine rwS.of (by rw [mI_ne (by omega), mI_ne (by omega)]) (fun j _ => ?_) (fun n j n1 n2 n3 n4 => by rw [mI_ne (by omega), mI_ne n4])
    rw [mI_ne (by omega)]
    unfold setF
    by_cases q : j = x2.toNatClampNeg
    · rw [if_pos q, q, mI_eq]
    · rw [if_neg q, mI_nk q]
theorem e_layF {x1 x2 x3 : Int32} (hM : InvM u) : Ws G m_lay 0 [(0, .ref 76), (1, .int x1), (2, .int x2), (3, .int x3)] [] u (RI fun a u' => Mo (mB ++ mRw ++ mF) u u' ∧ fO (plG (0 ≤ x1 ∧ x1 < 6) (mI u 78 x1.toNatClampNeg) x2) (Mo (mB ++ mRw) u u' ∧ layV (mI u 78 x1.toNatClampNeg) x1 x2 = a ∧ rmP u u' (layV (mI u 78 x1.toNatClampNeg) x1 x2 = 1) x1.toNatClampNeg (mI u 78 x1.toNatClampNeg) (setF (fun k => mI u 79 (40 * x1.toNatClampNeg + k)) x2.toNatClampNeg x3)) (fdM u u' (plG (0 ≤ x1 ∧ x1 < 6) (mI u 78 x1.toNatClampNeg) x2))) := by
  refine e_layq hM (fun a u' h => ?_)
  have lv := layV_at h
  rcases h with ⟨k, ea, e⟩ | ⟨k, b, _, e⟩ | ⟨k, b, d, _, e⟩ | ⟨k, b, d, ea, e⟩
  · have w : Mo (mB ++ mRw) u u' := by rw [e]; exact Mo.rf hM
    exact ⟨_, rfl, w.up (by decide), .inl ⟨plG_n k, w, lv, .inr ⟨by rw [lv, ea]; decide, by rw [e]; exact rmK.rf⟩⟩⟩
  · rw [e]; exact ⟨_, rfl, foDM hM Mq.rf (plG_1 k b) (by decide) (by decide)⟩
  · rw [e]; exact ⟨_, rfl, foDM hM Mq.rf (plG_2 k b d) (by decide) (by decide)⟩
  · have w : Mo (mB ++ mRw) u u' := by rw [e]; exact ((Mq.rf.pF (by decide)).pA (by decide)).mo hM
    have rN := (rO k).2
    have xN : x2.toNatClampNeg < 40 := by
      have l := tn_lt d.1 (Int32.lt_of_lt_of_le d.2 (hM.b78 _))
      have e40 : (40 : Int32).toNatClampNeg = 40 := by decide
      omega
    refine ⟨_, rfl, w.up (by decide), .inl ⟨plG_k k b d, w, lv, .inl ⟨by rw [lv, ea], ?_⟩⟩⟩
    rw [e]
    refine ⟨by rw [mI_ne (by decide), mI_ne (by decide)], fun j hj => ?_, fun q hq ne => ⟨by rw [mI_ne (by decide), mI_ne (by decide)], fun j hj => by rw [mI_nk (by omega), mI_ne (by decide)]⟩⟩
    unfold setF
    by_cases q : j = x2.toNatClampNeg
    · rw [if_pos q, q, mI_eq]
    · rw [if_neg q, mI_nk (by omega), mI_ne (by decide)]
theorem d_faultF {x1 : Int32} (hC : InvC u) : Ws G D_fault 0 [(0, .ref 2), (1, .int x1)] [] u (RI fun a u' => Cl (qB ++ qPl (mR u 2 11) ++ qF) u u' ∧ fO (cI ((0 ≤ x1 ∧ x1 < 4) ∧ ¬ 0 ≤ (mI u (62 + 2 * x1.toNatClampNeg) 1)) 1 0) (Cl (qB ++ qPl (mR u 2 11)) u u' ∧ True) (fdC u u' (cI ((0 ≤ x1 ∧ x1 < 4) ∧ ¬ 0 ≤ (mI u (62 + 2 * x1.toNatClampNeg) 1)) 1 0))) := by
  refine wFC (P := fun a u' => True) (fun z => ?_) (fun z => ?_) (fun x h => List.mem_append_left _ h) (fun x h => by
    rcases List.mem_append.mp h with h | h
    · exact List.mem_append_left _ (List.mem_append_left _ h)
    · exact List.mem_append_right _ h)
  · have q := cI_n z (by decide)
    refine sg_D_fault_0 ⟨fun a => ?_, fun _ => ⟨_, rfl, Cl.rf hC, trivial⟩⟩
    obtain ⟨et, ht⟩ := tO a
    rw [et]
    exact ⟨fun _ hp => kI (c_read (qPl_w (fun n h => List.mem_append_right _ h)) (pl_ok hp) (tL ht).1 hC) (fun a v h => ⟨_, rfl, h, trivial⟩), fun b => absurd ⟨a, b⟩ q⟩
  · have q := cI_p z
    refine sg_D_fault_0 ⟨fun a => ?_, fun a => absurd q.1 a⟩
    obtain ⟨et, ht⟩ := tO a
    rw [et]
    exact ⟨fun b _ => absurd b q.2, fun b => fcl hC (cI_t q) (by decide)⟩
theorem e_faultF {x1 : Int32} (hM : InvM u) : Ws G m_fault 0 [(0, .ref 76), (1, .int x1)] [] u (RI fun a u' => Mo (mB ++ mF) u u' ∧ fO (cI ((0 ≤ x1 ∧ x1 < 4) ∧ ¬ 0 ≤ (mI u 81 x1.toNatClampNeg)) 1 0) (Mo mB u u' ∧ True) (fdM u u' (cI ((0 ≤ x1 ∧ x1 < 4) ∧ ¬ 0 ≤ (mI u 81 x1.toNatClampNeg)) 1 0))) := by
  refine wFM (P := fun a u' => True) (fun z => ?_) (fun z => ?_) (by decide) (by decide)
  · have q := cI_n z (by decide)
    refine sg_m_fault_0 (sg_m_askedText_0 ⟨fun a => ?_, fun a => ⟨_, rfl, fun c => absurd c (by decide), fun _ => ⟨_, rfl, Mo.rf hM, trivial⟩⟩⟩)
    have a4 : 0 ≤ x1 ∧ x1 < 4 := ⟨a.1, by have := a.2; grind⟩
    have v4 : vp_in x1 4 := vin a.1 (show (_ : Int32) < 4 from a4.2) (by decide)
    exact ⟨v4, fun b => ⟨_, rfl, fun _ => kI (y_goesOn a ⟨b, hM.b81 _⟩) (fun _ w h => ⟨_, rfl, h.1.mo h.2.1 hM, trivial⟩), fun c => absurd (by decide) c⟩, fun b => absurd ⟨a4, b⟩ q⟩
  · have q := cI_p z
    have q3 : 0 ≤ x1 ∧ x1 ≤ 3 := ⟨q.1.1, by have := q.1.2; grind⟩
    refine sg_m_fault_0 (sg_m_askedText_0 ⟨fun a => ?_, fun a => absurd q3 a⟩)
    have v4 : vp_in x1 4 := vin a.1 (show (_ : Int32) < 4 from q.1.2) (by decide)
    exact ⟨v4, fun b => absurd b q.2, fun b => ⟨_, rfl, fun c => absurd c (by decide), fun _ => fml hM (cI_t q)⟩⟩
theorem d_squareF {x1 : Int32} (hC : InvC u) : Ws G D_square 0 [(0, .ref 2), (1, .int x1)] [] u (RI fun a u' => Cl (qB ++ qN ++ qK ++ qJ ++ qP ++ qZ ++ qF) u u' ∧ fO (cI ((0 ≤ x1 ∧ x1 < 4) ∧ ¬ 0 ≤ (mI u (62 + 2 * x1.toNatClampNeg) 1)) 1 0) (Cl (qB ++ qN ++ qK ++ qJ ++ qP ++ qZ) u u' ∧ sqQ (mI u (62 + 2 * x1.toNatClampNeg) 1) (sgT (mI u (62 + 2 * x1.toNatClampNeg) 1) (mI u (63 + 2 * x1.toNatClampNeg))) x1 a (sqF u u') (sqS u u')) (fdC u u' (cI ((0 ≤ x1 ∧ x1 < 4) ∧ ¬ 0 ≤ (mI u (62 + 2 * x1.toNatClampNeg) 1)) 1 0))) := by
  refine wFC (P := fun a u' => sqQ (mI u (62 + 2 * x1.toNatClampNeg) 1) (sgT (mI u (62 + 2 * x1.toNatClampNeg) 1) (mI u (63 + 2 * x1.toNatClampNeg))) x1 a (sqF u u') (sqS u u')) (fun z => d_squarex hC (cI_n z (by decide))) (fun z => ?_) (fun x h => List.mem_append_left _ h) (by decide)
  have q := cI_p z
  refine sg_D_square_0 ⟨fun a => ?_, fun a => absurd q.1 a⟩
  obtain ⟨et, ht⟩ := tO a
  rw [et]
  exact ⟨fun b _ => absurd b q.2, fun b => fcl hC (cI_t q) (by decide)⟩
theorem e_squareF {x1 : Int32} (hM : InvM u) : Ws G m_square 0 [(0, .ref 76), (1, .int x1)] [] u (RI fun a u' => Mo (mB ++ mPl ++ mNw ++ mKp ++ mJn ++ mFd ++ mF) u u' ∧ fO (cI ((0 ≤ x1 ∧ x1 < 4) ∧ ¬ 0 ≤ (mI u 81 x1.toNatClampNeg)) 1 0) (Mo (mB ++ mPl ++ mNw ++ mKp ++ mJn ++ mFd) u u' ∧ sqQ (mI u 81 x1.toNatClampNeg) (TM u x1) x1 a (Fp mB u u') (fun d l => smS u' d l ∧ ∀ j, j < 10 → mI u' 76 j = mI u 76 j)) (fdM u u' (cI ((0 ≤ x1 ∧ x1 < 4) ∧ ¬ 0 ≤ (mI u 81 x1.toNatClampNeg)) 1 0))) := by
  refine wFM (P := fun a u' => sqQ (mI u 81 x1.toNatClampNeg) (TM u x1) x1 a (Fp mB u u') (fun d l => smS u' d l ∧ ∀ j, j < 10 → mI u' 76 j = mI u 76 j)) (fun z => e_squarex hM (cI_n z (by decide))) (fun z => ?_) (fun x h => List.mem_append_left _ h) (by decide)
  have q := cI_p z
  have q3 : 0 ≤ x1 ∧ x1 ≤ 3 := ⟨q.1.1, by have := q.1.2; grind⟩
  refine sg_m_square_0 (sg_m_askedText_0 ⟨fun a => ?_, fun a => absurd q3 a⟩)
  have v4 : vp_in x1 4 := vin a.1 (show (_ : Int32) < 4 from q.1.2) (by decide)
  exact ⟨v4, fun b => absurd b q.2, fun b => ⟨_, rfl, fun c => absurd c (by decide), fun _ => fml hM (cI_t q)⟩⟩
theorem d_onF {x1 : Int32} (hC : InvC u) : Ws G D_on 0 [(0, .ref 2), (1, .int x1)] [] u (RI fun a u' => Cl (qB ++ qN ++ qF) u u' ∧ fO (cI ((0 ≤ x1 ∧ x1 < 3) ∧ mI u (70 + 2 * x1.toNatClampNeg) 0 = -1) 1 0) (Cl (qB ++ qN) u u' ∧ ((((0 ≤ x1 ∧ x1 < 3) ∧ ¬ mI u (70 + 2 * x1.toNatClampNeg) 0 = -1) ∧ a = mI u (70 + 2 * x1.toNatClampNeg) 0 ∧ mI u' 7 0 = mI u (70 + 2 * x1.toNatClampNeg) 0 ∧ mI u' 7 1 = mI u (70 + 2 * x1.toNatClampNeg) 1 ∧ ∀ s, s < 7 → mI u' 8 s = mI u (71 + 2 * x1.toNatClampNeg) s) ∨ (¬ ((0 ≤ x1 ∧ x1 < 3) ∧ ¬ mI u (70 + 2 * x1.toNatClampNeg) 0 = -1) ∧ a = (if 0 ≤ x1 ∧ x1 < 3 then -3 else -1) ∧ nwS u u' (mI u 7 1)))) (fdC u u' (cI ((0 ≤ x1 ∧ x1 < 3) ∧ mI u (70 + 2 * x1.toNatClampNeg) 0 = -1) 1 0))) := by
  refine wFC (P := fun a u' => ((((0 ≤ x1 ∧ x1 < 3) ∧ ¬ mI u (70 + 2 * x1.toNatClampNeg) 0 = -1) ∧ a = mI u (70 + 2 * x1.toNatClampNeg) 0 ∧ mI u' 7 0 = mI u (70 + 2 * x1.toNatClampNeg) 0 ∧ mI u' 7 1 = mI u (70 + 2 * x1.toNatClampNeg) 1 ∧ ∀ s, s < 7 → mI u' 8 s = mI u (71 + 2 * x1.toNatClampNeg) s) ∨ (¬ ((0 ≤ x1 ∧ x1 < 3) ∧ ¬ mI u (70 + 2 * x1.toNatClampNeg) 0 = -1) ∧ a = (if 0 ≤ x1 ∧ x1 < 3 then -3 else -1) ∧ nwS u u' (mI u 7 1)))) (fun z => d_ony hC (cI_n z (by decide))) (fun z => ?_) (by decide) (by decide)
  have q := cI_p z
  refine sg_D_on_0 ⟨fun a => ?_, fun a => absurd q.1 a⟩
  obtain ⟨e, l⟩ := kO a
  rw [e]
  exact ⟨fun b => absurd q.2 b, fun b => fcl hC (cI_t q) (by decide)⟩
theorem e_onF {x1 : Int32} (hM : InvM u) : Ws G m_on 0 [(0, .ref 76), (1, .int x1)] [] u (RI fun a u' => Mo (mB ++ mNw ++ mF) u u' ∧ fO (cI ((0 ≤ x1 ∧ x1 < 3) ∧ mI u 87 (10 * x1.toNatClampNeg) = -9) 1 0) (Mo (mB ++ mNw) u u' ∧ ((((0 ≤ x1 ∧ x1 < 3) ∧ ¬ mI u 87 (10 * x1.toNatClampNeg) = -9) ∧ a = mI u 87 (10 * x1.toNatClampNeg) ∧ mI u' 76 18 = mI u 87 (10 * x1.toNatClampNeg) ∧ mI u' 76 19 = mI u 87 (10 * x1.toNatClampNeg + 1) ∧ ∀ s, s < (mI u 76 11).toNatClampNeg → mI u' 84 s = mI u 87 (10 * x1.toNatClampNeg + 2 + s)) ∨ (¬ ((0 ≤ x1 ∧ x1 < 3) ∧ ¬ mI u 87 (10 * x1.toNatClampNeg) = -9) ∧ a = (if 0 ≤ x1 ∧ x1 < 3 then -3 else -1) ∧ nmS u u' (mI u 76 19)))) (fdM u u' (cI ((0 ≤ x1 ∧ x1 < 3) ∧ mI u 87 (10 * x1.toNatClampNeg) = -9) 1 0))) := by
  refine wFM (P := fun a u' => ((((0 ≤ x1 ∧ x1 < 3) ∧ ¬ mI u 87 (10 * x1.toNatClampNeg) = -9) ∧ a = mI u 87 (10 * x1.toNatClampNeg) ∧ mI u' 76 18 = mI u 87 (10 * x1.toNatClampNeg) ∧ mI u' 76 19 = mI u 87 (10 * x1.toNatClampNeg + 1) ∧ ∀ s, s < (mI u 76 11).toNatClampNeg → mI u' 84 s = mI u 87 (10 * x1.toNatClampNeg + 2 + s)) ∨ (¬ ((0 ≤ x1 ∧ x1 < 3) ∧ ¬ mI u 87 (10 * x1.toNatClampNeg) = -9) ∧ a = (if 0 ≤ x1 ∧ x1 < 3 then -3 else -1) ∧ nmS u u' (mI u 76 19)))) (fun z => e_ony hM (cI_n z (by decide))) (fun z => ?_) (by decide) (by decide)
  have q := cI_p z
  have q2 : 0 ≤ x1 ∧ x1 ≤ 2 := ⟨q.1.1, by have := q.1.2; grind⟩
  refine sg_m_on_0 ⟨fun a => ⟨(vin (by grind) (show (_ : Int32) < 30 by grind) (by decide)), ?_⟩, fun a => absurd q2 a⟩
  have I0 := ix10 (s := 0) a (by decide)
  rw [I0.1]
  exact ⟨fun b => absurd q.2 b, fun b => fml hM (cI_t q)⟩
theorem d_goneF {x1 : Int32} (hC : InvC u) (hm : 0 ≤ mI u (mR u 2 10) 1 ∧ mI u (mR u 2 10) 1 ≤ 7) : Ws G D_gone 0 [(0, .ref 2), (1, .int x1)] [] u (RI fun a u' => Cl (qB ++ qN ++ qF) u u' ∧ fO (gonG (mI u (mR u 2 10) 0) (mI u (mR u 2 10) 1) (mI u (50 + 2 * x1.toNatClampNeg) 1) x1 (mI u (51 + 2 * x1.toNatClampNeg))) (Cl (qB ++ qN) u u' ∧ ((gonK (mI u (mR u 2 10) 0) (mI u (mR u 2 10) 1) (mI u (50 + 2 * x1.toNatClampNeg) 1) x1 (mI u (51 + 2 * x1.toNatClampNeg)) ∧ a = mI u (51 + 2 * x1.toNatClampNeg) 0 ∧ mI u' 7 0 = mI u (51 + 2 * x1.toNatClampNeg) 0 ∧ mI u' 7 1 = mI u (51 + 2 * x1.toNatClampNeg) 1 ∧ ∀ s, s < (mI u (mR u 2 10) 1).toNatClampNeg → mI u' 8 s = mI u (51 + 2 * x1.toNatClampNeg) (2 + s)) ∨ (¬ gonK (mI u (mR u 2 10) 0) (mI u (mR u 2 10) 1) (mI u (50 + 2 * x1.toNatClampNeg) 1) x1 (mI u (51 + 2 * x1.toNatClampNeg)) ∧ a = (if 0 ≤ x1 ∧ x1 < 6 then (if 0 < mI u (mR u 2 10) 0 then -3 else -4) else -1) ∧ nwS u u' (mI u 7 1)))) (fdC u u' (gonG (mI u (mR u 2 10) 0) (mI u (mR u 2 10) 1) (mI u (50 + 2 * x1.toNatClampNeg) 1) x1 (mI u (51 + 2 * x1.toNatClampNeg))))) := by
  refine wFC (P := fun a u' => ((gonK (mI u (mR u 2 10) 0) (mI u (mR u 2 10) 1) (mI u (50 + 2 * x1.toNatClampNeg) 1) x1 (mI u (51 + 2 * x1.toNatClampNeg)) ∧ a = mI u (51 + 2 * x1.toNatClampNeg) 0 ∧ mI u' 7 0 = mI u (51 + 2 * x1.toNatClampNeg) 0 ∧ mI u' 7 1 = mI u (51 + 2 * x1.toNatClampNeg) 1 ∧ ∀ s, s < (mI u (mR u 2 10) 1).toNatClampNeg → mI u' 8 s = mI u (51 + 2 * x1.toNatClampNeg) (2 + s)) ∨ (¬ gonK (mI u (mR u 2 10) 0) (mI u (mR u 2 10) 1) (mI u (50 + 2 * x1.toNatClampNeg) 1) x1 (mI u (51 + 2 * x1.toNatClampNeg)) ∧ a = (if 0 ≤ x1 ∧ x1 < 6 then (if 0 < mI u (mR u 2 10) 0 then -3 else -4) else -1) ∧ nwS u u' (mI u 7 1)))) (fun z => d_goney hC hm (fun a b => gonI_e ((gonG_y ⟨a, b⟩).symm.trans z))) (fun z => ?_) (by decide) (by decide)
  refine sg_D_gone_0 ⟨fun a hp => ⟨fun b => ?_, fun b => (z (gonG_n (fun y => b y.2))).elim⟩, fun a => (z (gonG_n (fun y => a y.1))).elim⟩
  obtain ⟨er, hr⟩ := rO a
  rw [er]
  refine kI (c_imageFindingz hr hC b hm) (fun k v h => ?_)
  obtain ⟨rfl, h⟩ := h
  have e : gonG (mI u (mR u 2 10) 0) (mI u (mR u 2 10) 1) (mI u (50 + 2 * x1.toNatClampNeg) 1) x1 (mI u (51 + 2 * x1.toNatClampNeg)) = k := (gonG_y ⟨a, b⟩).trans h.symm
  refine ⟨fun c => (z (e.trans c)).elim, fun c => fcl hC e ?_⟩
  rw [h]
  exact gonI_r (by rw [← h]; exact c)
theorem e_goneF {x1 : Int32} (hM : InvM u) : Ws G m_gone 0 [(0, .ref 76), (1, .int x1)] [] u (RI fun a u' => Mo (mB ++ mNw ++ mF) u u' ∧ fO (gonG (mI u 76 10) (mI u 76 11) (mI u 78 x1.toNatClampNeg) x1 (fun k => mI u 79 (40 * x1.toNatClampNeg + k))) (Mo (mB ++ mNw) u u' ∧ ((gonK (mI u 76 10) (mI u 76 11) (mI u 78 x1.toNatClampNeg) x1 (fun k => mI u 79 (40 * x1.toNatClampNeg + k)) ∧ a = mI u 79 (40 * x1.toNatClampNeg) ∧ mI u' 76 18 = mI u 79 (40 * x1.toNatClampNeg) ∧ mI u' 76 19 = mI u 79 (40 * x1.toNatClampNeg + 1) ∧ ∀ s, s < (mI u 76 11).toNatClampNeg → mI u' 84 s = mI u 79 (40 * x1.toNatClampNeg + (2 + s))) ∨ (¬ gonK (mI u 76 10) (mI u 76 11) (mI u 78 x1.toNatClampNeg) x1 (fun k => mI u 79 (40 * x1.toNatClampNeg + k)) ∧ a = (if 0 ≤ x1 ∧ x1 < 6 then (if 0 < mI u 76 10 then -3 else -4) else -1) ∧ nmS u u' (mI u 76 19)))) (fdM u u' (gonG (mI u 76 10) (mI u 76 11) (mI u 78 x1.toNatClampNeg) x1 (fun k => mI u 79 (40 * x1.toNatClampNeg + k))))) := by
  refine wFM (P := fun a u' => ((gonK (mI u 76 10) (mI u 76 11) (mI u 78 x1.toNatClampNeg) x1 (fun k => mI u 79 (40 * x1.toNatClampNeg + k)) ∧ a = mI u 79 (40 * x1.toNatClampNeg) ∧ mI u' 76 18 = mI u 79 (40 * x1.toNatClampNeg) ∧ mI u' 76 19 = mI u 79 (40 * x1.toNatClampNeg + 1) ∧ ∀ s, s < (mI u 76 11).toNatClampNeg → mI u' 84 s = mI u 79 (40 * x1.toNatClampNeg + (2 + s))) ∨ (¬ gonK (mI u 76 10) (mI u 76 11) (mI u 78 x1.toNatClampNeg) x1 (fun k => mI u 79 (40 * x1.toNatClampNeg + k)) ∧ a = (if 0 ≤ x1 ∧ x1 < 6 then (if 0 < mI u 76 10 then -3 else -4) else -1) ∧ nmS u u' (mI u 76 19)))) (fun z => e_goney hM (fun a b => gonI_e ((gonG_y ⟨a, b⟩).symm.trans z))) (fun z => ?_) (by decide) (by decide)
  have n30 := hM.n30
  refine sg_m_gone_0 ⟨fun a => ?_, fun a => (z (gonG_n (fun y => a ⟨y.1.1, by have := y.1.2; grind⟩))).elim⟩
  have a6 : 0 ≤ x1 ∧ x1 < 6 := ⟨a.1, by have := a.2; grind⟩
  have v6 : vp_in x1 6 := vin a.1 (show (_ : Int32) < 6 from a6.2) (by decide)
  refine ⟨fun b => ?_, fun b => (z (gonG_n (fun y => by have := y.2; rw [b] at this; exact absurd this (by decide)))).elim⟩
  have hn : 0 < mI u 76 10 := by clear z; grind
  refine ⟨v6, fun c => ⟨v6, fun d => ?_, fun d => fml hM ((gonG_y ⟨a6, hn⟩).trans (gonI_5 c d))⟩, fun c => fml hM ((gonG_y ⟨a6, hn⟩).trans (gonI_1 c))⟩
  refine kI (e_isImagex hM a) (fun k v h => ?_)
  obtain ⟨rfl, h⟩ := h
  refine ⟨fun e => ?_, fun e => fml hM ((gonG_y ⟨a6, hn⟩).trans (gonI_3 c d ?_))⟩
  · rcases h with ⟨_, q⟩ | ⟨q, _⟩
    · exact (z ((gonG_y ⟨a6, hn⟩).trans (gonI_0 c d q))).elim
    · exact absurd q e
  · rcases h with ⟨q, _⟩ | ⟨_, q⟩
    · exact absurd e q
    · exact q
theorem d_agreeF {x1 x2 x3 : Int32} (hC : InvC u) (hm : 0 ≤ mI u (mR u 2 10) 1 ∧ mI u (mR u 2 10) 1 ≤ 7) (hK : 0 < mI u (mR u 2 10) 0 → PlK u (mR u 2 10)) : Ws G D_agree 0 [(0, .ref 2), (1, .int x1), (2, .int x2), (3, .int x3)] [] u (RI fun a u' => Cl (qB ++ qF) u u' ∧ fO (cI (agrC (mI u (mR u 2 10) 0) x1 x2 x3 ∧ mI u (mR u 2 10) 1 = 0) 4 0) (Cl qB u u' ∧ agrQ (mI u (mR u 2 10) 0) (mI u (mR u 2 10) 1) x1 x2 x3 (dwC u) a (mI u' 2 12) (u' = dF u 4) (u' = u)) (fdC u u' (cI (agrC (mI u (mR u 2 10) 0) x1 x2 x3 ∧ mI u (mR u 2 10) 1 = 0) 4 0))) := by
  refine wFC (P := fun a u' => agrQ (mI u (mR u 2 10) 0) (mI u (mR u 2 10) 1) x1 x2 x3 (dwC u) a (mI u' 2 12) (u' = dF u 4) (u' = u)) (fun z => d_agreey hC hm hK (cI_n z (by decide))) (fun z => ?_) (by decide) (by decide)
  have q := cI_p z
  refine sg_D_agree_0 (fun hp => ⟨fun a _ => ⟨fun b => ⟨fun c => absurd c (Int32.not_lt.mpr q.1.2.2.1), fun c => ⟨fun d _ => ?_, fun d => absurd q.1.2.2.2 d⟩⟩, fun b => absurd q.1.2.1 b⟩, fun a => absurd q.1.1 a⟩)
  exact ⟨fun mz => absurd q.2 mz, fun mz => fcl hC (cI_t q) (by decide)⟩
theorem e_agreeF {x1 x2 x3 : Int32} {ord : Nat → Nat} (hM : InvM u) (ho : OrdP (shM u) (mI u 76 11).toNatClampNeg ord) (hd : ∀ s, s < (mI u 76 11).toNatClampNeg → 0 ≤ mI u 84 s ∧ mI u 84 s < mI u 76 10) : Ws G m_agree 0 [(0, .ref 76), (1, .int x1), (2, .int x2), (3, .int x3)] [] u (RI fun a u' => Mo (mB ++ mF) u u' ∧ fO (cI (agrC (mI u 76 10) x1 x2 x3 ∧ mI u 76 11 = 0) 4 0) (Mo mB u u' ∧ agrQ (mI u 76 10) (mI u 76 11) x1 x2 x3 (dwM u ord) a (mI u' 76 2) (u' = mt u 4) (u' = u)) (fdM u u' (cI (agrC (mI u 76 10) x1 x2 x3 ∧ mI u 76 11 = 0) 4 0))) := by
  refine wFM (P := fun a u' => agrQ (mI u 76 10) (mI u 76 11) x1 x2 x3 (dwM u ord) a (mI u' 76 2) (u' = mt u 4) (u' = u)) (fun z => e_agreey hM ho hd (cI_n z (by decide))) (fun z => ?_) (by decide) (by decide)
  have q := cI_p z
  have n30 := hM.n30
  have le1 : ∀ x : Int32, 0 ≤ x ∧ x < mI u 76 10 → x ≤ mI u 76 10 - 1 := fun x h => by clear q z; obtain ⟨p, q⟩ := h; obtain ⟨p', q'⟩ := n30; grind
  refine sg_m_agree_0 ⟨fun a => ⟨fun b => ⟨fun w60 => ?_, fun c => absurd q.1.2.2 c⟩, fun b => absurd ⟨q.1.2.1.1, le1 _ q.1.2.1⟩ b⟩, fun a => absurd ⟨q.1.1.1, le1 _ q.1.1⟩ a⟩
  exact ⟨fun mz => absurd q.2 mz, fun mz => fml hM (cI_t q)⟩
theorem renG_n {sz n m x1 x2 x3 : Int32} {f : Nat → Int32} (h : ¬ renK m x1 x2 x3) : renG sz n m x1 x2 x3 f = 0 := by unfold renG; rw [cI_f h]
theorem renG_y {sz n m x1 x2 x3 : Int32} {f : Nat → Int32} (h : renK m x1 x2 x3) : renG sz n m x1 x2 x3 f = pasV sz n f := by unfold renG; rw [cI_t h]
theorem d_rentF {x1 x2 x3 : Int32} (hC : InvC u) (hm : 0 ≤ mI u (mR u 2 10) 1 ∧ mI u (mR u 2 10) 1 ≤ 7) (hK : 0 < mI u (mR u 2 10) 1 → PlK u (mR u 2 10)) (hd : ∀ s, s < (mI u (mR u 2 10) 1).toNatClampNeg → 0 ≤ mI u 8 s ∧ mI u 8 s < mI u (mR u 2 10) 0) : Ws G D_rent 0 [(0, .ref 2), (1, .int x1), (2, .int x2), (3, .int x3)] [] u (RI fun a u' => Cl (qB ++ qF) u u' ∧ fO (renG (mI u (50 + 2 * x1.toNatClampNeg) 1) (mI u (mR u 2 10) 0) (mI u (mR u 2 10) 1) x1 x2 x3 (mI u (51 + 2 * x1.toNatClampNeg))) (Cl qB u u' ∧ renQ (mI u (50 + 2 * x1.toNatClampNeg) 1) (mI u (mR u 2 10) 0) (mI u (mR u 2 10) 1) x1 x2 x3 (mI u (51 + 2 * x1.toNatClampNeg)) (dwC u) a (fun f => u' = dF u f) (u' = u) (FRc u u')) (fdC u u' (renG (mI u (50 + 2 * x1.toNatClampNeg) 1) (mI u (mR u 2 10) 0) (mI u (mR u 2 10) 1) x1 x2 x3 (mI u (51 + 2 * x1.toNatClampNeg))))) := by
  refine wFC (P := fun a u' => renQ (mI u (50 + 2 * x1.toNatClampNeg) 1) (mI u (mR u 2 10) 0) (mI u (mR u 2 10) 1) x1 x2 x3 (mI u (51 + 2 * x1.toNatClampNeg)) (dwC u) a (fun f => u' = dF u f) (u' = u) (FRc u u')) (fun z => d_renty hC hm hK hd (fun k => (renG_y k).symm.trans z)) (fun z => ?_) (by decide) (by decide)
  refine sg_D_rent_0 ⟨fun a hp => ⟨fun b => ⟨fun c => ?_, fun c => (z (renG_n (fun y => c y.2.2))).elim⟩, fun b => (z (renG_n (fun y => b ⟨y.2.1.1, y.2.1.2, Int32.lt_of_lt_of_le y.2.1.2 hm.2⟩))).elim⟩, fun a => (z (renG_n (fun y => a y.1))).elim⟩
  have b' : 0 ≤ x2 ∧ x2 < mI u (mR u 2 10) 1 ∧ x2 < 7 := b
  have k : renK (mI u (mR u 2 10) 1) x1 x2 x3 := ⟨a, ⟨b'.1, b'.2.1⟩, c⟩
  have hK' := hK (Int32.lt_of_le_of_lt b'.1 b'.2.1)
  obtain ⟨eo, hr⟩ := rO a
  rw [eo]
  refine kI (c_passersx hr hK'.1.2) (fun f v q => ?_)
  obtain ⟨rfl, ef⟩ := q
  have e : renG (mI u (50 + 2 * x1.toNatClampNeg) 1) (mI u (mR u 2 10) 0) (mI u (mR u 2 10) 1) x1 x2 x3 (mI u (51 + 2 * x1.toNatClampNeg)) = f := (renG_y k).trans ef.symm
  refine ⟨fun c => (z (e.trans c)).elim, fun c => fcl hC e ?_⟩
  rw [ef]
  exact pasV_r (by rw [← ef]; exact c)
theorem e_rentF {x1 x2 x3 : Int32} {ord : Nat → Nat} (hM : InvM u) (ho : OrdP (shM u) (mI u 76 11).toNatClampNeg ord) : Ws G m_rent 0 [(0, .ref 76), (1, .int x1), (2, .int x2), (3, .int x3)] [] u (RI fun a u' => Mo (mB ++ mF) u u' ∧ fO (renG (mI u 78 x1.toNatClampNeg) (mI u 76 10) (mI u 76 11) x1 x2 x3 (fun k => mI u 79 (40 * x1.toNatClampNeg + k))) (Mo mB u u' ∧ renQ (mI u 78 x1.toNatClampNeg) (mI u 76 10) (mI u 76 11) x1 x2 x3 (fun k => mI u 79 (40 * x1.toNatClampNeg + k)) (dwM u ord) a (fun f => u' = mt u f) (u' = u) (∀ n k, n ≠ 85 → n ≠ 86 → n ≠ 93 → mI u' n k = mI u n k)) (fdM u u' (renG (mI u 78 x1.toNatClampNeg) (mI u 76 10) (mI u 76 11) x1 x2 x3 (fun k => mI u 79 (40 * x1.toNatClampNeg + k))))) := by
  refine wFM (P := fun a u' => renQ (mI u 78 x1.toNatClampNeg) (mI u 76 10) (mI u 76 11) x1 x2 x3 (fun k => mI u 79 (40 * x1.toNatClampNeg + k)) (dwM u ord) a (fun f => u' = mt u f) (u' = u) (∀ n k, n ≠ 85 → n ≠ 86 → n ≠ 93 → mI u' n k = mI u n k)) (fun z => e_renty hM ho (fun k => (renG_y k).symm.trans z)) (fun z => ?_) (by decide) (by decide)
  have m7 := hM.m7
  refine sg_m_rent_0 ⟨fun a => ⟨fun b => ⟨fun c => ?_, fun c => (z (renG_n (fun y => c y.2.2))).elim⟩, fun b => (z (renG_n (fun y => b ⟨y.2.1.1, ?_⟩))).elim⟩, fun a => (z (renG_n (fun y => a ⟨y.1.1, ?_⟩))).elim⟩
  · have xm : x2 < mI u 76 11 := by clear z; have := b.2; obtain ⟨p, q⟩ := m7; obtain ⟨p', q'⟩ := b; grind
    have k : renK (mI u 76 11) x1 x2 x3 := ⟨⟨a.1, by have := a.2; grind⟩, ⟨b.1, xm⟩, c⟩
    refine kI (e_askedRentsx hM a) (fun f v q => ?_)
    rcases q with ⟨y, ef, rfl⟩ | ⟨y, ef, ev⟩
    · exact (z ((renG_y k).trans y)).elim
    · rw [ef, ev]
      exact ⟨fun n => absurd n (by decide), fun _ => fml hM (renG_y k)⟩
  · clear z; obtain ⟨p, q⟩ := m7; obtain ⟨p', q'⟩ := y.2.1; grind
  · clear z; obtain ⟨p', q'⟩ := y.1; grind
theorem d_markF {x1 x2 : Int32} (hC : InvC u) (hm : 0 ≤ mI u (mR u 2 10) 1 ∧ mI u (mR u 2 10) 1 ≤ 7) (hK : 0 < mI u (mR u 2 10) 1 → PlK u (mR u 2 10)) (hw : 0 ≤ mI u 7 0 ∧ mI u 7 0 ≤ 100000) : Ws G D_mark 0 [(0, .ref 2), (1, .int x1), (2, .int x2)] [] u (RI fun a u' => Cl (qB ++ qF) u u' ∧ fO (cI (marK (mI u (mR u 2 10) 1) x1 x2 ∧ ¬ marT (shF u (mR u 2 10) x1.toNatClampNeg).1 x2) 3 0) (Cl qB u u' ∧ marQ (mI u (mR u 2 10) 0) (mI u (mR u 2 10) 1) x1 x2 (mI u 8) (shF u (mR u 2 10)) (mI u 7 0) a (u' = dF u 3) (u' = u)) (fdC u u' (cI (marK (mI u (mR u 2 10) 1) x1 x2 ∧ ¬ marT (shF u (mR u 2 10) x1.toNatClampNeg).1 x2) 3 0))) := by
  refine wFC (P := fun a u' => marQ (mI u (mR u 2 10) 0) (mI u (mR u 2 10) 1) x1 x2 (mI u 8) (shF u (mR u 2 10)) (mI u 7 0) a (u' = dF u 3) (u' = u)) (fun z => d_marky hC hm hK hw (cI_n z (by decide))) (fun z => ?_) (by decide) (by decide)
  have q := cI_p z
  refine sg_D_mark_0 (fun hp => ⟨fun a => ⟨fun b => absurd b (Int32.not_lt.mpr q.1.2.1), fun b => ⟨fun c _ => ?_, fun c => absurd q.1.2.2 c⟩⟩, fun a => absurd ⟨q.1.1.1, q.1.1.2, Int32.lt_of_lt_of_le q.1.1.2 hm.2⟩ a⟩)
  have a' : 0 ≤ x1 ∧ x1 < mI u (mR u 2 10) 1 ∧ x1 < 7 := a
  rw [shO_in a'.1 a'.2.1 a'.2.2]
  exact ⟨fun t => (q.2 t).elim, fun t => fcl hC (cI_t q) (by decide)⟩
theorem e_markF {x1 x2 : Int32} (hM : InvM u) (hs : ∀ s, s < (mI u 76 11).toNatClampNeg → shV (shM u s)) (hd : ∀ s, s < (mI u 76 11).toNatClampNeg → 0 ≤ mI u 84 s ∧ mI u 84 s < mI u 76 10) : Ws G m_mark 0 [(0, .ref 76), (1, .int x1), (2, .int x2)] [] u (RI fun a u' => Mo (mB ++ mF) u u' ∧ fO (cI (marK (mI u 76 11) x1 x2 ∧ ¬ marT (shM u x1.toNatClampNeg).1 x2) 3 0) (Mo mB u u' ∧ marQ (mI u 76 10) (mI u 76 11) x1 x2 (mI u 84) (shM u) (mI u 76 18) a (u' = mt u 3) (u' = u)) (fdM u u' (cI (marK (mI u 76 11) x1 x2 ∧ ¬ marT (shM u x1.toNatClampNeg).1 x2) 3 0))) := by
  refine wFM (P := fun a u' => marQ (mI u 76 10) (mI u 76 11) x1 x2 (mI u 84) (shM u) (mI u 76 18) a (u' = mt u 3) (u' = u)) (fun z => e_marky hM hs hd (cI_n z (by decide))) (fun z => ?_) (by decide) (by decide)
  have q := cI_p z
  have m7 := hM.m7
  have q6 : 0 ≤ x1 ∧ x1 ≤ mI u 76 11 - 1 := ⟨q.1.1.1, by obtain ⟨p, r⟩ := q.1.1; clear z q; obtain ⟨p', q'⟩ := m7; grind⟩
  refine sg_m_mark_0 ⟨fun a => ⟨fun b => ?_, fun b => absurd q.1.2 b⟩, fun a => absurd q6 a⟩
  have l1 := Int32.lt_of_lt_of_le q.1.1.2 m7.2
  have i5 := ix5 a.1 l1
  have a0 := a.1
  have v0 : vp_in (5 * x1 + 0) 70 := vin (by grind) (show (_ : Int32) < 70 by grind) (by decide)
  have e0 : mI u 83 (5 * x1 + 0 : Int32).toNatClampNeg = (shM u x1.toNatClampNeg).1 := by
    rw [i5.1]
    rfl
  exact ⟨v0, fun c => (q.2 (.inl (c.symm.trans e0))).elim, fun c => ⟨fun d => fml hM (cI_t q), fun d => sg_m_isSleeper_0 ⟨v0, fun e => absurd (e.trans d.symm) c, fun e => ⟨v0, fun f => ⟨_, rfl, fun z => absurd rfl z, fun _ => fml hM (cI_t q)⟩, fun f => (q.2 (.inr ⟨d, e0.symm.trans f⟩)).elim⟩⟩⟩⟩
theorem d_findingv (hC : InvC u) : Ws G D_finding 0 [(0, .ref 2)] [] u (RI fun a u' => Cl qB u u' ∧ a = mI u 2 15) := sg_D_finding_0 ⟨_, rfl, Cl.rf hC, rfl⟩
theorem e_findingv (hM : InvM u) : Ws G m_finding 0 [(0, .ref 76)] [] u (RI fun a u' => Mo mB u u' ∧ a = mI u 76 0) := sg_m_finding_0 ⟨_, rfl, Mo.rf hM, rfl⟩
noncomputable def fnsV (x1 : Int32) (f : Nat → Int32) : Int32 := cI (1 ≤ x1 ∧ x1 ≤ 5) (f x1.toNatClampNeg) (-1)
theorem d_findingsv {x1 : Int32} (hC : InvC u) : Ws G D_findings 0 [(0, .ref 2), (1, .int x1)] [] u (RI fun a u' => Cl qB u u' ∧ a = fnsV x1 (mI u 21)) := sg_D_findings_0 ⟨fun a => ⟨_, rfl, Cl.rf hC, (cI_f (fun z => absurd a (Int32.not_lt.mpr z.1))).symm⟩, fun a => ⟨fun b => ⟨vin (by grind) (show (_ : Int32) < 6 by grind) (by decide), _, rfl, Cl.rf hC, (cI_t ⟨Int32.not_lt.mp a, b⟩).symm⟩, fun b => ⟨_, rfl, Cl.rf hC, (cI_f (fun z => b z.2)).symm⟩⟩⟩
theorem e_findingsv {x1 : Int32} (hM : InvM u) : Ws G m_findings 0 [(0, .ref 76), (1, .int x1)] [] u (RI fun a u' => Mo mB u u' ∧ a = fnsV x1 (mI u 77)) := sg_m_findings_0 ⟨fun a => ⟨(vin (by grind) (show (_ : Int32) < 6 by grind) (by decide)), _, rfl, Mo.rf hM, (cI_t a).symm⟩, fun a => ⟨_, rfl, Mo.rf hM, (cI_f a).symm⟩⟩
end FNS
