/-! ===== the reference reads a square ===== -/
def okSh (d : Int32) (s : Sh5) : Prop := (3 ≤ s.1 → ¬ s.2.2.2.2 = 0) ∧ 0 ≤ s.2.1 ∧ s.2.1 ≤ d - 1
theorem shp_ok {T : Int32 → Int32} {d x p : Int32} {told : Int32 → Bool} {s : Sh5} (h : shp T d told x = some (s, p)) : okSh d s := by
  unfold shp at h
  split at h
  · cases h
  split at h
  · cases h
  rename_i c
  split at h
  · cases h
  have v : 0 ≤ (nm2 T (x + 1)).2.1 ∧ (nm2 T (x + 1)).2.1 ≤ d - 1 := Decidable.not_not.mp (fun z => c (.inr z))
  unfold shp2 at h
  split at h
  · cases h
  split at h
  · cases h
  split at h
  · cases h
  unfold shp3 at h
  split at h
  · cases h
  split at h
  · cases h
  unfold shp4 at h
  split at h
  · rename_i k
    cases h
    exact ⟨fun z => absurd k (Int32.not_lt.mpr z), v.1, v.2⟩
  · split at h
    · cases h
    split at h
    · cases h
    rename_i g
    cases h
    have g2 := (Decidable.not_not.mp g).2
    exact ⟨fun _ z => by
      rw [show dg (T _) = 0 from z] at g2
      exact absurd g2 (by decide), v.1, v.2⟩
theorem rdS_sk {T : Int32 → Int32} {n d x y : Int32} {f : Nat} {l : List Sh5} (h : sk T n x = sk T n y) : rdS T n d f l x = rdS T n d f l y := by
  cases f with
  | zero => rfl
  | succ f => rw [rdS, rdS, h]
def rdB (T : Int32 → Int32) (n x : Int32) : Option (Int32 × List Sh5) := if ¬ T (sk T n x) = 100 then none else if (nm2 T (sk T n x + 1)).1 = 0 ∨ ¬ (10 ≤ (nm2 T (sk T n x + 1)).2.1 ∧ (nm2 T (sk T n x + 1)).2.1 ≤ 30) then none else (rdS T n (nm2 T (sk T n x + 1)).2.1 8 [] (nm2 T (sk T n x + 1)).2.2).map (fun l => ((nm2 T (sk T n x + 1)).2.1, l))
theorem rdB_0 {T : Int32 → Int32} {n : Int32} : rdA T n = rdB T n 0 := rfl
theorem rdB_sk {T : Int32 → Int32} {n x y : Int32} (h : sk T n x = sk T n y) : rdB T n x = rdB T n y := by unfold rdB; rw [h]
/-- how reading ends -/
def RdM (T : Int32 → Int32) (n : Int32) (a : Int32) (w : pM) : Prop := (rdA T n = none ∧ 0 ≤ a) ∨ ∃ d l, rdA T n = some (d, l) ∧ a = -9 ∧ mI w 76 15 = d ∧ MlL w l ∧ (10 ≤ d ∧ d ≤ 30) ∧ ∀ s ∈ l, okSh d s
theorem lt30 {z d : Int32} (h0 : 10 ≤ d) (h : d ≤ 30) (hz : z ≤ d - 1) : z < 30 := by grind
theorem MlL.sh {w : pM} {l : List Sh5} {d : Int32} (h : MlL w l) (hd0 : 10 ≤ d) (hd : d ≤ 30) (ho : ∀ s ∈ l, okSh d s) : 0 ≤ mI w 76 16 ∧ mI w 76 16 ≤ 7 ∧ shG w := by
  have p : (Int32.ofNat l.length).toInt = l.length := nI_toInt (by have := h.2.1; omega)
  have d0 : (0 : Int32).toInt = 0 := by decide
  have d7 : (7 : Int32).toInt = 7 := by decide
  have h7 := h.2.1
  refine ⟨by rw [h.1]; exact Int32.le_iff_toInt_le.mpr (by omega), by rw [h.1]; exact Int32.le_iff_toInt_le.mpr (by omega), fun s s0 s1 => ?_⟩
  have sl : s.toNatClampNeg < l.length := by
    rw [h.1] at s1
    have := tn_lt s0 s1
    rw [Int32.toNatClampNeg_ofNat_of_lt (by omega)] at this
    exact this
  have ixs : ∀ i, i < 7 → (35 + 5 * Int32.ofNat i : Int32).toNatClampNeg = 35 + 5 * i ∧ (35 + 5 * Int32.ofNat i + 1 : Int32).toNatClampNeg = 35 + 5 * i + 1 ∧ (35 + 5 * Int32.ofNat i + 4 : Int32).toNatClampNeg = 35 + 5 * i + 4 := by decide
  have I := ixs s.toNatClampNeg (by omega)
  rw [i32_nat s0] at I
  have g := h.2.2 _ sl
  have o := ho _ (List.mem_of_getElem? g)
  rw [I.1, I.2.1, I.2.2]
  exact ⟨o.1, o.2.1, lt30 hd0 hd o.2.2⟩
section RDM
variable {G : pG} {u : pM}
theorem y_doors {t : Int32} (m : MO t u) : Ws G m_readsDoors 0 [(0, .ref 76), (1, .int t)] [] u (RI fun a w => (∀ n k, ¬ (n = 76 ∧ (k = 13 ∨ k = 14 ∨ k = 15)) → mI w n k = mI u n k) ∧ mRQ w = mRQ u ∧ ((∃ v y, TM u t (mI u 76 13) = 100 ∧ ¬ (nm2 (TM u t) (mI u 76 13 + 1)).1 = 0 ∧ (nm2 (TM u t) (mI u 76 13 + 1)).2.1 = v ∧ (nm2 (TM u t) (mI u 76 13 + 1)).2.2 = y ∧ (10 ≤ v ∧ v ≤ 30) ∧ 0 ≤ y ∧ ¬ a = 0 ∧ mI w 76 13 = y ∧ mI w 76 15 = v) ∨ ((¬ TM u t (mI u 76 13) = 100 ∨ (nm2 (TM u t) (mI u 76 13 + 1)).1 = 0 ∨ ¬ (10 ≤ (nm2 (TM u t) (mI u 76 13 + 1)).2.1 ∧ (nm2 (TM u t) (mI u 76 13 + 1)).2.1 ≤ 30)) ∧ a = 0 ∧ 0 ≤ mI w 76 13))) := by
  refine sg_m_readsDoors_0 (kI (y_sees m) (fun a1 u1 h1 => ?_))
  rcases h1 with ⟨e1, a1n, k1⟩ | ⟨e1, a10, k1⟩
  rotate_left
  · exact ⟨fun _ => ⟨_, rfl, fun n k z => k1.1 n k (by omega), k1.2.2.2, .inr ⟨.inl e1, rfl, by rw [k1.2.1]; exact m.2.2.1⟩⟩, fun z => absurd a10 z⟩
  have P1 := mx1 m e1 (by decide)
  refine ⟨fun z => absurd z a1n, fun _ => kI (y_num2 (k1.mo m P1)) (fun a3 u3 h3 => ?_)⟩
  rw [k1.tm, k1.2.1] at h3
  obtain ⟨k3, i3⟩ := h3
  have P3 := nm2_m m P1
  have k13 := k1.tr k3
  refine ⟨fun a3n => ⟨_, rfl, fun n k z => ?_, k13.2.2.2, .inl ⟨_, _, e1, (i3.mp a3n).1, rfl, rfl, (i3.mp a3n).2, P3, by decide, ?_, ?_⟩⟩, fun a30 => ⟨_, rfl, fun n k z => k13.1 n k (by omega), k13.2.2.2, .inr ⟨.inr ?_, rfl, by rw [k13.2.1]; exact P3⟩⟩⟩
  · show up2 _ 76 15 _ n k = _
    rw [up2, if_neg (by omega)]
    exact k13.1 n k (by omega)
  · rw [mI_nk (by decide)]; exact k13.2.1
  · rw [mI_eq]; exact k13.2.2.1
  · by_cases e : (nm2 (TM u t) (mI u 76 13 + 1)).1 = 0
    · exact .inl e
    · exact .inr (fun y => absurd a30 (i3.mpr ⟨e, y⟩))
theorem y_goesOn {t : Int32} (h1 : 0 ≤ t ∧ t ≤ 3) (hl : 0 ≤ mI u 81 t.toNatClampNeg ∧ mI u 81 t.toNatClampNeg ≤ 100) : Ws G m_goesOn 0 [(0, .ref 76), (1, .int t)] [] u (RI fun a w => Rd0 u w ∧ mRQ w = mRQ u ∧ RdM (TM u t) (mI u 81 t.toNatClampNeg) a w) := by
  obtain ⟨T, hT⟩ : ∃ T, T = TM u t := ⟨_, rfl⟩
  obtain ⟨n, hn⟩ : ∃ n, n = mI u 81 t.toNatClampNeg := ⟨_, rfl⟩
  have hT2 : T = sgT n (fun i => mI u 82 (100 * t.toNatClampNeg + i)) := by rw [hT, hn]; rfl
  rw [← hT, ← hn]
  rw [← hn] at hl
  have out : ∀ x, n ≤ x → T x = -9 := fun x hx => by
    rw [hT2]; unfold sgT
    exact if_neg (fun z => absurd z.2 (Int32.not_lt.mpr hx))
  have skn : ∀ x, ¬ T x = 32 → sk T n x = x := fun x h => by rw [hT2] at h ⊢; exact sk_n h
  have skb : ∀ x, T x = 32 → sk T n x = sk T n (x + 1) := fun x h => by rw [hT2] at h ⊢; exact sk_b hl.2 h
  have st : ∀ v, Rd0 u v → 0 ≤ mI v 76 13 → MO t v ∧ TM v t = T ∧ mI v 81 t.toNatClampNeg = n := fun v r hp => by
    have e1 : ∀ k, mI v 81 k = mI u 81 k := fun k => r _ _ (by omega) (by omega)
    have e2 : ∀ k, mI v 82 k = mI u 82 k := fun k => r _ _ (by omega) (by omega)
    exact ⟨⟨h1.1, h1.2, hp, by rw [e1, ← hn]; exact hl.2⟩, by rw [hT]; exact TM_c e1 e2, by rw [e1, hn]⟩
  -- shops
  have B : ∀ (f : Nat) (l : List Sh5) (d : Int32), f + l.length = 8 → (10 ≤ d ∧ d ≤ 30) → (∀ s ∈ l, okSh d s) → ∀ (p : Int32) (v : pM), 0 ≤ p → Rd0 u v → mRQ v = mRQ u → mI v 76 13 = p → mI v 76 15 = d → MlL v l → rdA T n = (rdS T n d f l p).map (fun l => (d, l)) → Ws G m_goesOn 15 [(0, .ref 76), (1, .int t)] [] v (RI fun a w => Rd0 u w ∧ mRQ w = mRQ u ∧ RdM T n a w) := by
    intro f
    induction f with
    | zero => intro l d hf _ _ p v _ _ _ _ _ hm; exact absurd hm.2.1 (by omega)
    | succ f ih =>
      intro l d hf hd ho
      refine upI n _ (fun p ihp v hp r rr e13 e15 hm E => ?_)
      obtain ⟨m, tm, tn⟩ := st v r (by rw [e13]; exact hp)
      have dn : ¬ mI v 76 15 = 0 := by rw [e15]; grind
      refine sg_m_goesOn_15 ⟨m.v4, fun c => ⟨fun _ => ⟨_, rfl, r, rr, ?_⟩, fun z => absurd z dn⟩, fun c => ⟨m.v4, m.v400, ?_⟩⟩
      · rw [tn, e13] at c
        have np : ¬ T p = 32 := by rw [out p c]; decide
        exact .inr ⟨d, l, by rw [E, rdS, skn p np, if_pos c]; rfl, rfl, e15, hm, hd, ho⟩
      · rw [tn, e13] at c
        rw [m.here, tm, e13]
        refine ⟨fun nb => ⟨fun _ => kI (y_readsShop m hm) (fun a9 v9 h9 => ?_), fun z => absurd z dn⟩, fun b => ?_⟩
        · obtain ⟨p', hp', fr2, fr, q13, h9⟩ := h9
          rw [tm, e15, e13] at h9
          have r9 : Rd0 u v9 := fun n k z y => (fr n k (by omega) (fun q => y ⟨q.1, by omega⟩)).trans (r n k z y)
          rcases h9 with ⟨e9, a90, q16⟩ | ⟨n7, a9n, q16, e9⟩
          · refine ⟨fun z => absurd a90 z, fun _ => ⟨_, rfl, r9, fr2.trans rr, .inl ⟨?_, by rw [q13]; exact hp'⟩⟩⟩
            rw [E, rdS, skn p nb, if_neg c]
            rcases e9 with e | e
            · rw [if_pos e]; rfl
            · by_cases z : l.length = 7
              · rw [if_pos z]; rfl
              · rw [if_neg z, e]; rfl
          · refine ⟨fun _ => ?_, fun z => absurd z a9n⟩
            have l7 : l.length < 7 := by have := hm.2.1; omega
            have os := shp_ok e9
            refine ih (l ++ [mC v9 (35 + 5 * l.length)]) d (by rw [List.length_append, List.length_singleton]; omega) hd (fun s hs => ?_) p' v9 hp' r9 (fr2.trans rr) q13 (by rw [fr _ _ (by omega) (by omega)]; exact e15) ⟨?_, by rw [List.length_append, List.length_singleton]; omega, fun s hs => ?_⟩ (by rw [E, rdS, skn p nb, if_neg c, if_neg n7, e9])
            · rcases List.mem_append.mp hs with z | z
              · exact ho s z
              · rw [List.mem_singleton.mp z]; exact os
            · rw [q16, hm.1, List.length_append, List.length_singleton]
              exact (show ∀ i, i < 7 → Int32.ofNat i + 1 = Int32.ofNat (i + 1) from by decide) _ l7
            · rw [List.length_append, List.length_singleton] at hs
              by_cases es : s = l.length
              · rw [es, List.getElem?_append_right (Nat.le_refl _), Nat.sub_self]; rfl
              · rw [List.getElem?_append_left (by omega), hm.2.2 s (by omega)]
                have ek : ∀ j, j < 5 → mI v9 83 (35 + 5 * s + j) = mI v 83 (35 + 5 * s + j) := fun j hj => fr _ _ (by omega) (fun z => by omega)
                unfold mC
                rw [ek 1 (by decide), ek 2 (by decide), ek 3 (by decide), ek 4 (by decide)]
                have e0 := ek 0 (by decide)
                rw [Nat.add_zero] at e0
                rw [e0]
        · have rb : Rd0 u (pI v 76 13 (p + 1)) := fun n k z y => by
            show up2 (mI v) 76 13 _ n k = _
            rw [up2, if_neg (by omega)]
            exact r n k z y
          have i := sg_in (n := n) (f := fun i => mI u 82 (100 * t.toNatClampNeg + i)) (x := p) (by rw [← hT2, b]; decide)
          have h100 := hl.2
          refine ihp c _ (by grind) rb rr mI_eq (by rw [mI_nk (by decide)]; exact e15) ⟨by rw [mI_nk (by decide)]; exact hm.1, hm.2.1, fun s hs => ?_⟩ (by rw [E]; exact congrArg _ (rdS_sk (skb p b)))
          rw [hm.2.2 s hs]
          unfold mC
          rw [mI_ne (by decide), mI_ne (by decide), mI_ne (by decide), mI_ne (by decide), mI_ne (by decide)]
  -- doors
  have A : ∀ (p : Int32) (v : pM), 0 ≤ p → Rd0 u v → mRQ v = mRQ u → mI v 76 13 = p → mI v 76 15 = 0 → mI v 76 16 = 0 → rdA T n = rdB T n p → Ws G m_goesOn 15 [(0, .ref 76), (1, .int t)] [] v (RI fun a w => Rd0 u w ∧ mRQ w = mRQ u ∧ RdM T n a w) := by
    refine upI n _ (fun p ihp v hp r rr e13 e15 e16 E => ?_)
    obtain ⟨m, tm, tn⟩ := st v r (by rw [e13]; exact hp)
    refine sg_m_goesOn_15 ⟨m.v4, fun c => ⟨fun z => absurd e15 z, fun _ => ⟨m.v4, _, rfl, r, rr, .inl ⟨?_, by rw [tn]; exact hl.1⟩⟩⟩, fun c => ⟨m.v4, m.v400, ?_⟩⟩
    · rw [tn, e13] at c
      have o := out p c
      rw [E]; unfold rdB
      rw [skn p (by rw [o]; decide), if_pos (by rw [o]; decide)]
    · rw [tn, e13] at c
      rw [m.here, tm, e13]
      refine ⟨fun nb => ⟨fun z => absurd e15 z, fun _ => kI (y_doors m) (fun a11 v11 h11 => ?_)⟩, fun b => ?_⟩
      · obtain ⟨fr, fr2, h11⟩ := h11
        rw [tm, e13] at h11
        have r11 : Rd0 u v11 := fun n k z y => (fr n k (by omega)).trans (r n k z y)
        rcases h11 with ⟨d, y, t1, t2, t3, t4, t5, t6, a11n, q13, q15⟩ | ⟨e11, a110, q13⟩
        · refine ⟨fun _ => B 8 [] d rfl t5 (fun s hs => absurd hs (by simp)) y v11 t6 r11 (fr2.trans rr) q13 q15 ⟨by rw [fr _ _ (by omega)]; exact e16, by decide, fun s hs => absurd hs (by simp)⟩ ?_, fun z => absurd z a11n⟩
          rw [E]; unfold rdB
          rw [skn p nb, if_neg (fun z => z t1), t3, t4, if_neg (fun z => z.elim t2 (fun q => q t5))]
        · refine ⟨fun z => absurd a110 z, fun _ => ⟨_, rfl, r11, fr2.trans rr, .inl ⟨?_, q13⟩⟩⟩
          rw [E]; unfold rdB
          rw [skn p nb]
          rcases e11 with e | e
          · rw [if_pos e]
          · by_cases z : T p = 100
            · rw [if_neg (fun q => q z), if_pos e]
            · rw [if_pos z]
      · have rb : Rd0 u (pI v 76 13 (p + 1)) := fun n k z y => by
          show up2 (mI v) 76 13 _ n k = _
          rw [up2, if_neg (by omega)]
          exact r n k z y
        have i := sg_in (n := n) (f := fun i => mI u 82 (100 * t.toNatClampNeg + i)) (x := p) (by rw [← hT2, b]; decide)
        have h100 := hl.2
        exact ihp c _ (by grind) rb rr mI_eq (by rw [mI_nk (by decide)]; exact e15) (by rw [mI_nk (by decide)]; exact e16) (by rw [E]; exact rdB_sk (skb p b))
  refine sg_m_goesOn_0 (A 0 _ (by decide) (fun n k z y => ?_) rfl ?_ ?_ mI_eq rdB_0)
  · show up2 (up2 (up2 (mI u) 76 13 0) 76 15 0) 76 16 0 n k = _
    rw [up2, if_neg (by omega), up2, if_neg (by omega), up2, if_neg (by omega)]
  · rw [mI_nk (by decide), mI_nk (by decide), mI_eq]
  · rw [mI_nk (by decide), mI_eq]
end RDM
