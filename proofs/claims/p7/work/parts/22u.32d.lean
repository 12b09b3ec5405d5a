/-! ===== errands: the size of its row ===== -/
def erC (n m x1 x2 x3 x4 : Int32) : Prop := (0 ≤ x1 ∧ x1 < n) ∧ (0 ≤ x2 ∧ x2 >>> (m &&& 31) = 0) ∧ (¬ x3 < 0 ∧ ¬ 30 < x3) ∧ 0 ≤ x4 ∧ x4 < 6
def ermC (n m x1 x2 x3 x4 : Int32) : Prop := (0 ≤ x1 ∧ x1 ≤ n - 1) ∧ (0 ≤ x2 ∧ x2 ≤ (1 <<< (m &&& 31)) - 1) ∧ (0 ≤ x3 ∧ x3 ≤ 30) ∧ 0 ≤ x4 ∧ x4 ≤ 5
theorem shr_toInt {x : Int32} {i : Nat} (hi : i < 32) : (x >>> (Int32.ofNat i &&& 31)).toInt = x.toInt / ((2 ^ i : Nat) : Int) := by
  show (x >>> (Int32.ofNat i &&& 31)).toBitVec.toInt = _
  rw [Int32.toBitVec_shiftRight, BitVec.sshiftRight_eq', sh_am i hi, BitVec.toInt_sshiftRight, Int.shiftRight_eq_div_pow]
  rfl
theorem set_eq1 {x : Int32} {j : Nat} {P : Int} (hj : j < 32) (hP : ((2 ^ j : Nat) : Int) = P) (h1 : ((1 : Int32) <<< (Int32.ofNat j &&& 31) - 1).toInt = P - 1) (hp : 0 < P) : (0 ≤ x ∧ x >>> (Int32.ofNat j &&& 31) = 0) ↔ (0 ≤ x ∧ x ≤ (1 <<< (Int32.ofNat j &&& 31)) - 1) := by
  have s := shr_toInt (x := x) hj
  rw [hP] at s
  have z : (0 : Int32).toInt = 0 := by decide
  constructor
  · rintro ⟨a, b⟩
    refine ⟨a, Int32.le_iff_toInt_le.mpr ?_⟩
    rw [b, z] at s
    have := Int.lt_ediv_add_one_mul_self x.toInt hp
    rw [← s] at this
    rw [h1]
    omega
  · rintro ⟨a, b⟩
    refine ⟨a, Int32.toInt_inj.mp ?_⟩
    have a' := Int32.le_iff_toInt_le.mp a
    have b' := Int32.le_iff_toInt_le.mp b
    rw [h1] at b'
    rw [s, z]
    exact Int.ediv_eq_zero_of_lt (by omega) (by omega)
theorem set_pw {m : Int32} (h : 0 ≤ m ∧ m ≤ 7) : m.toNatClampNeg < 8 ∧ ((1 : Int32) <<< (m &&& 31) - 1).toInt = ((2 ^ m.toNatClampNeg : Nat) : Int) - 1 := by
  have l := tn_le h.2
  have e7 : (7 : Int32).toNatClampNeg = 7 := by decide
  have l8 : m.toNatClampNeg < 8 := by omega
  refine ⟨l8, ?_⟩
  have k := (show ∀ j, j < 8 → ((1 : Int32) <<< (Int32.ofNat j &&& 31) - 1).toInt = ((2 ^ j : Nat) : Int) - 1 from by decide) _ l8
  rw [i32_nat h.1] at k
  exact k
theorem set_eq {m x : Int32} (h : 0 ≤ m ∧ m ≤ 7) : (0 ≤ x ∧ x >>> (m &&& 31) = 0) ↔ (0 ≤ x ∧ x ≤ (1 <<< (m &&& 31)) - 1) := by
  have k := set_pw h
  have s := set_eq1 (x := x) (j := m.toNatClampNeg) (P := ((2 ^ m.toNatClampNeg : Nat) : Int)) (by omega) rfl (by rw [i32_nat h.1]; exact k.2) ((show ∀ j, j < 8 → (0 : Int) < ((2 ^ j : Nat) : Int) from by decide) _ k.1)
  rw [i32_nat h.1] at s
  exact s
theorem bc_set {m x : Int32} (h : 0 ≤ m ∧ m ≤ 7) (hx : 0 ≤ x ∧ x ≤ (1 <<< (m &&& 31)) - 1) : 0 ≤ rnV (bcV x) ∧ rnV (bcV x) = Int32.ofNat (cnt x m.toNatClampNeg) := by
  have k := set_pw h
  have a := Int32.le_iff_toInt_le.mp hx.1
  have b := Int32.le_iff_toInt_le.mp hx.2
  have c := Int32.lt_iff_toInt_lt.mp (set128 h hx.2)
  have d : (128 : Int32).toInt = 128 := by decide
  have z : (0 : Int32).toInt = 0 := by decide
  have e : x.toNatClampNeg = x.toInt.toNat := rfl
  rw [k.2] at b
  have K := (show ∀ m, m < 8 → ∀ n, n < 128 → n < 2 ^ m → 0 ≤ rnV (bcV (Int32.ofNat n)) ∧ rnV (bcV (Int32.ofNat n)) = Int32.ofNat (cnt (Int32.ofNat n) m) from by decide +kernel) m.toNatClampNeg k.1 x.toNatClampNeg (by omega) (by omega)
  rw [i32_nat hx.1] at K
  exact K
theorem er_eq {n m x1 x2 x3 x4 : Int32} (h : 0 ≤ m ∧ m ≤ 7) (hn : 0 ≤ n ∧ n ≤ 30) : erC n m x1 x2 x3 x4 ↔ ermC n m x1 x2 x3 x4 := by
  unfold erC ermC
  rw [set_eq h]
  constructor
  · rintro ⟨a, b, c, d⟩
    exact ⟨⟨a.1, by have := a.1; have := a.2; grind⟩, b, ⟨Int32.not_lt.mp c.1, Int32.not_lt.mp c.2⟩, d.1, by have := d.1; have := d.2; grind⟩
  · rintro ⟨a, b, c, d⟩
    exact ⟨⟨a.1, by have := a.1; have := a.2; grind⟩, b, ⟨Int32.not_lt.mpr c.1, Int32.not_lt.mpr c.2⟩, d.1, by have := d.1; have := d.2; grind⟩
section ERZ
variable {G : pG} {u : pM}
theorem d_errandsx {x1 x2 x3 x4 : Int32} (hC : InvC u) : Ws G D_errands 0 [(0, .ref 2), (1, .int x1), (2, .int x2), (3, .int x3), (4, .int x4)] [] u (RI fun _ u' => Cl (qB ++ qR) u u' ∧ szP u u' (erC (mI u (mR u 2 10) 0) (mI u (mR u 2 10) 1) x1 x2 x3 x4) x4 (rnV (bcV x2))) := by
  have k1 : ∀ o, okS o 6 → In2 (qB ++ qR) o → ∀ w, Cl (qB ++ qR) u w → szP u w (erC (mI u (mR u 2 10) 0) (mI u (mR u 2 10) 1) x1 x2 x3 x4) x4 (rnV (bcV x2)) → ∀ x v (x6 : Int32), Cq (qB ++ qR) w v → Ws G D_errands 138 [(0, .ref 2), (2, .int x2), (5, .ref o), (6, .int x6), (7, .int x)] [] v (RI fun _ u' => Cl (qB ++ qR) u u' ∧ szP u u' (erC (mI u (mR u 2 10) 0) (mI u (mR u 2 10) 1) x1 x2 x3 x4) x4 (rnV (bcV x2))) := by
    intro o ho mo w hl hz
    refine upI (mI w (mR w 2 10) 1) _ (fun x ih v x6 hq => ?_)
    exact sg_D_errands_138 ho (fun hp => ⟨fun _ => kIe c_walkingFor (fun a => ⟨_, rfl, hl.cq hq, hz.post (kS.cq hq)⟩), fun c => ⟨fun _ => kIe c_weekFor (fun a => ih (by rw [cq_pl hq hp] at c; exact c) _ _ (cq_spS hq ho mo)), fun _ => ih (by rw [cq_pl hq hp] at c; exact c) _ _ hq⟩⟩)
  have key : ∀ x v, erC (mI u (mR u 2 10) 0) (mI u (mR u 2 10) 1) x1 x2 x3 x4 → Cq (qB ++ qR) u v → Ws G D_errands 63 [(0, .ref 2), (1, .int x1), (2, .int x2), (3, .int x3), (4, .int x4), (5, .int x)] [] v (RI fun _ u' => Cl (qB ++ qR) u u' ∧ szP u u' (erC (mI u (mR u 2 10) 0) (mI u (mR u 2 10) 1) x1 x2 x3 x4) x4 (rnV (bcV x2))) := by
    refine upI 31 _ (fun x ih v hc hq => ?_)
    have h3 : ¬ 30 < x3 := hc.2.2.1.2
    exact sg_D_errands_63 ⟨fun _ => kVq (u := u) (c_share (by decide)) hq (fun v hq => kV (c_renewr (c := erC (mI u (mR u 2 10) 0) (mI u (mR u 2 10) 1) x1 x2 x3 x4) hc.2.2.2 (hq.cl hC).1 hc) (fun w h => k1 _ (roV_ok _) (roV_m (by decide)) w ((hq.cl hC).tr h.1) (h.2.pre (kS.cq hq)) _ w _ Cq.rf)), fun c hp => kVq (u := u) (c_look (pl_ok hp) (by decide) (by decide) (hq.cl hC).1) hq (fun v hq hp => kVq (u := u) (c_pass (by decide) (by decide) (pl_ok hp)) hq (fun v hq => ih (by grind) _ hc hq))⟩
  exact sg_D_errands_0 (fun _ => ⟨fun a _ => ⟨fun b => ⟨fun c => ⟨_, rfl, Cl.rf hC, .inr ⟨fun z => z.2.2.1.1 c, fun _ _ => rfl⟩⟩, fun c => ⟨fun d => ⟨_, rfl, Cl.rf hC, .inr ⟨fun z => z.2.2.1.2 d, fun _ _ => rfl⟩⟩, fun d => ⟨fun e => kVq (u := u) (L := (qB ++ qR)) (c_begin (by decide)) Cq.rf (fun v hq => key 0 _ ⟨a, b, ⟨c, d⟩, e⟩ (cq_snB hq (by decide) (by decide))), fun e => ⟨_, rfl, Cl.rf hC, .inr ⟨fun z => e z.2.2.2, fun _ _ => rfl⟩⟩⟩⟩⟩, fun b => ⟨_, rfl, Cl.rf hC, .inr ⟨fun z => b z.2.1, fun _ _ => rfl⟩⟩⟩, fun a => ⟨_, rfl, Cl.rf hC, .inr ⟨fun z => a z.1, fun _ _ => rfl⟩⟩⟩)
theorem e_errandsx {x1 x2 x3 x4 : Int32} (hM : InvM u) : Ws G m_errands 0 [(0, .ref 76), (1, .int x1), (2, .int x2), (3, .int x3), (4, .int x4)] [] u (RI fun _ u' => Mo (mB ++ mRw) u u' ∧ smP u u' (ermC (mI u 76 10) (mI u 76 11) x1 x2 x3 x4) x4 (Int32.ofNat (cnt x2 (mI u 76 11).toNatClampNeg))) := by
  have m7 := hM.m7
  refine sg_m_errands_0 ⟨fun b1 => ⟨fun b2 => ⟨fun b3 => ⟨fun b4 => ?_, fun q => ⟨_, rfl, Mo.rf hM, .inr ⟨fun z => q z.2.2.2, fun _ _ => rfl⟩⟩⟩, fun q => ⟨_, rfl, Mo.rf hM, .inr ⟨fun z => q z.2.2.1, fun _ _ => rfl⟩⟩⟩, fun q => ⟨_, rfl, Mo.rf hM, .inr ⟨fun z => q z.2.1, fun _ _ => rfl⟩⟩⟩, fun q => ⟨_, rfl, Mo.rf hM, .inr ⟨fun z => q z.1, fun _ _ => rfl⟩⟩⟩
  have hcc : ermC (mI u 76 10) (mI u 76 11) x1 x2 x3 x4 := ⟨b1, b2, b3, b4⟩
  have s1 : x2 < 128 := set128 m7 b2.2
  have z0 : (0 : Int32).toNatClampNeg = 0 := by decide
  have l235 : ∀ x (x5 x6 : Int32) v, 0 ≤ x → 0 ≤ x6 → x6 ≤ x → Mq (mB ++ mRw) u v → smP u v (ermC (mI u 76 10) (mI u 76 11) x1 x2 x3 x4) x4 (Int32.ofNat (cnt x2 (mI u 76 11).toNatClampNeg)) → Ws G m_errands 235 [(0, .ref 76), (2, .int x2), (4, .int x4), (5, .int x5), (6, .int x6), (7, .int x)] [] v (RI fun _ u' => Mo (mB ++ mRw) u u' ∧ smP u u' (ermC (mI u 76 10) (mI u 76 11) x1 x2 x3 x4) x4 (Int32.ofNat (cnt x2 (mI u 76 11).toNatClampNeg))) := by
    refine upI (mI u 76 11) _ (fun x ih x5 x6 v h0 h6 h6x hq hz => ?_)
    have e11 := hq.m
    refine sg_m_errands_235 ⟨fun _ => ⟨_, rfl, hq.mo hM, hz⟩, fun c => ?_⟩
    rw [e11] at c
    exact ⟨fun _ => ih c _ _ _ (by grind) h6 (by grind) hq hz, fun _ => ⟨vin h0 (show (_ : Int32) < 7 by grind) (by decide), vin (by grind) (show (_ : Int32) < 240 by grind) (by decide), ih c _ _ _ (by grind) (by grind) (by grind) (hq.pA (by decide)) hz.p79⟩⟩
  have l159 : ∀ x (x5 x6 : Int32) v, 0 ≤ x → 0 ≤ x6 → x6 ≤ x → Mq mB u v → x6 = Int32.ofNat (cnt x2 x.toNatClampNeg) → x ≤ mI u 76 11 → (∀ k, x.toNatClampNeg ≤ k → k < 7 → mI v 91 k = -9) → TT v x2 x3 (x3.toNatClampNeg + 1) x2.toNatClampNeg = x5 → Ws G m_errands 159 [(0, .ref 76), (2, .int x2), (3, .int x3), (4, .int x4), (5, .int x5), (6, .int x6), (7, .int x)] [] v (RI fun _ u' => Mo (mB ++ mRw) u u' ∧ smP u u' (ermC (mI u 76 10) (mI u 76 11) x1 x2 x3 x4) x4 (Int32.ofNat (cnt x2 (mI u 76 11).toNatClampNeg))) := by
    refine upI (mI u 76 11) _ (fun x ih x5 x6 v h0 h6 h6x hq hc6 hxm hF hT => ?_)
    have e11 := hq.m
    refine sg_m_errands_159 ⟨fun c => ?_, fun c => ?_⟩
    · rw [e11] at c
      have e0 : x = mI u 76 11 := Int32.le_antisymm hxm c
      refine kI e_rowz (fun a v' h => ?_)
      have hz : smP u v' (ermC (mI u 76 10) (mI u 76 11) x1 x2 x3 x4) x4 x6 := h.2.2.pre (kM.fp hq.fp (by decide)) ⟨fun _ => hcc, fun _ => ⟨⟨b4.1, by grind⟩, by grind, h6⟩⟩
      rw [hc6, e0] at hz
      exact l235 0 _ _ v' (by decide) (by decide) (by decide) ((Mq.up (L := mB ++ mRw) hq).tr h.2.1) hz
    rw [e11] at c
    have sx := tn_succ h0 c
    have x7 : x < 7 := by grind
    have v7 : vp_in x 7 := vin h0 (show (_ : Int32) < 7 by grind) (by decide)
    have k7 : x.toNatClampNeg < 7 := by
      have l := Int32.lt_iff_toInt_lt.mp x7
      have e : x.toNatClampNeg = x.toInt.toNat := rfl
      have d : (7 : Int32).toInt = 7 := by decide
      omega
    refine ⟨fun t => ih c _ _ _ (by grind) h6 (by grind) hq ?_ (by grind) (fun k hk => hF k (by omega)) hT, fun t => ⟨v7, ?_⟩⟩
    · have tbz : tb x2 x.toNatClampNeg = false := tb_n h0 (by grind) t
      rw [sx, hc6]
      show _ = Int32.ofNat (cnt x2 x.toNatClampNeg + (tb x2 x.toNatClampNeg).toNat)
      rw [tbz]
      rfl
    have tbs : tb x2 x.toNatClampNeg = true := (tbx h0 (by grind)).mp t
    obtain ⟨X, X0, X1, hX⟩ := err_x (R := mI v 88) (F := mI v 91) (b := (mI u 76 11).toNatClampNeg) (s := x.toNatClampNeg) (by omega) b3.1 b2.1 s1 (hq.inv hM).b88 (hF _ (Nat.le_refl _) k7) tbs
    have hT' : tab (mI v 88) (mayF (mI v 91) (mI u 76 11).toNatClampNeg) x2 x3 (x3.toNatClampNeg + 1) x2.toNatClampNeg = x5 := by rw [← e11]; exact hT
    rw [hT'] at hX
    have l186 : ∀ y v', 0 ≤ y → y ≤ X → Mq mB u v' → mI v' 88 = mI v 88 → mI v' 91 = fx (mI v 91) x.toNatClampNeg y → Ws G m_errands 186 [(0, .ref 76), (2, .int x2), (3, .int x3), (4, .int x4), (5, .int x5), (6, .int x6), (7, .int x)] [] v' (RI fun _ u' => Mo (mB ++ mRw) u u' ∧ smP u u' (ermC (mI u 76 10) (mI u 76 11) x1 x2 x3 x4) x4 (Int32.ofNat (cnt x2 (mI u 76 11).toNatClampNeg))) := by
      refine upI X _ (fun y ihy v' y0 yX hq' h88 h91 => ?_)
      have Te : TT v' x2 x3 (x3.toNatClampNeg + 1) x2.toNatClampNeg = tab (mI v 88) (mayF (fx (mI v 91) x.toNatClampNeg y) (mI u 76 11).toNatClampNeg) x2 x3 (x3.toNatClampNeg + 1) x2.toNatClampNeg := by
        rw [TT, h88, h91, hq'.m]
      refine sg_m_errands_186 (kI (e_leastFor (hq'.inv hM) b2.1 s1 b3.1 b3.2) (fun a v'' h => ?_))
      obtain ⟨ea, lq⟩ := h
      have f88 : mI v'' 88 = mI v' 88 := fn2 lq.2.1
      have f91 : mI v'' 91 = mI v' 91 := fn2 lq.2.2
      refine ⟨fun e => ?_, fun ne => ⟨v7, v7, ?_⟩⟩
      · refine ih c _ _ _ (by grind) (by grind) (by grind) (hq'.tr lq.1) ?_ (by grind) (fun k hk hk7 => ?_) ?_
        · rw [sx, hc6]
          show _ = Int32.ofNat (cnt x2 x.toNatClampNeg + (tb x2 x.toNatClampNeg).toNat)
          rw [tbs, Int32.ofNat_add]
          rfl
        · rw [f91, h91, fx, if_neg (by omega)]
          exact hF k (by omega) hk7
        · rw [← e, ea, TT, TT, f88, f91, lq.1.m]
      · have nX : ¬ X ≤ y := by
          intro q
          have : y = X := by grind
          apply ne
          rw [ea, Te, this, hX]
        refine ihy nX _ (by grind) (by grind) ((hq'.tr lq.1).pA (by decide)) ?_ ?_
        · funext k
          rw [mI_ne (by decide), f88, h88]
        · have ev : mI v'' 91 x.toNatClampNeg = y := by rw [f91, h91, fx, if_pos rfl]
          rw [ev]
          exact fx_w (f91.trans h91)
    exact l186 0 _ (by decide) X0 (hq.pA (by decide)) (by funext k; rw [mI_ne (by decide)]) fx_w0
  have l123 : ∀ x v, 0 ≤ x → Mq mB u v → (∀ k, k < x.toNatClampNeg → mI v 91 k = -9) → Ws G m_errands 123 [(0, .ref 76), (2, .int x2), (3, .int x3), (4, .int x4), (5, .int x)] [] v (RI fun _ u' => Mo (mB ++ mRw) u u' ∧ smP u u' (ermC (mI u 76 10) (mI u 76 11) x1 x2 x3 x4) x4 (Int32.ofNat (cnt x2 (mI u 76 11).toNatClampNeg))) := by
    refine upI 7 _ (fun x ih v h0 hq hF => ?_)
    refine sg_m_errands_123 ⟨fun c => kI (e_leastFor (hq.inv hM) b2.1 s1 b3.1 b3.2) (fun a v' h => ?_), fun c => ?_⟩
    · obtain ⟨ea, lq⟩ := h
      refine l159 0 _ _ v' (by decide) (by decide) (by decide) (hq.tr lq.1) (by rw [z0]; rfl) m7.1 (fun k _ hk => ?_) ?_
      · rw [lq.2.2]
        refine hF k ?_
        have l := tn_le c
        have : (7 : Int32).toNatClampNeg = 7 := by decide
        omega
      · rw [ea, TT, TT, fn2 lq.2.1, fn2 lq.2.2, lq.1.m]
    · have sx := tn_succ h0 c
      refine ⟨vin h0 (show (_ : Int32) < 7 by grind) (by decide), ih c _ (by grind) (hq.pA (by decide)) (fun k hk => ?_)⟩
      by_cases e : k = x.toNatClampNeg
      · rw [e, mI_eq]
      · rw [mI_nk e]; exact hF k (by omega)
  have l43 : ∀ x v, 0 ≤ x → Mq mB u v → Ws G m_errands 43 [(0, .ref 76), (1, .int x1), (2, .int x2), (3, .int x3), (4, .int x4), (5, .int x)] [] v (RI fun _ u' => Mo (mB ++ mRw) u u' ∧ smP u u' (ermC (mI u 76 10) (mI u 76 11) x1 x2 x3 x4) x4 (Int32.ofNat (cnt x2 (mI u 76 11).toNatClampNeg))) := by
    refine upI (x3 + 1) _ (fun x ih v h0 hq => ?_)
    refine sg_m_errands_43 ⟨fun _ => l123 0 v (by decide) hq (fun k hk => by omega), fun c => ?_⟩
    have l52 : ∀ y v, 0 ≤ y → Mq mB u v → Ws G m_errands 52 [(0, .ref 76), (1, .int x1), (2, .int x2), (3, .int x3), (4, .int x4), (5, .int x), (6, .int y)] [] v (RI fun _ u' => Mo (mB ++ mRw) u u' ∧ smP u u' (ermC (mI u 76 10) (mI u 76 11) x1 x2 x3 x4) x4 (Int32.ofNat (cnt x2 (mI u 76 11).toNatClampNeg))) := by
      refine upI (x2 + 1) _ (fun y ihy v y0 hq => ?_)
      have hi := hq.inv hM
      refine sg_m_errands_52 ⟨fun _ => kVm (u := u) (L := mB) (e_passOne hi hi.2.2.2.1) hq (fun v' hq' => ih (by grind) _ (by grind) hq'), fun d => ⟨fun _ => ⟨vin (by grind) (show (_ : Int32) < 3968 by grind) (by decide), ihy (by grind) _ (by grind) (hq.p88 (by decide))⟩, fun _ => kI (e_roundOf hi (by grind)) (fun a v' h => ?_)⟩⟩
      obtain ⟨rfl, a0, a1⟩ := h
      exact ⟨vin (by grind) (show (_ : Int32) < 3968 by grind) (by decide), ihy (by grind) _ (by grind) (hq.p88 ⟨a0, Int32.le_trans a1 (by decide)⟩)⟩
    exact l52 0 v (by decide) hq
  exact kVm (u := u) (L := mB) (e_fromNow hM) Mq.rf (fun v hq => l43 0 v (by decide) hq)
end ERZ
