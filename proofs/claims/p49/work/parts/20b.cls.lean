theorem mI_ne {u : pM} {a b n k : Nat} {v : Int32} (h : a ≠ n) : mI (pI u n k v) a b = mI u a b := by show up2 (mI u) n k v a b = _; simp [up2, h]
theorem mI_eq {u : pM} {n k : Nat} {v : Int32} : mI (pI u n k v) n k = v := by show up2 (mI u) n k v n k = _; simp [up2]
theorem mI_nk {u : pM} {n b k : Nat} {v : Int32} (h : b ≠ k) : mI (pI u n k v) n b = mI u n b := by show up2 (mI u) n k v n b = _; simp [up2, h]
section CLS
variable {G : pG} {u : pM} {L : List Nat}
theorem c_sum {o0 : Nat} (k0 : okS o0 6) : Ws G Sp_sum 0 [(0, .ref o0)] [] u (RJ fun _ u' => u = u') := by
  refine sg_Sp_sum_0 k0 ?_
  have key : ∀ x (y : Int64), Ws G Sp_sum 4 [(0, .ref o0), (1, .long y), (3, .int x)] [] u (RJ fun _ u' => u = u') := by
    refine upI (mI u o0 1) _ (fun x ih y => ?_)
    exact sg_Sp_sum_4 k0 ⟨fun _ => ⟨_, rfl, rfl⟩, fun c => ih c _⟩
  exact key 0 0
theorem c_mixS {o0 : Nat} {x1 : Int64} (k0 : okS o0 6) : Ws G Sp_mixedInto 0 [(0, .ref o0), (1, .long x1)] [] u (RJ fun _ u' => u = u') := by
  refine sg_Sp_mixedInto_0 k0 ?_
  have key : ∀ x (y : Int64), Ws G Sp_mixedInto 15 [(0, .ref o0), (3, .long y), (5, .int x)] [] u (RJ fun _ u' => u = u') := by
    refine upI (mI u o0 1) _ (fun x ih y => ?_)
    exact sg_Sp_mixedInto_15 k0 ⟨fun _ => ⟨_, rfl, rfl⟩, fun c => ih c _⟩
  exact key 0 _
theorem c_isFirstDoor {o0 : Nat} {x1 : Int32} (k0 : okS o0 2) : Ws G Pl_isFirstDoor 0 [(0, .ref o0), (1, .int x1)] [] u (RI fun _ u' => u = u') := by
  refine sg_Pl_isFirstDoor_0 k0 ?_
  have key : ∀ x, Ws G Pl_isFirstDoor 2 [(0, .ref o0), (1, .int x1), (2, .int x)] [] u (RI fun _ u' => u = u') := by
    refine upI (mI u o0 1) _ (fun x ih => ?_)
    exact sg_Pl_isFirstDoor_2 k0 ⟨fun _ => ⟨_, rfl, rfl⟩, fun c => ⟨fun _ => ih c, fun _ => ⟨_, rfl, rfl⟩⟩⟩
  exact key 0
theorem c_wanted {o0 o1 : Nat} {x2 : Int32} (k0 : okS o0 5) (k1 : okS o1 2) : Ws G Sn_wanted 0 [(0, .ref o0), (1, .ref o1), (2, .int x2)] [] u (RI fun _ u' => u = u') := sg_Sn_wanted_0 k0 k1 ⟨_, rfl, rfl⟩
theorem c_wayOf {x0 x1 x2 x3 x4 : Int32} : Ws G Sh_wayOf 0 [(0, .int x0), (1, .int x1), (2, .int x2), (3, .int x3), (4, .int x4)] [] u (RJ fun _ u' => u = u') := by
  have key : ∀ (x5 : Int32), ¬ x5 = 0 → ∀ x (x6 : Int32) (x7 x9 : Int64), Ws G Sh_wayOf 30 [(0, .int x0), (1, .int x1), (2, .int x2), (3, .int x3), (4, .int x4), (5, .int x5), (6, .int x6), (7, .long x7), (9, .long x9), (11, .int x)] [] u (RJ fun _ u' => u = u') := by
    intro x5 h5
    refine upI x5 _ (fun x ih x6 x7 x9 => ?_)
    exact sg_Sh_wayOf_30 ⟨fun _ => ⟨h5, _, rfl, rfl⟩, fun c => ⟨fun _ => ih c _ _ _, fun _ => ih c _ _ _⟩⟩
  refine sg_Sh_wayOf_0 ⟨fun c => ?_, fun _ => key 1 (by decide) _ _ _ _⟩
  have h0 : ¬ 2 * x1 = 0 := by grind
  exact ⟨h0, key _ h0 _ _ _ _⟩
theorem c_way {o0 : Nat} {x1 x2 : Int32} (k0 : okS o0 4) : Ws G Sh_way 0 [(0, .ref o0), (1, .int x1), (2, .int x2)] [] u (RJ fun _ u' => u = u') := by
  refine sg_Sh_way_0 k0 (c_wayOf.mono ?_)
  rintro r w _ ⟨x, rfl, rfl⟩
  exact ⟨x, rfl, _, rfl, rfl⟩
theorem c_differing {o0 o1 : Nat} {x2 : Int32} (k0 : okS o0 5) (k1 : okS o1 5) : Ws G Sn_differing 0 [(0, .ref o0), (1, .ref o1), (2, .int x2)] [] u (RI fun _ u' => u = u') := by
  refine sg_Sn_differing_0 k0 k1 ?_
  have key : ∀ x (y : Int32), Ws G Sn_differing 5 [(0, .ref o0), (1, .ref o1), (2, .int x2), (3, .int y), (4, .int x)] [] u (RI fun _ u' => u = u') := by
    refine upI x2 _ (fun x ih y => ?_)
    exact sg_Sn_differing_5 k0 k1 ⟨fun _ => ⟨_, rfl, rfl⟩, fun c => ⟨fun _ => ih c _, fun _ => ih c _⟩⟩
  exact key 0 0
theorem c_roundOf {o0 o1 : Nat} {x2 x3 : Int32} (k0 : okS o0 5) (k1 : okS o1 2) (hC : InvC u) : Ws G Sn_roundOf 0 [(0, .ref o0), (1, .ref o1), (2, .int x2), (3, .int x3)] [] u (RI fun _ u' => u = u') := by
  refine sg_Sn_roundOf_0 k0 k1 ?_
  have h30 := hC.2 o1 k1
  have key2 : ∀ x (x4 x5 x6 : Int32), Ws G Sn_roundOf 59 [(1, .ref o1), (4, .int x4), (5, .int x5), (6, .int x6), (7, .int x)] [] u (RI fun _ u' => u = u') := by
    refine upI 31 _ (fun x ih x4 x5 x6 => ?_)
    exact sg_Sn_roundOf_59 k1 ⟨fun _ => ⟨_, rfl, rfl⟩, fun c => ⟨fun _ => ih (by grind) _ _ _, fun _ => ⟨fun _ => ih (by grind) _ _ _, fun _ => ih (by grind) _ _ _⟩⟩⟩
  have key : ∀ x (x4 : Int32), Ws G Sn_roundOf 6 [(0, .ref o0), (1, .ref o1), (2, .int x2), (3, .int x3), (4, .int x4), (5, .int x)] [] u (RI fun _ u' => u = u') := by
    refine upI (mI u o1 1) _ (fun x ih x4 => ?_)
    exact sg_Sn_roundOf_6 k0 k1 ⟨fun _ => key2 _ _ _ _, fun c => ⟨fun _ => ih c _, fun _ => ih c _⟩⟩
  exact key 0 0
theorem c_weeksCode {x0 x1 : Int32} : Ws G Er_weeksCode 0 [(0, .int x0), (1, .int x1)] [] u (RJ fun _ u' => u = u') := by
  refine sg_Er_weeksCode_0 ?_
  have key : ∀ x (y : Int64), Ws G Er_weeksCode 5 [(0, .int x0), (1, .int x1), (2, .long y), (4, .int x)] [] u (RJ fun _ u' => u = u') := by
    refine upI 7 _ (fun x ih y => ?_)
    exact sg_Er_weeksCode_5 ⟨fun _ => ⟨_, rfl, rfl⟩, fun c => ⟨fun _ => ih c _, fun _ => ih c _⟩⟩
  exact key 0 0
theorem c_leastOf {x1 : Int32} (h1 : x1 < 128) : Ws G Er_leastOf 0 [(0, .ref 18), (1, .int x1)] [] u (RJ fun _ u' => u = u') := by
  refine sg_Er_leastOf_0 ?_
  have key : ∀ x (y : Int64), 1 ≤ x → Ws G Er_leastOf 7 [(0, .ref 18), (1, .int x1), (2, .long y), (4, .int x)] [] u (RJ fun _ u' => u = u') := by
    refine upI 128 _ (fun x ih y h0 => ?_)
    exact sg_Er_leastOf_7 ⟨fun _ => ⟨_, rfl, rfl⟩, fun c1 => ⟨fun _ => ⟨_, rfl, rfl⟩, fun c => ⟨fun _ => ih c _ (by grind), fun _ => ⟨vin (by grind) (show (_ : Int32) < 128 by grind) (by decide), vin (by grind) (show (_ : Int32) < 128 by grind) (by decide), ih c _ (by grind)⟩⟩⟩⟩
  exact key 1 _ (by decide)
theorem c_share {x1 : Int32} (m : 19 ∈ L ∧ 20 ∈ L) : Ws G Er_share 0 [(0, .ref 18), (1, .int x1)] [] u (RV fun u' => Cq L u u') := by
  refine sg_Er_share_0 ?_
  have key : ∀ x v, 1 ≤ x → Cq L u v → Ws G Er_share 2 [(0, .ref 18), (1, .int x1), (2, .int x)] [] v (RV fun u' => Cq L u u') := by
    refine upI 128 _ (fun x ih v h0 hq => ?_)
    refine sg_Er_share_2 ⟨fun _ => ⟨rfl, hq⟩, fun c => ⟨fun _ => ih c _ (by grind) hq, fun _ => (c_leastOf (by grind)).mono ?_⟩⟩
    rintro r w _ ⟨y, rfl, rfl⟩
    exact ⟨y, rfl, vin (by grind) (show (_ : Int32) < 128 by grind) (by decide), ih c _ (by grind) (hq.pL (cm_n ⟨by decide, by decide, by decide, m.2⟩))⟩
  exact key 1 u (by decide) Cq.rf
theorem c_begin (m : 19 ∈ L ∧ 20 ∈ L) : Ws G Er_begin 0 [(0, .ref 18)] [] u (RV fun u' => Cq L u u') := by
  refine sg_Er_begin_0 ((c_fillJ (L := L) (by decide) (by decide) m.1).mono ?_)
  rintro r w _ ⟨rfl, h⟩
  refine ⟨rfl, (c_fillJ (L := L) (by decide) (by decide) m.2).mono ?_⟩
  rintro r z _ ⟨rfl, h2⟩
  exact ⟨rfl, vin (by decide) (by decide) (by decide), rfl, (h.tr h2).pL (cm_n ⟨by decide, by decide, by decide, m.2⟩)⟩
theorem c_look {o1 o2 : Nat} {x3 x4 x5 : Int32} (k1 : okS o1 2) (k2 : okS o2 5) (m : 19 ∈ L ∧ 20 ∈ L) (hC : InvC u) : Ws G Er_look 0 [(0, .ref 18), (1, .ref o1), (2, .ref o2), (3, .int x3), (4, .int x4), (5, .int x5)] [] u (RV fun u' => Cq L u u') := by
  refine sg_Er_look_0 k1 k2 ?_
  have key : ∀ x v, 1 ≤ x → Cq L u v → Ws G Er_look 3 [(0, .ref 18), (1, .ref o1), (2, .ref o2), (3, .int x3), (4, .int x4), (5, .int x5), (6, .int x)] [] v (RV fun u' => Cq L u u') := by
    refine upI 128 _ (fun x ih v h0 hq => ?_)
    refine sg_Er_look_3 k1 k2 ⟨fun _ => ⟨rfl, hq⟩, fun c => ⟨fun _ => ih c _ (by grind) hq, fun _ => (c_roundOf k2 k1 (Cq.cl (L := L) hq hC).1).mono ?_⟩⟩
    rintro r w _ ⟨y, rfl, rfl⟩
    refine ⟨y, rfl, vin (by grind) (show (_ : Int32) < 128 by grind) (by decide), c_weeksCode.mono ?_⟩
    rintro r w _ ⟨z, rfl, rfl⟩
    exact ⟨z, rfl, vin (by grind) (show (_ : Int32) < 128 by grind) (by decide), ih c _ (by grind) (hq.pL (cm_n ⟨by decide, by decide, by decide, m.1⟩))⟩
  exact key 1 u (by decide) Cq.rf
theorem c_weekFor {x1 x2 : Int32} : Ws G Er_weekFor 0 [(0, .ref 18), (1, .int x1), (2, .int x2)] [] u (RI fun _ u' => u = u') :=
  sg_Er_weekFor_0 ⟨fun _ => ⟨_, rfl, rfl⟩, fun c => ⟨fun _ => ⟨_, rfl, rfl⟩, fun c2 => ⟨vin (by grind) (show (_ : Int32) < 128 by grind) (by decide), _, rfl, rfl⟩⟩⟩
theorem c_walkingFor {x1 : Int32} : Ws G Er_walkingFor 0 [(0, .ref 18), (1, .int x1)] [] u (RI fun _ u' => u = u') :=
  sg_Er_walkingFor_0 ⟨fun _ => ⟨_, rfl, rfl⟩, fun c => ⟨fun _ => ⟨_, rfl, rfl⟩, fun c2 => ⟨vin (by grind) (show (_ : Int32) < 128 by grind) (by decide), _, rfl, rfl⟩⟩⟩
theorem c_fits {o1 : Nat} {x2 x3 x4 x5 : Int32} (k1 : okS o1 2) : Ws G Di_fits 0 [(0, .ref 14), (1, .ref o1), (2, .int x2), (3, .int x3), (4, .int x4), (5, .int x5)] [] u (RI fun _ u' => u = u') := by
  refine sg_Di_fits_0 k1 ?_
  have key : ∀ x (x6 : Int32), 0 ≤ x → Ws G Di_fits 13 [(0, .ref 14), (1, .ref o1), (2, .int x2), (3, .int x3), (4, .int x4), (5, .int x5), (6, .int x6), (7, .int x)] [] u (RI fun _ u' => u = u') := by
    refine upI 12 _ (fun x ih x6 h0 => ?_)
    refine sg_Di_fits_13 k1 ⟨fun _ => ⟨_, rfl, rfl⟩, fun _ => ⟨fun _ => ⟨_, rfl, rfl⟩, fun c => ?_⟩⟩
    have hv : vp_in x 12 := vin h0 (show (_ : Int32) < 12 by grind) (by decide)
    refine ⟨hv, fun _ => ih c _ (by grind), fun _ => ⟨hv, c_wayOf.mono ?_⟩⟩
    rintro r w _ ⟨y, rfl, rfl⟩
    exact ⟨y, rfl, hv, fun _ => ih c _ (by grind), fun _ => ⟨_, rfl, rfl⟩⟩
  exact key 0 _ (by decide)
theorem c_sleepers {o0 : Nat} (k0 : okS o0 2) : Ws G Pl_sleepers 0 [(0, .ref o0)] [] u (RI fun _ u' => u = u') := by
  refine sg_Pl_sleepers_0 k0 ?_
  have key : ∀ x (y : Int32), Ws G Pl_sleepers 4 [(0, .ref o0), (1, .int y), (2, .int x)] [] u (RI fun _ u' => u = u') := by
    refine upI (mI u o0 1) _ (fun x ih y => ?_)
    exact sg_Pl_sleepers_4 k0 ⟨fun _ => ⟨_, rfl, rfl⟩, fun c => ⟨fun _ => ih c _, fun _ => ih c _⟩⟩
  exact key 0 0
theorem c_mixD {x1 : Int64} : Ws G Di_mixedInto 0 [(0, .ref 14), (1, .long x1)] [] u (RJ fun _ u' => u = u') := by
  refine sg_Di_mixedInto_0 ?_
  have key : ∀ x (y : Int64), 0 ≤ x → Ws G Di_mixedInto 5 [(0, .ref 14), (3, .long y), (5, .int x)] [] u (RJ fun _ u' => u = u') := by
    refine upI 12 _ (fun x ih y h0 => ?_)
    refine sg_Di_mixedInto_5 ⟨fun _ => ⟨_, rfl, rfl⟩, fun _ => ⟨fun _ => ⟨_, rfl, rfl⟩, fun c => ?_⟩⟩
    have hv : vp_in x 12 := vin h0 (show (_ : Int32) < 12 by grind) (by decide)
    exact ⟨hv, hv, hv, ih c _ (by grind)⟩
  exact key 0 _ (by decide)
theorem c_gcd {x0 x2 : Int64} : Ws G D_greatestCommon 0 [(0, .long x0), (2, .long x2)] [] u (RJ fun _ u' => u = u') := by
  refine sg_D_greatestCommon_0 ?_
  have key : ∀ x (y z : Int64), Ws G D_greatestCommon 15 [(4, .long y), (6, .long z), (8, .int x)] [] u (RJ fun _ u' => u = u') := by
    refine upI 128 _ (fun x ih y z => ?_)
    exact sg_D_greatestCommon_15 ⟨fun _ => ⟨_, rfl, rfl⟩, fun c => ⟨fun _ => ⟨_, rfl, rfl⟩, fun c2 => ⟨fun e => c2 (by rw [e]; decide), ih c _ _⟩⟩⟩
  exact key 0 _ _
theorem c_commonWith {o0 : Nat} {x1 : Int32} (k0 : okS o0 2) : Ws G Pl_commonWith 0 [(0, .ref o0), (1, .int x1)] [] u (RI fun _ u' => u = u') := by
  refine sg_Pl_commonWith_0 k0 (c_gcd.mono ?_)
  rintro r w _ ⟨y, rfl, rfl⟩
  exact ⟨y, rfl, _, rfl, rfl⟩
theorem c_canMeet {o0 : Nat} {x1 x2 : Int32} (k0 : okS o0 2) : Ws G Pl_canMeet 0 [(0, .ref o0), (1, .int x1), (2, .int x2)] [] u (RI fun _ u' => u = u') := by
  refine sg_Pl_canMeet_0 k0 ((c_commonWith k0).mono ?_)
  rintro r w _ ⟨y, rfl, rfl⟩
  exact ⟨y, rfl, fun _ => ⟨_, rfl, rfl⟩, fun c => ⟨by grind, fun _ => ⟨_, rfl, rfl⟩, fun _ => ⟨_, rfl, rfl⟩⟩⟩
end CLS
