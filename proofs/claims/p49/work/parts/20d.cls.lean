/-! ===== the class ===== -/
abbrev qZ : List Nat := [0]
abbrev qL : List Nat := [313, 314]
abbrev qB : List Nat := [315, 21, 312, 10, 11, 12, 13, 18, 19, 20]
abbrev qR : List Nat := [5, 6, 50, 51, 52, 53, 54, 55, 56, 57, 58, 59, 60, 61]
abbrev qT : List Nat := [5, 6, 62, 63, 64, 65, 66, 67, 68, 69]
abbrev qN : List Nat := [7, 8]
abbrev qK : List Nat := [70, 71, 72, 73, 74, 75]
abbrev qJ : List Nat := [14, 15, 16, 17]
abbrev qPl (o : Nat) : List Nat := [o, o + 1, o + 2, o + 3, o + 4, o + 5, o + 6, o + 7, o + 8, o + 9, o + 10, o + 11, o + 12, o + 13]
abbrev qP : List Nat := [22, 23, 24, 25, 26, 27, 28, 29, 30, 31, 32, 33, 34, 35, 36, 37, 38, 39, 40, 41, 42, 43, 44, 45, 46, 47, 48, 49]
theorem qPl_w {L : List Nat} {o : Nat} (h : ∀ n ∈ qPl o, n ∈ L) : PlW L o := fun n h1 h2 => h n (by
  obtain ⟨k, rfl⟩ : ∃ k, n = o + k := ⟨n - o, by omega⟩
  rcases (show k = 0 ∨ k = 1 ∨ k = 2 ∨ k = 3 ∨ k = 4 ∨ k = 5 ∨ k = 6 ∨ k = 7 ∨ k = 8 ∨ k = 9 ∨ k = 10 ∨ k = 11 ∨ k = 12 ∨ k = 13 by omega) with rfl | rfl | rfl | rfl | rfl | rfl | rfl | rfl | rfl | rfl | rfl | rfl | rfl | rfl <;> simp)
section CLS
variable {G : pG} {u w : pM} {L : List Nat}
theorem cq_pl {k : Nat} (h : Cq L u w) (hp : pl (mR w 2 10)) : mI w (mR w 2 10) k = mI u (mR u 2 10) k := by
  rw [h.2.1] at hp ⊢
  exact cq_plan h (pl_ok hp)
def rowV (r n : Int32) : Int32 := if 0 ≤ r ∧ r < 6 then (if n ≤ 40 then (if 0 ≤ n then n else -3) else -1) else -1
theorem h_placeFinding {o0 : Nat} {x1 : Int32} (k0 : okS o0 6) : Ws G D_placeFinding 0 [(0, .ref o0), (1, .int x1)] [] u (RI fun _ u' => u = u') := by
  exact sg_D_placeFinding_0 k0 ⟨fun _ => ⟨fun _ => ⟨_, rfl, rfl⟩, fun _ => ⟨_, rfl, rfl⟩⟩, fun _ => ⟨_, rfl, rfl⟩⟩
theorem d_at {x1 : Int32} {x2 : Int32} (hC : InvC u) : Ws G D_at 0 [(0, .ref 2), (1, .int x1), (2, .int x2)] [] u (RI fun _ u' => Cl (qB) u u') := by
  refine sg_D_at_0 ?_
  repeat' first
    | (exact ⟨_, rfl, rfl⟩)
    | (refine lf hC ?_)
    | (assumption)
    | (exact Cq.rf)
    | (refine cq_dF ?_ (by decide))
    | (refine Cq.pI ?_ wr_D (by decide))
    | (refine cq_snB ?_ (by decide) (by decide))
    | (refine cq_spS ?_ (roV_ok _) (roV_m (by decide)))
    | (refine cq_spS ?_ (txV_ok _) (txV_m (by decide)))
    | (refine cq_snB ?_ (kpV_ok _) (kpV_m (by decide)))
    | (refine cq_snS ?_ (by decide) (by decide))
    | (refine Cq.pI ?_ (wr_5 (by decide)) (by decide))
    | (refine Cq.pI ?_ (wr_5 (kpV_ok _)) (cm_5 (kpV_ok _) (kpV_m (by decide))))
    | (refine kIe (h_placeFinding (roV_ok _)) ?_)
    | ((fail_if_success (refine Ws.str ?_)); intro _)
    | (refine And.intro ?_ ?_)
theorem cp_ok {x2 x5 m : Int32} {n : Nat} (h : 0 ≤ x2 ∧ 0 ≤ x5 ∧ x2 ≤ m - x5) (hm : 0 ≤ m) (hn : m ≤ Int32.ofNat n) (hb : n < 2 ^ 31) : ¬ x2 < 0 ∧ ¬ x5 < 0 ∧ x2.toNatClampNeg + x5.toNatClampNeg ≤ n := by
  have c : (Int32.ofNat n).toInt = n := nI_toInt hb
  have h1 := Int32.le_iff_toInt_le.mp h.1
  have h2 := Int32.le_iff_toInt_le.mp h.2.1
  have h3 := Int32.le_iff_toInt_le.mp h.2.2
  have h4 := Int32.le_iff_toInt_le.mp hm
  have h5 := Int32.le_iff_toInt_le.mp hn
  have d : (0 : Int32).toInt = 0 := by decide
  have e2 := Int32.toInt_lt x5
  have e3 := Int32.toInt_lt m
  rw [Int32.toInt_sub, Int.bmod_eq_of_le (by omega) (by omega)] at h3
  refine ⟨by grind, by grind, ?_⟩
  show x2.toInt.toNat + x5.toInt.toNat ≤ n
  omega
theorem i64_ne {x : Int32} (h : 0 < x) : ¬ x.toInt64 = 0 := fun e => by
  have h1 := Int32.lt_iff_toInt_lt.mp h
  have h2 : x.toInt64.toInt = (0 : Int64).toInt := by rw [e]
  rw [Int32.toInt_toInt64] at h2
  have d : (0 : Int32).toInt = 0 := by decide
  have d2 : (0 : Int64).toInt = 0 := by decide
  omega
theorem d_mean {x1 : Int32} (hC : InvC u) : Ws G D_mean 0 [(0, .ref 2), (1, .int x1)] [] u (RI fun _ u' => Cl (qB) u u') := by
  refine sg_D_mean_0 ⟨fun _ => ⟨fun _ => ⟨fun c => kJe (c_sum (roV_ok _)) (fun a => ⟨i64_ne c, lf hC (Cq.rf.pI wr_D (by decide))⟩), fun _ => lf hC (cq_dF Cq.rf (by decide))⟩, fun _ => lf hC (cq_dF Cq.rf (by decide))⟩, fun _ => lf hC Cq.rf⟩
theorem d_fault {x1 : Int32} (hC : InvC u) : Ws G D_fault 0 [(0, .ref 2), (1, .int x1)] [] u (RI fun _ u' => Cl (qB ++ qPl (mR u 2 11)) u u') := by
  exact sg_D_fault_0 ⟨fun _ => ⟨fun _ hp => kI (c_read (qPl_w (fun n h => List.mem_append_right _ h)) (pl_ok hp) (txV_ok _) hC) (fun a v h => ⟨_, rfl, h⟩), fun _ => lf hC (cq_dF Cq.rf ⟨List.mem_append_left _ (by decide), List.mem_append_left _ (by decide)⟩)⟩, fun _ => lf hC Cq.rf⟩
theorem h_trait {x1 x2 : Int32} : Ws G D_trait 0 [(0, .ref 2), (1, .int x1), (2, .int x2)] [] u (RI fun _ u' => u = u') := by
  exact sg_D_trait_0 (fun _ => ⟨fun _ => ⟨_, rfl, rfl⟩, fun _ => ⟨_, rfl, rfl⟩, fun _ => ⟨_, rfl, rfl⟩, fun _ => ⟨_, rfl, rfl⟩, fun _ => ⟨_, rfl, rfl⟩, fun _ => ⟨_, rfl, rfl⟩⟩)
theorem d_about {x1 : Int32} {x2 : Int32} (hC : InvC u) : Ws G D_about 0 [(0, .ref 2), (1, .int x1), (2, .int x2)] [] u (RI fun _ u' => Cl (qB) u u') := by
  refine sg_D_about_0 ?_
  repeat' first
    | (exact ⟨_, rfl, rfl⟩)
    | (refine lf hC ?_)
    | (assumption)
    | (exact Cq.rf)
    | (refine cq_dF ?_ (by decide))
    | (refine Cq.pI ?_ wr_D (by decide))
    | (refine cq_snB ?_ (by decide) (by decide))
    | (refine cq_spS ?_ (roV_ok _) (roV_m (by decide)))
    | (refine cq_spS ?_ (txV_ok _) (txV_m (by decide)))
    | (refine cq_snB ?_ (kpV_ok _) (kpV_m (by decide)))
    | (refine cq_snS ?_ (by decide) (by decide))
    | (refine Cq.pI ?_ (wr_5 (by decide)) (by decide))
    | (refine Cq.pI ?_ (wr_5 (kpV_ok _)) (cm_5 (kpV_ok _) (kpV_m (by decide))))
    | (refine kIe h_trait ?_)
    | ((fail_if_success (refine Ws.str ?_)); intro _)
    | (refine And.intro ?_ ?_)
theorem h_neighbours {x1 : Int32} : Ws G D_neighbours 0 [(0, .ref 2), (1, .int x1)] [] u (RI fun _ u' => u = u') := by
  have key : ∀ x (y : Int32), Ws G D_neighbours 4 [(0, .ref 2), (1, .int x1), (2, .int y), (3, .int x)] [] u (RI fun _ u' => u = u') := by
    refine upI (mI u (mR u 2 10) 1) _ (fun x ih y => ?_)
    exact sg_D_neighbours_4 (fun _ => ⟨fun _ => ⟨_, rfl, rfl⟩, fun c _ => ⟨fun _ => ih c _, fun _ => ih c _⟩⟩)
  exact sg_D_neighbours_0 (key 0 0)
theorem h_rivals {x1 : Int32} : Ws G D_rivals 0 [(0, .ref 2), (1, .int x1)] [] u (RI fun _ u' => u = u') := by
  have key : ∀ x (y : Int32), Ws G D_rivals 4 [(0, .ref 2), (1, .int x1), (2, .int y), (3, .int x)] [] u (RI fun _ u' => u = u') := by
    refine upI (mI u (mR u 2 10) 1) _ (fun x ih y => ?_)
    exact sg_D_rivals_4 (fun _ => ⟨fun _ => ⟨_, rfl, rfl⟩, fun c => ⟨fun _ => ih c _, fun _ hp => kIe (c_wanted (by decide) (pl_ok hp)) (fun _ _ => kIe (c_wanted (by decide) (pl_ok hp)) (fun _ => ⟨fun _ => ih c _, fun _ => ih c _⟩))⟩⟩)
  exact sg_D_rivals_0 (key 0 0)
theorem d_mark {x1 : Int32} {x2 : Int32} (hC : InvC u) : Ws G D_mark 0 [(0, .ref 2), (1, .int x1), (2, .int x2)] [] u (RI fun _ u' => Cl (qB) u u') := by
  refine sg_D_mark_0 ?_
  repeat' first
    | (exact ⟨_, rfl, rfl⟩)
    | (refine lf hC ?_)
    | (assumption)
    | (exact Cq.rf)
    | (refine cq_dF ?_ (by decide))
    | (refine Cq.pI ?_ wr_D (by decide))
    | (refine cq_snB ?_ (by decide) (by decide))
    | (refine cq_spS ?_ (roV_ok _) (roV_m (by decide)))
    | (refine cq_spS ?_ (txV_ok _) (txV_m (by decide)))
    | (refine cq_snB ?_ (kpV_ok _) (kpV_m (by decide)))
    | (refine cq_snS ?_ (by decide) (by decide))
    | (refine Cq.pI ?_ (wr_5 (by decide)) (by decide))
    | (refine Cq.pI ?_ (wr_5 (kpV_ok _)) (cm_5 (kpV_ok _) (kpV_m (by decide))))
    | (refine kIe h_neighbours ?_)
    | (refine kIe h_rivals ?_)
    | (refine kJe (c_way (shO_ok (pl_ok (by assumption)))) ?_)
    | ((fail_if_success (refine Ws.str ?_)); intro _)
    | (refine And.intro ?_ ?_)
theorem d_who {x1 : Int32} (hC : InvC u) : Ws G D_who 0 [(0, .ref 2), (1, .int x1)] [] u (RI fun _ u' => Cl (qB) u u') := by
  have key : ∀ x, Ws G D_who 15 [(0, .ref 2), (1, .int x1), (2, .int x)] [] u (RI fun _ u' => Cl (qB) u u') := by
    refine upI (mI u (mR u 2 10) 1) _ (fun x ih => ?_)
    exact sg_D_who_15 (fun _ => ⟨fun _ => lf hC Cq.rf, fun c => ⟨fun _ => ih c, fun _ => lf hC Cq.rf⟩⟩)
  exact sg_D_who_0 (fun _ => ⟨fun _ => key 0, fun _ => lf hC Cq.rf⟩)
theorem d_wants {x1 : Int32} (hC : InvC u) : Ws G D_wants 0 [(0, .ref 2), (1, .int x1)] [] u (RI fun _ u' => Cl (qB) u u') := by
  refine sg_D_wants_0 ?_
  repeat' first
    | (exact ⟨_, rfl, rfl⟩)
    | (refine lf hC ?_)
    | (assumption)
    | (exact Cq.rf)
    | (refine cq_dF ?_ (by decide))
    | (refine Cq.pI ?_ wr_D (by decide))
    | (refine cq_snB ?_ (by decide) (by decide))
    | (refine cq_spS ?_ (roV_ok _) (roV_m (by decide)))
    | (refine cq_spS ?_ (txV_ok _) (txV_m (by decide)))
    | (refine cq_snB ?_ (kpV_ok _) (kpV_m (by decide)))
    | (refine cq_snS ?_ (by decide) (by decide))
    | (refine Cq.pI ?_ (wr_5 (by decide)) (by decide))
    | (refine Cq.pI ?_ (wr_5 (kpV_ok _)) (cm_5 (kpV_ok _) (kpV_m (by decide))))
    | (refine kVq (u := u) (L := (qB)) (c_pass (by decide) (by decide) (pl_ok (by assumption))) ?_ ?_)
    | (refine kIe (c_wanted (by decide) (pl_ok (by assumption))) ?_)
    | ((fail_if_success (refine Ws.str ?_)); intro _)
    | (refine And.intro ?_ ?_)
theorem d_where {x1 : Int32} {x2 : Int32} (hC : InvC u) : Ws G D_where 0 [(0, .ref 2), (1, .int x1), (2, .int x2)] [] u (RI fun _ u' => Cl (qB) u u') := by
  refine sg_D_where_0 ?_
  repeat' first
    | (exact ⟨_, rfl, rfl⟩)
    | (refine lf hC ?_)
    | (assumption)
    | (exact Cq.rf)
    | (refine cq_dF ?_ (by decide))
    | (refine Cq.pI ?_ wr_D (by decide))
    | (refine cq_snB ?_ (by decide) (by decide))
    | (refine cq_spS ?_ (roV_ok _) (roV_m (by decide)))
    | (refine cq_spS ?_ (txV_ok _) (txV_m (by decide)))
    | (refine cq_snB ?_ (kpV_ok _) (kpV_m (by decide)))
    | (refine cq_snS ?_ (by decide) (by decide))
    | (refine Cq.pI ?_ (wr_5 (by decide)) (by decide))
    | (refine Cq.pI ?_ (wr_5 (kpV_ok _)) (cm_5 (kpV_ok _) (kpV_m (by decide))))
    | (refine kVq (u := u) (L := (qB)) (c_pass (by decide) (by decide) (pl_ok (by assumption))) ?_ ?_)
    | ((fail_if_success (refine Ws.str ?_)); intro _)
    | (refine And.intro ?_ ?_)
theorem d_plainly {x1 : Int32} {x2 : Int32} (hC : InvC u) : Ws G D_plainly 0 [(0, .ref 2), (1, .int x1), (2, .int x2)] [] u (RI fun _ u' => Cl (qB) u u') := by
  refine sg_D_plainly_0 ?_
  repeat' first
    | (exact ⟨_, rfl, rfl⟩)
    | (refine lf hC ?_)
    | (assumption)
    | (exact Cq.rf)
    | (refine cq_dF ?_ (by decide))
    | (refine Cq.pI ?_ wr_D (by decide))
    | (refine cq_snB ?_ (by decide) (by decide))
    | (refine cq_spS ?_ (roV_ok _) (roV_m (by decide)))
    | (refine cq_spS ?_ (txV_ok _) (txV_m (by decide)))
    | (refine cq_snB ?_ (kpV_ok _) (kpV_m (by decide)))
    | (refine cq_snS ?_ (by decide) (by decide))
    | (refine Cq.pI ?_ (wr_5 (by decide)) (by decide))
    | (refine Cq.pI ?_ (wr_5 (kpV_ok _)) (cm_5 (kpV_ok _) (kpV_m (by decide))))
    | (refine kJe (c_way (shO_ok (pl_ok (by assumption)))) ?_)
    | ((fail_if_success (refine Ws.str ?_)); intro _)
    | (refine And.intro ?_ ?_)
theorem d_again  (hC : InvC u) : Ws G D_again 0 [(0, .ref 2)] [] u (RI fun _ u' => Cl (qB) u u') := by
  have key : ∀ x v, Cq (qB) u v → Ws G D_again 26 [(0, .ref 2), (1, .int x)] [] v (RI fun _ u' => Cl (qB) u u') := by
    refine upI 601 _ (fun x ih v hq => ?_)
    refine sg_D_again_26 ?_
    repeat' first
      | (exact ⟨_, rfl, rfl⟩)
      | (refine lf hC ?_)
      | (assumption)
      | (exact Cq.rf)
      | (refine cq_dF ?_ (by decide))
      | (refine Cq.pI ?_ wr_D (by decide))
      | (refine cq_snB ?_ (by decide) (by decide))
      | (refine cq_spS ?_ (roV_ok _) (roV_m (by decide)))
      | (refine cq_spS ?_ (txV_ok _) (txV_m (by decide)))
      | (refine cq_snB ?_ (kpV_ok _) (kpV_m (by decide)))
      | (refine cq_snS ?_ (by decide) (by decide))
      | (refine Cq.pI ?_ (wr_5 (by decide)) (by decide))
      | (refine Cq.pI ?_ (wr_5 (kpV_ok _)) (cm_5 (kpV_ok _) (kpV_m (by decide))))
      | (refine kVq (u := u) (L := (qB)) (c_pass (by decide) (by decide) (pl_ok (by assumption))) ?_ ?_)
      | (refine kIe (c_differing (by decide) (by decide)) ?_)
      | (refine ih (by grind) _ ?_)
      | ((fail_if_success (refine Ws.str ?_)); intro _)
      | (refine And.intro ?_ ?_)
  refine sg_D_again_0 ?_
  repeat' first
    | (exact ⟨_, rfl, rfl⟩)
    | (refine lf hC ?_)
    | (assumption)
    | (exact Cq.rf)
    | (refine cq_dF ?_ (by decide))
    | (refine Cq.pI ?_ wr_D (by decide))
    | (refine cq_snB ?_ (by decide) (by decide))
    | (refine cq_spS ?_ (roV_ok _) (roV_m (by decide)))
    | (refine cq_spS ?_ (txV_ok _) (txV_m (by decide)))
    | (refine cq_snB ?_ (kpV_ok _) (kpV_m (by decide)))
    | (refine cq_snS ?_ (by decide) (by decide))
    | (refine Cq.pI ?_ (wr_5 (by decide)) (by decide))
    | (refine Cq.pI ?_ (wr_5 (kpV_ok _)) (cm_5 (kpV_ok _) (kpV_m (by decide))))
    | (refine key _ _ ?_)
    | ((fail_if_success (refine Ws.str ?_)); intro _)
    | (refine And.intro ?_ ?_)
theorem h_areTwo {x1 x2 : Int32} : Ws G D_areTwo 0 [(0, .ref 2), (1, .int x1), (2, .int x2)] [] u (RI fun _ u' => u = u') := by
  exact sg_D_areTwo_0 (fun _ => ⟨fun _ _ => ⟨fun _ => ⟨fun _ => ⟨_, rfl, rfl⟩, fun _ => ⟨_, rfl, rfl⟩⟩, fun _ => ⟨_, rfl, rfl⟩⟩, fun _ => ⟨_, rfl, rfl⟩⟩)
theorem d_beside {x1 : Int32} {x2 : Int32} (hC : InvC u) : Ws G D_beside 0 [(0, .ref 2), (1, .int x1), (2, .int x2)] [] u (RI fun _ u' => Cl (qB) u u') := by
  have key : ∀ x v, Cq (qB) u v → Ws G D_beside 24 [(0, .ref 2), (1, .int x1), (2, .int x2), (3, .int x)] [] v (RI fun _ u' => Cl (qB) u u') := by
    refine upI 601 _ (fun x ih v hq => ?_)
    refine sg_D_beside_24 ?_
    repeat' first
      | (exact ⟨_, rfl, rfl⟩)
      | (refine lf hC ?_)
      | (assumption)
      | (exact Cq.rf)
      | (refine cq_dF ?_ (by decide))
      | (refine Cq.pI ?_ wr_D (by decide))
      | (refine cq_snB ?_ (by decide) (by decide))
      | (refine cq_spS ?_ (roV_ok _) (roV_m (by decide)))
      | (refine cq_spS ?_ (txV_ok _) (txV_m (by decide)))
      | (refine cq_snB ?_ (kpV_ok _) (kpV_m (by decide)))
      | (refine cq_snS ?_ (by decide) (by decide))
      | (refine Cq.pI ?_ (wr_5 (by decide)) (by decide))
      | (refine Cq.pI ?_ (wr_5 (kpV_ok _)) (cm_5 (kpV_ok _) (kpV_m (by decide))))
      | (refine kVq (u := u) (L := (qB)) (c_pass (by decide) (by decide) (pl_ok (by assumption))) ?_ ?_)
      | (refine ih (by grind) _ ?_)
      | ((fail_if_success (refine Ws.str ?_)); intro _)
      | (refine And.intro ?_ ?_)
  refine sg_D_beside_0 ?_
  repeat' first
    | (exact ⟨_, rfl, rfl⟩)
    | (refine lf hC ?_)
    | (assumption)
    | (exact Cq.rf)
    | (refine cq_dF ?_ (by decide))
    | (refine Cq.pI ?_ wr_D (by decide))
    | (refine cq_snB ?_ (by decide) (by decide))
    | (refine cq_spS ?_ (roV_ok _) (roV_m (by decide)))
    | (refine cq_spS ?_ (txV_ok _) (txV_m (by decide)))
    | (refine cq_snB ?_ (kpV_ok _) (kpV_m (by decide)))
    | (refine cq_snS ?_ (by decide) (by decide))
    | (refine Cq.pI ?_ (wr_5 (by decide)) (by decide))
    | (refine Cq.pI ?_ (wr_5 (kpV_ok _)) (cm_5 (kpV_ok _) (kpV_m (by decide))))
    | (refine kIe h_areTwo ?_)
    | (refine key _ _ ?_)
    | ((fail_if_success (refine Ws.str ?_)); intro _)
    | (refine And.intro ?_ ?_)
theorem d_comes {x1 : Int32} {x2 : Int32} (hC : InvC u) : Ws G D_comes 0 [(0, .ref 2), (1, .int x1), (2, .int x2)] [] u (RI fun _ u' => Cl (qB) u u') := by
  have key : ∀ x v, Cq (qB) u v → Ws G D_comes 37 [(0, .ref 2), (1, .int x1), (2, .int x2), (3, .int x)] [] v (RI fun _ u' => Cl (qB) u u') := by
    refine upI 601 _ (fun x ih v hq => ?_)
    refine sg_D_comes_37 ?_
    repeat' first
      | (exact ⟨_, rfl, rfl⟩)
      | (refine lf hC ?_)
      | (assumption)
      | (exact Cq.rf)
      | (refine cq_dF ?_ (by decide))
      | (refine Cq.pI ?_ wr_D (by decide))
      | (refine cq_snB ?_ (by decide) (by decide))
      | (refine cq_spS ?_ (roV_ok _) (roV_m (by decide)))
      | (refine cq_spS ?_ (txV_ok _) (txV_m (by decide)))
      | (refine cq_snB ?_ (kpV_ok _) (kpV_m (by decide)))
      | (refine cq_snS ?_ (by decide) (by decide))
      | (refine Cq.pI ?_ (wr_5 (by decide)) (by decide))
      | (refine Cq.pI ?_ (wr_5 (kpV_ok _)) (cm_5 (kpV_ok _) (kpV_m (by decide))))
      | (refine kVq (u := u) (L := (qB)) (c_pass (by decide) (by decide) (pl_ok (by assumption))) ?_ ?_)
      | (refine ih (by grind) _ ?_)
      | ((fail_if_success (refine Ws.str ?_)); intro _)
      | (refine And.intro ?_ ?_)
  refine sg_D_comes_0 ?_
  repeat' first
    | (exact ⟨_, rfl, rfl⟩)
    | (refine lf hC ?_)
    | (assumption)
    | (exact Cq.rf)
    | (refine cq_dF ?_ (by decide))
    | (refine Cq.pI ?_ wr_D (by decide))
    | (refine cq_snB ?_ (by decide) (by decide))
    | (refine cq_spS ?_ (roV_ok _) (roV_m (by decide)))
    | (refine cq_spS ?_ (txV_ok _) (txV_m (by decide)))
    | (refine cq_snB ?_ (kpV_ok _) (kpV_m (by decide)))
    | (refine cq_snS ?_ (by decide) (by decide))
    | (refine Cq.pI ?_ (wr_5 (by decide)) (by decide))
    | (refine Cq.pI ?_ (wr_5 (kpV_ok _)) (cm_5 (kpV_ok _) (kpV_m (by decide))))
    | (refine key _ _ ?_)
    | ((fail_if_success (refine Ws.str ?_)); intro _)
    | (refine And.intro ?_ ?_)
theorem d_meets {x1 : Int32} {x2 : Int32} {x3 : Int32} (hC : InvC u) : Ws G D_meets 0 [(0, .ref 2), (1, .int x1), (2, .int x2), (3, .int x3)] [] u (RI fun _ u' => Cl (qB) u u') := by
  have key : ∀ x (x4 x5 x6 : Int32), Ws G D_meets 80 [(0, .ref 2), (3, .int x3), (4, .int x4), (5, .int x5), (6, .int x6), (7, .int x)] [] u (RI fun _ u' => Cl (qB) u u') := by
    refine upI (mI u (mR u 2 10) 0) _ (fun x ih x4 x5 x6 => ?_)
    exact sg_D_meets_80 (fun _ => ⟨fun _ => lf hC Cq.rf, fun c => ⟨fun _ => ih c _ _ _, fun c6 _ => ⟨fun _ => ih c _ _ _, fun _ _ => ⟨by grind, lf hC (Cq.rf.pI wr_D (by decide))⟩⟩⟩⟩)
  refine sg_D_meets_0 ?_
  repeat' first
    | (exact ⟨_, rfl, rfl⟩)
    | (refine lf hC ?_)
    | (assumption)
    | (exact Cq.rf)
    | (refine cq_dF ?_ (by decide))
    | (refine Cq.pI ?_ wr_D (by decide))
    | (refine cq_snB ?_ (by decide) (by decide))
    | (refine cq_spS ?_ (roV_ok _) (roV_m (by decide)))
    | (refine cq_spS ?_ (txV_ok _) (txV_m (by decide)))
    | (refine cq_snB ?_ (kpV_ok _) (kpV_m (by decide)))
    | (refine cq_snS ?_ (by decide) (by decide))
    | (refine Cq.pI ?_ (wr_5 (by decide)) (by decide))
    | (refine Cq.pI ?_ (wr_5 (kpV_ok _)) (cm_5 (kpV_ok _) (kpV_m (by decide))))
    | (refine kIe h_areTwo ?_)
    | (refine kIe (c_commonWith (pl_ok (by assumption))) ?_)
    | (refine key _ _ _ _)
    | ((fail_if_success (refine Ws.str ?_)); intro _)
    | (refine And.intro ?_ ?_)
theorem d_never {x1 : Int32} {x2 : Int32} {x3 : Int32} (hC : InvC u) : Ws G D_never 0 [(0, .ref 2), (1, .int x1), (2, .int x2), (3, .int x3)] [] u (RI fun _ u' => Cl (qB) u u') := by
  refine sg_D_never_0 ?_
  repeat' first
    | (exact ⟨_, rfl, rfl⟩)
    | (refine lf hC ?_)
    | (assumption)
    | (exact Cq.rf)
    | (refine cq_dF ?_ (by decide))
    | (refine Cq.pI ?_ wr_D (by decide))
    | (refine cq_snB ?_ (by decide) (by decide))
    | (refine cq_spS ?_ (roV_ok _) (roV_m (by decide)))
    | (refine cq_spS ?_ (txV_ok _) (txV_m (by decide)))
    | (refine cq_snB ?_ (kpV_ok _) (kpV_m (by decide)))
    | (refine cq_snS ?_ (by decide) (by decide))
    | (refine Cq.pI ?_ (wr_5 (by decide)) (by decide))
    | (refine Cq.pI ?_ (wr_5 (kpV_ok _)) (cm_5 (kpV_ok _) (kpV_m (by decide))))
    | (refine kIe h_areTwo ?_)
    | (refine kIe (c_commonWith (pl_ok (by assumption))) ?_)
    | (refine kIe (c_canMeet (pl_ok (by assumption))) ?_)
    | ((fail_if_success (refine Ws.str ?_)); intro _)
    | (refine And.intro ?_ ?_)
theorem d_walk {x1 : Int32} {x2 : Int32} (hC : InvC u) : Ws G D_walk 0 [(0, .ref 2), (1, .int x1), (2, .int x2)] [] u (RI fun _ u' => Cl (qB) u u') := by
  refine sg_D_walk_0 ?_
  repeat' first
    | (exact ⟨_, rfl, rfl⟩)
    | (refine lf hC ?_)
    | (assumption)
    | (exact Cq.rf)
    | (refine cq_dF ?_ (by decide))
    | (refine Cq.pI ?_ wr_D (by decide))
    | (refine cq_snB ?_ (by decide) (by decide))
    | (refine cq_spS ?_ (roV_ok _) (roV_m (by decide)))
    | (refine cq_spS ?_ (txV_ok _) (txV_m (by decide)))
    | (refine cq_snB ?_ (kpV_ok _) (kpV_m (by decide)))
    | (refine cq_snS ?_ (by decide) (by decide))
    | (refine Cq.pI ?_ (wr_5 (by decide)) (by decide))
    | (refine Cq.pI ?_ (wr_5 (kpV_ok _)) (cm_5 (kpV_ok _) (kpV_m (by decide))))
    | ((fail_if_success (refine Ws.str ?_)); intro _)
    | (refine And.intro ?_ ?_)
theorem d_round {x1 : Int32} {x2 : Int32} (hC : InvC u) : Ws G D_round 0 [(0, .ref 2), (1, .int x1), (2, .int x2)] [] u (RI fun _ u' => Cl (qB) u u') := by
  refine sg_D_round_0 ?_
  repeat' first
    | (exact ⟨_, rfl, rfl⟩)
    | (refine lf hC ?_)
    | (assumption)
    | (exact Cq.rf)
    | (refine cq_dF ?_ (by decide))
    | (refine Cq.pI ?_ wr_D (by decide))
    | (refine cq_snB ?_ (by decide) (by decide))
    | (refine cq_spS ?_ (roV_ok _) (roV_m (by decide)))
    | (refine cq_spS ?_ (txV_ok _) (txV_m (by decide)))
    | (refine cq_snB ?_ (kpV_ok _) (kpV_m (by decide)))
    | (refine cq_snS ?_ (by decide) (by decide))
    | (refine Cq.pI ?_ (wr_5 (by decide)) (by decide))
    | (refine Cq.pI ?_ (wr_5 (kpV_ok _)) (cm_5 (kpV_ok _) (kpV_m (by decide))))
    | (refine kIe (c_roundOf (by decide) (pl_ok (by assumption)) hC) ?_)
    | ((fail_if_success (refine Ws.str ?_)); intro _)
    | (refine And.intro ?_ ?_)
end CLS
