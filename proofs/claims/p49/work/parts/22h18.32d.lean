/-! ===== errands: the size of its row ===== -/
def erC (n m x1 x2 x3 x4 : Int32) : Prop := (0 ≤ x1 ∧ x1 < n) ∧ (0 ≤ x2 ∧ x2 >>> (m &&& 31) = 0) ∧ (¬ x3 < 0 ∧ ¬ 30 < x3) ∧ 0 ≤ x4 ∧ x4 < 6
def ermC (n m x1 x2 x3 x4 : Int32) : Prop := (0 ≤ x1 ∧ x1 ≤ n - 1) ∧ (0 ≤ x2 ∧ x2 ≤ (1 <<< (m &&& 31)) - 1) ∧ (0 ≤ x3 ∧ x3 ≤ 30) ∧ 0 ≤ x4 ∧ x4 ≤ 5
theorem shr_toInt {x : Int32} {i : Nat} (hi : i < 32) : (x >>> (Int32.ofNat i &&& 31)).toInt = x.toInt / ((2 ^ i : Nat) : Int) := by
  show (x >>> (Int32.ofNat i &&& 31)).toBitVec.toInt = _
  rw [Int32.toBitVec_shiftRight, BitVec.sshiftRight_eq', sh_am i hi, BitVec.toInt_sshiftRight, Int.shiftRight_eq_div_pow]
  rfl
theorem set_eq1 {x : Int32} {j : Nat} {P : Int} (hj : j < 32) (hP : ((2 ^ j : Nat) : Int) = P) (h1 : ((1 : Int32) <<< (Int32.ofNat j &&& 31) - 1).toInt = P - 1) (hp : 0 < P) : (0 ≤ x ∧ x >>> (Int32.ofNat j &&& 31) = 0) ↔ (0 ≤ x ∧ x ≤ (1 <<< (Int32.ofNat j &&& 31)) - 1) := by
  have s := shr_toInt (x := x) hj
  rw [hP] at s
  have z : (0 : Int32).toInt = 0 := by decide
  constructor
  · rintro ⟨a, b⟩
    refine ⟨a, Int32.le_iff_toInt_le.mpr ?_⟩
    rw [b, z] at s
    have := Int.lt_ediv_add_one_mul_self x.toInt hp
    rw [← s] at this
    rw [h1]
    omega
  · rintro ⟨a, b⟩
    refine ⟨a, Int32.toInt_inj.mp ?_⟩
    have a' := Int32.le_iff_toInt_le.mp a
    have b' := Int32.le_iff_toInt_le.mp b
    rw [h1] at b'
    rw [s, z]
    exact Int.ediv_eq_zero_of_lt (by omega) (by omega)
theorem set_pw {m : Int32} (h : 0 ≤ m ∧ m ≤ 7) : m.toNatClampNeg < 8 ∧ ((1 : Int32) <<< (m &&& 31) - 1).toInt = ((2 ^ m.toNatClampNeg : Nat) : Int) - 1 := by
  have l := tn_le h.2
  have e7 : (7 : Int32).toNatClampNeg = 7 := by decide
  have l8 : m.toNatClampNeg < 8 := by omega
  refine ⟨l8, ?_⟩
  have k := (show ∀ j, j < 8 → ((1 : Int32) <<< (Int32.ofNat j &&& 31) - 1).toInt = ((2 ^ j : Nat) : Int) - 1 from by decide) _ l8
  rw [i32_nat h.1] at k
  exact k
theorem set_eq {m x : Int32} (h : 0 ≤ m ∧ m ≤ 7) : (0 ≤ x ∧ x >>> (m &&& 31) = 0) ↔ (0 ≤ x ∧ x ≤ (1 <<< (m &&& 31)) - 1) := by
  have k := set_pw h
  have s := set_eq1 (x := x) (j := m.toNatClampNeg) (P := ((2 ^ m.toNatClampNeg : Nat) : Int)) (by omega) rfl (by rw [i32_nat h.1]; exact k.2) ((show ∀ j, j < 8 → (0 : Int) < ((2 ^ j : Nat) : Int) from by decide) _ k.1)
  rw [i32_nat h.1] at s
  exact s
theorem bc_set {m x : Int32} (h : 0 ≤ m ∧ m ≤ 7) (hx : 0 ≤ x ∧ x ≤ (1 <<< (m &&& 31)) - 1) : 0 ≤ rnV (bcV x) ∧ rnV (bcV x) = Int32.ofNat (cnt x m.toNatClampNeg) := by
  have k := set_pw h
  have a := Int32.le_iff_toInt_le.mp hx.1
  have b := Int32.le_iff_toInt_le.mp hx.2
  have c := Int32.lt_iff_toInt_lt.mp (set128 h hx.2)
  have d : (128 : Int32).toInt = 128 := by decide
  have z : (0 : Int32).toInt = 0 := by decide
  have e : x.toNatClampNeg = x.toInt.toNat := rfl
  rw [k.2] at b
  have K := (show ∀ m, m < 8 → ∀ n, n < 128 → n < 2 ^ m → 0 ≤ rnV (bcV (Int32.ofNat n)) ∧ rnV (bcV (Int32.ofNat n)) = Int32.ofNat (cnt (Int32.ofNat n) m) from by decide +kernel) m.toNatClampNeg k.1 x.toNatClampNeg (by omega) (by omega)
  rw [i32_nat hx.1] at K
  exact K
theorem er_eq {n m x1 x2 x3 x4 : Int32} (h : 0 ≤ m ∧ m ≤ 7) (hn : 0 ≤ n ∧ n ≤ 30) : erC n m x1 x2 x3 x4 ↔ ermC n m x1 x2 x3 x4 := by
  unfold erC ermC
  rw [set_eq h]
  constructor
  · rintro ⟨a, b, c, d⟩
    exact ⟨⟨a.1, by have := a.1; have := a.2; grind⟩, b, ⟨Int32.not_lt.mp c.1, Int32.not_lt.mp c.2⟩, d.1, by have := d.1; have := d.2; grind⟩
  · rintro ⟨a, b, c, d⟩
    exact ⟨⟨a.1, by have := a.1; have := a.2; grind⟩, b, ⟨Int32.not_lt.mpr c.1, Int32.not_lt.mpr c.2⟩, d.1, by have := d.1; have := d.2; grind⟩
section ERZ
variable {G : pG} {u : pM}
theorem d_errandsx {x1 x2 x3 x4 : Int32} (hC : InvC u) : Ws G D_errands 0 [(0, .ref 2), (1, .int x1), (2, .int x2), (3, .int x3), (4, .int x4)] [] u (RI fun _ u' => Cl (qB ++ qR) u u' ∧ szP u u' (erC (mI u (mR u 2 10) 0) (mI u (mR u 2 10) 1) x1 x2 x3 x4) x4 (rnV (bcV x2))) := by
  have k1 : ∀ o, okS o 6 → In2 (qB ++ qR) o → ∀ w, Cl (qB ++ qR) u w → szP u w (erC (mI u (mR u 2 10) 0) (mI u (mR u 2 10) 1) x1 x2 x3 x4) x4 (rnV (bcV x2)) → ∀ x v (x6 : Int32), Cq (qB ++ qR) w v → Ws G D_errands 138 [(0, .ref 2), (2, .int x2), (5, .ref o), (6, .int x6), (7, .int x)] [] v (RI fun _ u' => Cl (qB ++ qR) u u' ∧ szP u u' (erC (mI u (mR u 2 10) 0) (mI u (mR u 2 10) 1) x1 x2 x3 x4) x4 (rnV (bcV x2))) := by
    intro o ho mo w hl hz
    refine upI (mI w (mR w 2 10) 1) _ (fun x ih v x6 hq => ?_)
    exact sg_D_errands_138 ho (fun hp => ⟨fun _ => kIe c_walkingFor (fun a => ⟨_, rfl, hl.cq hq, hz.post (kS.cq hq)⟩), fun c => ⟨fun _ => kIe c_weekFor (fun a => ih (by rw [cq_pl hq hp] at c; exact c) _ _ (cq_spS hq ho mo)), fun _ => ih (by rw [cq_pl hq hp] at c; exact c) _ _ hq⟩⟩)
  have key : ∀ x v, erC (mI u (mR u 2 10) 0) (mI u (mR u 2 10) 1) x1 x2 x3 x4 → Cq (qB ++ qR) u v → Ws G D_errands 63 [(0, .ref 2), (1, .int x1), (2, .int x2), (3, .int x3), (4, .int x4), (5, .int x)] [] v (RI fun _ u' => Cl (qB ++ qR) u u' ∧ szP u u' (erC (mI u (mR u 2 10) 0) (mI u (mR u 2 10) 1) x1 x2 x3 x4) x4 (rnV (bcV x2))) := by
    refine upI 31 _ (fun x ih v hc hq => ?_)
    have h3 : ¬ 30 < x3 := hc.2.2.1.2
    exact sg_D_errands_63 ⟨fun _ => kVq (u := u) (c_share (by decide)) hq (fun v hq => kV (c_renewr (c := erC (mI u (mR u 2 10) 0) (mI u (mR u 2 10) 1) x1 x2 x3 x4) hc.2.2.2 (hq.cl hC).1 hc) (fun w h => k1 _ (roV_ok _) (roV_m (by decide)) w ((hq.cl hC).tr h.1) (h.2.pre (kS.cq hq)) _ w _ Cq.rf)), fun c hp => kVq (u := u) (c_look (pl_ok hp) (by decide) (by decide) (hq.cl hC).1) hq (fun v hq hp => kVq (u := u) (c_pass (by decide) (by decide) (pl_ok hp)) hq (fun v hq => ih (by grind) _ hc hq))⟩
  exact sg_D_errands_0 (fun _ => ⟨fun a _ => ⟨fun b => ⟨fun c => ⟨_, rfl, Cl.rf hC, .inr ⟨fun z => z.2.2.1.1 c, fun _ _ => rfl⟩⟩, fun c => ⟨fun d => ⟨_, rfl, Cl.rf hC, .inr ⟨fun z => z.2.2.1.2 d, fun _ _ => rfl⟩⟩, fun d => ⟨fun e => kVq (u := u) (L := (qB ++ qR)) (c_begin (by decide)) Cq.rf (fun v hq => key 0 _ ⟨a, b, ⟨c, d⟩, e⟩ (cq_snB hq (by decide) (by decide))), fun e => ⟨_, rfl, Cl.rf hC, .inr ⟨fun z => e z.2.2.2, fun _ _ => rfl⟩⟩⟩⟩⟩, fun b => ⟨_, rfl, Cl.rf hC, .inr ⟨fun z => b z.2.1, fun _ _ => rfl⟩⟩⟩, fun a => ⟨_, rfl, Cl.rf hC, .inr ⟨fun z => a z.1, fun _ _ => rfl⟩⟩⟩)
end ERZ
