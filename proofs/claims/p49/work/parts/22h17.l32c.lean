/-! ===== the rows' sizes on both sides ===== -/
def rRel (u v : pM) (r : Nat) : Prop := (mI u (50 + 2 * r) 1 < 0 ∧ mI v 78 r < 0) ∨ (0 ≤ mI u (50 + 2 * r) 1 ∧ mI u (50 + 2 * r) 1 = mI v 78 r)
def RS (u v : pM) : Prop := ∀ r, r < 6 → rRel u v r
theorem rL {r : Nat} (h : r < 6) : okS (50 + 2 * r) 6 ∧ (S0 (50 + 2 * r + 1)).2 = 40 := (show ∀ r, r < 6 → okS (50 + 2 * r) 6 ∧ (S0 (50 + 2 * r + 1)).2 = 40 from by decide +kernel) r h
theorem rO {x1 : Int32} (h : 0 ≤ x1 ∧ x1 < 6) : roV x1 = 50 + 2 * x1.toNatClampNeg ∧ x1.toNatClampNeg < 6 := by
  have l : x1.toNatClampNeg < 6 := ixn (n := 6) h.1 h.2 (by decide)
  refine ⟨?_, l⟩
  unfold roV
  rw [if_pos h]
  exact (show ∀ t, t < 6 → R0 3 t = 50 + 2 * t from by decide +kernel) _ l
theorem rM {r : Nat} (h : r < 6) : In2 (qB ++ qR) (50 + 2 * r) := (show ∀ t, t < 6 → In2 (qB ++ qR) (50 + 2 * t) from by decide) r h
/-- no size is changed -/
def kS (u u' : pM) : Prop := ∀ r, r < 6 → mI u' (50 + 2 * r) 1 = mI u (50 + 2 * r) 1
def kM (u u' : pM) : Prop := ∀ r, r < 6 → mI u' 78 r = mI u 78 r
theorem kS.cq {L : List Nat} {u u' : pM} (h : Cq L u u') : kS u u' := fun _ hr => cq_size h (rL hr).1
theorem kS.tr {u v w : pM} (h : kS u v) (g : kS v w) : kS u w := fun r hr => (g r hr).trans (h r hr)
theorem kS.dF {u : pM} {f : Int32} : kS u (dF u f) := fun r hr => mI_dF ⟨by omega, by omega⟩
theorem kM.mt {u : pM} {f : Int32} : kM u (mt u f) := fun r hr => mI_mt (by decide)
theorem kM.fp {L : List Nat} {u u' : pM} (h : Fp L u u') (hL : 78 ∉ L) : kM u u' := fun r _ => h.1 78 r (by rw [cd_n (by decide)]; exact hL)
theorem RS.fc {u u' v : pM} (h : RS u v) (e : kS u u') : RS u' v := fun r hr => by
  have := h r hr
  unfold rRel at *
  rw [e r hr]
  exact this
theorem RS.fm {u v v' : pM} (h : RS u v) (e : kM v v') : RS u v' := fun r hr => by
  have := h r hr
  unfold rRel at *
  rw [e r hr]
  exact this
/-- what a call did to the sizes: of one row, or of none -/
def szP (u u' : pM) (c : Prop) (x1 y : Int32) : Prop := (c ∧ x1.toNatClampNeg < 6 ∧ mI u' (50 + 2 * x1.toNatClampNeg) 1 = y ∧ ∀ r, r < 6 → r ≠ x1.toNatClampNeg → mI u' (50 + 2 * r) 1 = mI u (50 + 2 * r) 1) ∨ (¬ c ∧ kS u u')
def smP (u u' : pM) (c : Prop) (x1 y : Int32) : Prop := (c ∧ mI u' 78 x1.toNatClampNeg = y ∧ ∀ r, r < 6 → r ≠ x1.toNatClampNeg → mI u' 78 r = mI u 78 r) ∨ (¬ c ∧ kM u u')
theorem RS.both {u u' v v' : pM} {c c' : Prop} {x1 y y' : Int32} (h : RS u v) (p : szP u u' c x1 y) (q : smP v v' c' x1 y') (hc : c ↔ c') (hy : c → (y < 0 ∧ y' < 0) ∨ (0 ≤ y ∧ y = y')) : RS u' v' := by
  intro r hr
  have hr' := h r hr
  unfold rRel at *
  rcases p with ⟨p1, _, p2, p3⟩ | ⟨p1, p2⟩
  · rcases q with ⟨q1, q2, q3⟩ | ⟨q1, q2⟩
    · by_cases e : r = x1.toNatClampNeg
      · rw [e, p2, q2]; exact hy p1
      · rw [p3 r hr e, q3 r hr e]; exact hr'
    · exact absurd (hc.mp p1) q1
  · rcases q with ⟨q1, _⟩ | ⟨q1, q2⟩
    · exact absurd (hc.mpr q1) p1
    · rw [p2 r hr, q2 r hr]; exact hr'
theorem szP.post {u v w : pM} {c : Prop} {x1 y : Int32} (h : szP u v c x1 y) (e : kS v w) : szP u w c x1 y := by
  rcases h with ⟨a, l, b, d⟩ | ⟨a, b⟩
  · exact .inl ⟨a, l, (e _ l).trans b, fun r hr ne => (e r hr).trans (d r hr ne)⟩
  · exact .inr ⟨a, b.tr e⟩
theorem szP.pre {u v w : pM} {c : Prop} {x1 y : Int32} (h : szP v w c x1 y) (e : kS u v) : szP u w c x1 y := by
  rcases h with ⟨a, l, b, d⟩ | ⟨a, b⟩
  · exact .inl ⟨a, l, b, fun r hr ne => (d r hr ne).trans (e r hr)⟩
  · exact .inr ⟨a, e.tr b⟩
theorem smP.pre {u v w : pM} {c c' : Prop} {x1 y : Int32} (h : smP v w c x1 y) (e : kM u v) (hc : c ↔ c') : smP u w c' x1 y := by
  rcases h with ⟨a, b, d⟩ | ⟨a, b⟩
  · exact .inl ⟨hc.mp a, b, fun r hr ne => (d r hr ne).trans (e r hr)⟩
  · exact .inr ⟨fun z => a (hc.mpr z), fun r hr => (b r hr).trans (e r hr)⟩
def rnV (y : Int32) : Int32 := if 40 < y then 40 else y
def rokC (x1 x2 : Int32) : Prop := (0 ≤ x1 ∧ x1 < 6) ∧ x2 ≤ 40 ∧ 0 ≤ x2
def layV (s x1 x2 : Int32) : Int32 := if 0 ≤ x1 ∧ x1 < 6 then (if 0 ≤ x2 ∧ x2 < s then 1 else -3) else -1
def tearV (s x1 : Int32) : Int32 := if 0 ≤ x1 ∧ x1 < 6 then (if 0 ≤ s then 1 else -3) else -1
theorem layV_1 {s x1 x2 : Int32} (h : 0 ≤ layV s x1 x2) : layV s x1 x2 = 1 := by
  unfold layV at *
  split at h
  · rename_i a
    rw [if_pos a]
    split at h
    · rename_i b; rw [if_pos b]
    · exact absurd h (by decide)
  · exact absurd h (by decide)
section SIZ
variable {G : pG} {u : pM}
theorem c_renewr {x1 y z : Int32} {c : Prop} (a : 0 ≤ x1 ∧ x1 < 6) (hC : InvC u) (hc : c) : Ws G Sp_renew 0 [(0, .ref (roV x1)), (1, .int y), (2, .int z)] [] u (RV fun u' => Cl (qB ++ qR) u u' ∧ szP u u' c x1 (rnV y)) := by
  obtain ⟨e, hr⟩ := rO a
  rw [e]
  have k0 := (rL hr).1
  have l := (rL hr).2
  refine sg_Sp_renew_0 k0 (kV (c_fill (L := qB ++ qR) (os_6_0 k0) (by omega) (rM hr).2) (fun v h => ⟨rfl, ((Cl.rf hC).sz k0 (rM hr) ?_).cq h, .inl ⟨hc, hr, ?_, fun r hr' ne => ?_⟩⟩))
  · split
    · exact Int32.le_refl _
    · rename_i q; exact Int32.not_lt.mp q
  · rw [cq_size h k0, mI_eq, l]
    rfl
  · rw [cq_size h (rL hr').1, mI_ne (by omega)]
/-! lay, at -/
theorem e_atz {x1 x2 : Int32} (hM : InvM u) : Ws G m_at 0 [(0, .ref 76), (1, .int x1), (2, .int x2)] [] u (RI fun a u' => Mq mB u u' ∧ layV (mI u 78 x1.toNatClampNeg) x1 x2 = a ∧ (0 ≤ a → 0 ≤ x1 ∧ x1 ≤ 5 ∧ 0 ≤ x2 ∧ x2 < 40)) := by
  refine sg_m_at_0 (sg_m_askedRow_0 ⟨fun a => ?_, fun a => ⟨_, rfl, fun q => absurd q (by decide), fun _ => ⟨_, rfl, Mq.rf, by unfold layV; rw [if_neg (fun z => a ⟨z.1, by have := z.2; grind⟩)], fun z => absurd z (by decide)⟩⟩⟩)
  have a6 : 0 ≤ x1 ∧ x1 < 6 := ⟨a.1, by grind⟩
  have b78 := hM.b78 x1.toNatClampNeg
  have v6 : vp_in x1 6 := vin a.1 (show (_ : Int32) < 6 by grind) (by decide)
  refine ⟨v6, fun b => ⟨_, rfl, fun _ => ⟨v6, fun d => ⟨vin (by grind) (show (_ : Int32) < 240 by grind) (by decide), _, rfl, Mq.rf.pF (by decide), ?_, fun _ => ⟨a.1, a.2, d.1, by grind⟩⟩, fun d => ⟨_, rfl, Mq.rf.tm, ?_, fun z => absurd z (by decide)⟩⟩, fun q => absurd (by decide) q⟩, fun b => ⟨_, rfl, fun q => absurd q (by decide), fun _ => ⟨_, rfl, Mq.rf.tm, ?_, fun z => absurd z (by decide)⟩⟩⟩
  · unfold layV; rw [if_pos a6, if_pos ⟨d.1, by grind⟩]
  · unfold layV; rw [if_pos a6, if_neg (fun z => d ⟨z.1, by have := z.2; grind⟩)]
  · unfold layV; rw [if_pos a6, if_neg (fun z => b (Int32.le_of_lt (Int32.lt_of_le_of_lt z.1 z.2)))]
/-! tear -/
/-! mean -/
/-! copy -/
def copV (s1 s3 x1 x2 x3 x4 x5 : Int32) : Int32 := if (0 ≤ x1 ∧ x1 < 6) ∧ 0 ≤ x3 ∧ x3 < 6 then (if 0 ≤ x5 ∧ 0 ≤ s1 ∧ 0 ≤ s3 ∧ (0 ≤ x2 ∧ x2 ≤ s1 - x5) ∧ 0 ≤ x4 ∧ x4 ≤ s3 - x5 then 1 else -3) else -1
theorem cpL {a b m : Int32} (ha : 0 ≤ a) (hb : 0 ≤ b) (hm : 0 ≤ m) : lg_cmp (a.toInt64 + b.toInt64) m.toInt64 ≤ 0 ↔ a ≤ m - b := by
  have c1 := Int32.toInt_lt a
  have c2 := Int32.toInt_lt b
  have c3 := Int32.toInt_lt m
  have d0 : (0 : Int32).toInt = 0 := by decide
  have a0 := Int32.le_iff_toInt_le.mp ha
  have b0 := Int32.le_iff_toInt_le.mp hb
  have m0 := Int32.le_iff_toInt_le.mp hm
  have e1 : (a.toInt64 + b.toInt64).toInt = a.toInt + b.toInt := by rw [Int64.toInt_add, Int32.toInt_toInt64, Int32.toInt_toInt64, Int.bmod_eq_of_le (by omega) (by omega)]
  have e2 : (m - b).toInt = m.toInt - b.toInt := by rw [Int32.toInt_sub, Int.bmod_eq_of_le (by omega) (by omega)]
  have e3 : m.toInt64.toInt = m.toInt := Int32.toInt_toInt64 _
  constructor
  · intro h
    have := lg_le h
    exact Int32.le_iff_toInt_le.mpr (by omega)
  · intro h
    have h := Int32.le_iff_toInt_le.mp h
    have nz : ¬ ((a.toInt64 + b.toInt64) > m.toInt64) := fun z => by
      have := Int64.lt_iff_toInt_lt.mp z
      omega
    unfold lg_cmp
    rw [if_neg nz]
    split <;> decide
/-! doors, image -/
def imaV (n m x1 : Int32) : Int32 := if 0 ≤ x1 ∧ x1 < 6 then (if 0 < n then m + 2 else -4) else -1
end SIZ
