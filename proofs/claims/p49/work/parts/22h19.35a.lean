/-! ===== errands: ways, without a heap ===== -/
theorem b_ext {x y : Int32} (h : ∀ i, i < 32 → tb x i = tb y i) : x = y := by
  apply Int32.toBitVec_inj.mp
  apply BitVec.eq_of_getLsbD_eq
  intro i hi
  exact h i hi
theorem tb_o (x y : Int32) (i : Nat) : tb (x ||| y) i = (tb x i || tb y i) := by
  unfold tb
  rw [Int32.toBitVec_or, BitVec.getLsbD_or]
theorem tb_0 (i : Nat) : tb 0 i = false := BitVec.getLsbD_zero
def Sub (p k : Int32) : Prop := ∀ i, i < 32 → tb p i = true → tb k i = true
abbrev mi (k p : Int32) : Int32 := k &&& (p ^^^ (-1))
theorem tb_mi {k p : Int32} {i : Nat} (hi : i < 32) : tb (mi k p) i = (tb k i && !tb p i) := by rw [tb_a, tb_x hi]
theorem Sub.and {p k : Int32} (h : Sub p k) : p &&& k = p := b_ext (fun i hi => by
  rw [tb_a]
  cases e : tb p i
  · rfl
  · rw [h i hi e]; rfl)
theorem Sub.of {p k : Int32} (h : p &&& k = p) : Sub p k := fun i _ e => by
  rw [← h, tb_a, Bool.and_eq_true] at e
  exact e.2
theorem Sub.tr {p q k : Int32} (h : Sub p q) (h2 : Sub q k) : Sub p k := fun i hi e => h2 i hi (h i hi e)
theorem Sub.mi {k p : Int32} : Sub (mi k p) k := fun i hi e => by
  rw [tb_mi hi, Bool.and_eq_true] at e
  exact e.1
theorem Sub.z {k : Int32} : Sub 0 k := fun i _ e => by rw [tb_0] at e; exact absurd e (by decide)
theorem Sub.nn {p k : Int32} (h : Sub p k) (h0 : 0 ≤ k) : 0 ≤ p ∧ p ≤ k := by
  have := and_leI (a := p) h0
  rw [h.and] at this
  exact this
theorem mi_0 {k : Int32} : mi k 0 = k := b_ext (fun i hi => by rw [tb_mi hi, tb_0]; simp)
def dg5 (p : Int32) (G : Nat → Int) (s : Nat) : Int := if tb p s = true then G s else 0
/-- the weeks of a set as one number, the least shop's topmost -/
def cod (p : Int32) (G : Nat → Int) : Int := dg5 p G 0 * 1073741824 + dg5 p G 1 * 33554432 + dg5 p G 2 * 1048576 + dg5 p G 3 * 32768 + dg5 p G 4 * 1024 + dg5 p G 5 * 32 + dg5 p G 6
theorem cod_split {k p : Int32} {G A B : Nat → Int} (hs : Sub p k) (hA : ∀ s, s < 7 → tb p s = true → G s = A s) (hB : ∀ s, s < 7 → tb p s = false → tb k s = true → G s = B s) : cod k G = cod p A + cod (mi k p) B := by
  have d : ∀ s, s < 7 → dg5 k G s = dg5 p A s + dg5 (mi k p) B s := fun s h7 => by
    unfold dg5
    have t := tb_mi (k := k) (p := p) (i := s) (by omega)
    rw [t]
    cases hp : tb p s
    · cases hk : tb k s
      · simp
      · simp [hB s h7 hp hk]
    · have hk := hs s (by omega) hp
      rw [hk]
      simp [hA s h7 hp]
  unfold cod
  have d0 := d 0 (by decide)
  have d1 := d 1 (by decide)
  have d2 := d 2 (by decide)
  have d3 := d 3 (by decide)
  have d4 := d 4 (by decide)
  have d5 := d 5 (by decide)
  have d6 := d 6 (by decide)
  omega
theorem cod_0 {G : Nat → Int} : cod 0 G = 0 := by
  have d : ∀ s, dg5 0 G s = 0 := fun s => by unfold dg5; rw [tb_0]; rfl
  unfold cod
  simp [d]
theorem cod_b {p : Int32} {G : Nat → Int} (h : ∀ s, s < 7 → tb p s = true → 0 ≤ G s ∧ G s ≤ 30) : (∀ s, s < 7 → 0 ≤ dg5 p G s ∧ dg5 p G s ≤ 30) ∧ 0 ≤ cod p G ∧ cod p G < 34359738368 := by
  have d : ∀ s, s < 7 → 0 ≤ dg5 p G s ∧ dg5 p G s ≤ 30 := fun s h7 => by
    unfold dg5
    split
    · rename_i e; exact h s h7 e
    · omega
  refine ⟨d, ?_⟩
  have d0 := d 0 (by decide)
  have d1 := d 1 (by decide)
  have d2 := d 2 (by decide)
  have d3 := d 3 (by decide)
  have d4 := d 4 (by decide)
  have d5 := d 5 (by decide)
  have d6 := d 6 (by decide)
  unfold cod
  omega
/-- a way: a part for each of the last j weeks -/
def Way (X : Nat → Int32 → Int) (W : Nat) : Nat → Int32 → Int → Prop
  | 0, k, v => k = 0 ∧ v = 0
  | j + 1, k, v => ∃ p v', Sub p k ∧ Way X W j (mi k p) v' ∧ v = X (W - j) p + v'
section WAY
variable {X : Nat → Int32 → Int} {W : Nat} {set : Int32}
theorem way0 (h0 : ∀ w, w ≤ W → X w 0 = 0) : ∀ j, Way X W j 0 0
  | 0 => ⟨rfl, rfl⟩
  | j + 1 => ⟨0, 0, Sub.z, by rw [mi_0]; exact way0 h0 j, by rw [h0 _ (by omega)]; rfl⟩
theorem Way.merge (hX : ∀ w p q, w ≤ W → Sub p set → Sub q set → (∀ i, i < 32 → tb p i = true → tb q i = false) → X w (p ||| q) ≤ X w p + X w q) : ∀ (j : Nat) (k p : Int32) (w : Nat) (v' : Int), j ≤ W + 1 → W + 1 - j ≤ w → w ≤ W → Sub k set → Sub p k → Way X W j (mi k p) v' → ∃ v, Way X W j k v ∧ v ≤ X w p + v'
  | 0, k, p, w, v', _, h1, h2, _, _, _ => by omega
  | j + 1, k, p, w, v', hj, h1, h2, hk, hp, h => by
    obtain ⟨q, v1, hq, hw, e⟩ := h
    have dis : ∀ i, i < 32 → tb p i = true → tb q i = false := fun i hi z => by
      cases y : tb q i
      · rfl
      · have := hq i hi y
        rw [tb_mi hi, z] at this
        simp at this
    have qk : Sub q k := hq.tr Sub.mi
    by_cases c : w = W - j
    · have e1 : mi k (p ||| q) = mi (mi k p) q := b_ext (fun i hi => by
        rw [tb_mi hi, tb_mi hi, tb_mi hi, tb_o]
        cases tb k i <;> cases tb p i <;> cases tb q i <;> rfl)
      refine ⟨X (W - j) (p ||| q) + v1, ⟨p ||| q, v1, fun i hi z => ?_, by rw [e1]; exact hw, rfl⟩, ?_⟩
      · rw [tb_o, Bool.or_eq_true] at z
        rcases z with z | z
        · exact hp i hi z
        · exact qk i hi z
      · have := hX w p q h2 (hp.tr hk) (qk.tr hk) dis
        rw [e, c] at *
        omega
    · have e1 : mi (mi k p) q = mi (mi k q) p := b_ext (fun i hi => by
        rw [tb_mi hi, tb_mi hi, tb_mi hi, tb_mi hi]
        cases tb k i <;> cases tb p i <;> cases tb q i <;> rfl)
      rw [e1] at hw
      have sp : Sub p (mi k q) := fun i hi z => by
        rw [tb_mi hi, hp i hi z, dis i hi z]; rfl
      obtain ⟨v2, a, b⟩ := Way.merge hX j (mi k q) p w v1 (by omega) (by omega) h2 (Sub.mi.tr hk) sp hw
      exact ⟨X (W - j) q + v2, ⟨q, v2, qk, a, rfl⟩, by omega⟩
theorem cnt_lt {x y : Int32} : ∀ n, (∀ j, j < n → tb x j = true → tb y j = true) → (∃ i, i < n ∧ tb x i = false ∧ tb y i = true) → cnt x n < cnt y n
  | 0, _, h => by obtain ⟨i, a, _⟩ := h; omega
  | n + 1, h, ⟨i, a, b, c⟩ => by
    have l := cnt_sub n (fun j hj => h j (by omega))
    rw [cnt, cnt]
    by_cases e : i = n
    · rw [e] at b c
      rw [b, c]
      simp
      omega
    · have l2 := cnt_lt n (fun j hj => h j (by omega)) ⟨i, by omega, b, c⟩
      have g := h n (by omega)
      cases z : tb x n
      · simp; omega
      · rw [g z]; simp; omega
theorem way_at {S T : Int32 → Int} (h0 : ∀ w, w ≤ W → X w 0 = 0) (hX : ∀ w p q, w ≤ W → Sub p set → Sub q set → (∀ i, i < 32 → tb p i = true → tb q i = false) → X w (p ||| q) ≤ X w p + X w q) (hS0 : S 0 = 0) (hS : ∀ k, ¬ k = 0 → Sub k set → ∃ p, ¬ p = 0 ∧ Sub p k ∧ S k = T p + S (mi k p)) (hT : ∀ p, ¬ p = 0 → Sub p set → ∃ w, w ≤ W ∧ T p = X w p) : ∀ (c : Nat) (k : Int32), cnt k 32 = c → Sub k set → ∃ v, Way X W (W + 1) k v ∧ v ≤ S k := by
  intro c
  induction c using Nat.strongRecOn with
  | ind c ih =>
    intro k hc hk
    by_cases e : k = 0
    · exact ⟨0, by rw [e]; exact way0 h0 _, by rw [e, hS0]; exact Int.le_refl 0⟩
    · obtain ⟨p, p0, hp, eS⟩ := hS k e hk
      have ex : ∃ i, i < 32 ∧ tb p i = true := by
        refine Decidable.byContradiction (fun z => p0 (b_ext (fun i hi => ?_)))
        rw [tb_0]
        cases y : tb p i
        · rfl
        · exact absurd ⟨i, hi, y⟩ z
      obtain ⟨i, hi, pi⟩ := ex
      have lt := cnt_lt (x := mi k p) (y := k) 32 (fun j hj z => Sub.mi j hj z) ⟨i, hi, by rw [tb_mi hi, pi]; simp, hp i hi pi⟩
      obtain ⟨v', a, b⟩ := ih _ (by omega) (mi k p) rfl (Sub.mi.tr hk)
      obtain ⟨w, hw, eT⟩ := hT p p0 (hp.tr hk)
      obtain ⟨v, a2, b2⟩ := Way.merge hX (W + 1) k p w v' (Nat.le_refl _) (by omega) hw hk hp a
      exact ⟨v, a2, by omega⟩
theorem way_le {S T : Int32 → Int} (h0 : ∀ w, w ≤ W → X w 0 = 0) (hS0 : S 0 = 0) (hS : ∀ k p, Sub k set → ¬ p = 0 → Sub p k → S k ≤ T p + S (mi k p)) (hT : ∀ p w, ¬ p = 0 → Sub p set → w ≤ W → T p ≤ X w p) : ∀ (j : Nat) (k : Int32) (v : Int), Sub k set → Way X W j k v → S k ≤ v
  | 0, k, v, _, h => by rw [h.1, h.2, hS0]; exact Int.le_refl 0
  | j + 1, k, v, hk, h => by
    obtain ⟨p, v', hp, hw, e⟩ := h
    have r := way_le h0 hS0 hS hT j _ _ (Sub.mi.tr hk) hw
    by_cases p0 : p = 0
    · rw [p0, mi_0] at r
      rw [e, p0, h0 _ (by omega)]
      omega
    · have a := hS k p hk p0 hp
      have b := hT p (W - j) p0 (hp.tr hk) (by omega)
      omega
end WAY
/-! ===== the reference's table and the ways ===== -/
def chW (k : Nat) : Nat → Nat → Bool
  | 0, part => Nat.beq part 0
  | p + 1, part => if Nat.beq (Nat.land (p + 1) k) (p + 1) then (Nat.beq part (p + 1) && chW k p (Nat.land p k)) else chW k p part
theorem of_andN (p k : Nat) : (Int32.ofNat p &&& Int32.ofNat k) = Int32.ofNat (Nat.land p k) := by
  apply Int32.toBitVec_inj.mp
  rw [Int32.toBitVec_and]
  exact BitVec.ofNat_and.symm
theorem seq_w {k : Nat} (hk : k < 128) : ∀ (p part f : Nat), p < 128 → part < 128 → p < f → chW k p part = true → ∀ q, q ≤ p → Nat.land q k = q → Int32.ofNat q ∈ seqP (Int32.ofNat k) f (Int32.ofNat part)
  | 0, part, f, _, _, hf, hc, q, hq, _ => by
    have e : part = 0 := Nat.eq_of_beq_eq_true hc
    have e2 : q = 0 := by omega
    cases f with
    | zero => omega
    | succ f =>
      rw [e, e2]
      unfold seqP
      rw [if_neg (show ¬ Int32.ofNat 0 < 0 by decide)]
      exact List.mem_cons_self
  | p + 1, part, f, hp, hpt, hf, hc, q, hq, hs => by
    unfold chW at hc
    by_cases c : Nat.beq (Nat.land (p + 1) k) (p + 1) = true
    · rw [if_pos c, Bool.and_eq_true] at hc
      have e : part = p + 1 := Nat.eq_of_beq_eq_true hc.1
      cases f with
      | zero => omega
      | succ f =>
        subst e
        unfold seqP
        rw [if_neg ((show ∀ n, n < 128 → ¬ Int32.ofNat n < 0 from by decide +kernel) _ hp)]
        by_cases g : q = p + 1
        · rw [g]; exact List.mem_cons_self
        · have n0 : ¬ Int32.ofNat (p + 1) = 0 := (show ∀ n, n < 127 → ¬ Int32.ofNat (n + 1) = 0 from by decide +kernel) p (by omega)
          have n1 : Int32.ofNat (p + 1) - 1 = Int32.ofNat p := (show ∀ n, n < 127 → Int32.ofNat (n + 1) - 1 = Int32.ofNat n from by decide +kernel) p (by omega)
          rw [if_neg n0, n1, of_andN]
          have l : Nat.land p k ≤ p := Nat.and_le_left
          exact List.mem_cons_of_mem _ (seq_w hk p (Nat.land p k) f (by omega) (by omega) (by omega) hc.2 q (by omega) hs)
    · rw [if_neg c] at hc
      refine seq_w hk p part f (by omega) hpt (by omega) hc q ?_ hs
      by_cases g : q = p + 1
      · rw [g] at hs
        exact absurd (by rw [hs]; exact Nat.beq_refl _) c
      · omega
theorem seq_ch : ∀ k, k < 128 → chW k k k = true := by decide +kernel
theorem seq_all : ∀ k, k < 128 → ∀ p, p < 128 → (Int32.ofNat p &&& Int32.ofNat k) = Int32.ofNat p → (seqP (Int32.ofNat k) 130 (Int32.ofNat k)).contains (Int32.ofNat p) = true := fun k hk p hp h => by
  rw [of_andN] at h
  have l : Nat.land p k ≤ p := Nat.and_le_left
  have l2 : Nat.land p k ≤ k := Nat.and_le_right
  have e := congrArg Int32.toInt h
  have e1 : (Int32.ofNat (Nat.land p k)).toInt = ((Nat.land p k : Nat) : Int) := nI_toInt (by omega)
  have e3 : (Int32.ofNat p).toInt = ((p : Nat) : Int) := nI_toInt (by omega)
  rw [e1, e3] at e
  have e2 : Nat.land p k = p := by omega
  exact List.contains_iff_mem.mpr (seq_w hk k k 130 hk hk (by omega) (seq_ch k hk) p (by omega) e2)
theorem seq_mem {k p : Int32} (h0 : 0 ≤ k) (h1 : k < 128) (hp : Sub p k) : p ∈ seqP k 130 k := by
  have n := hp.nn h0
  have lk : k.toNatClampNeg < 128 := ixn (n := 128) h0 h1 (by decide)
  have lp : p.toNatClampNeg < 128 := ixn (n := 128) n.1 (Int32.lt_of_le_of_lt n.2 h1) (by decide)
  have r := seq_all _ lk _ lp
  rw [i32_nat h0, i32_nat n.1] at r
  exact List.contains_iff_mem.mp (r hp.and)
def Rv (R : Nat → Int32) (w : Nat) (p : Int32) : Int := (R (128 * w + p.toNatClampNeg)).toInt
def XP (R : Nat → Int32) (w : Nat) (p : Int32) : Int := Rv R w p * 34359738368 + cod p (fun _ => (w : Int))
theorem ix128 {w p : Int32} (hw : 0 ≤ w ∧ w ≤ 30) (hp : 0 ≤ p ∧ p < 128) : (128 * w + p : Int32).toNatClampNeg = 128 * w.toNatClampNeg + p.toNatClampNeg := by
  have a := Int32.le_iff_toInt_le.mp hw.1
  have b := Int32.le_iff_toInt_le.mp hw.2
  have c := Int32.le_iff_toInt_le.mp hp.1
  have d := Int32.lt_iff_toInt_lt.mp hp.2
  have d0 : (0 : Int32).toInt = 0 := by decide
  have d1 : (30 : Int32).toInt = 30 := by decide
  have d2 : (128 : Int32).toInt = 128 := by decide
  show (128 * w + p).toInt.toNat = 128 * w.toInt.toNat + p.toInt.toNat
  rw [Int32.toInt_add, Int32.toInt_mul, d2, Int.bmod_eq_of_le (n := 128 * w.toInt) (by omega) (by omega), Int.bmod_eq_of_le (by omega) (by omega)]
  omega
theorem wk_j {weeks : Int32} {j : Nat} (h0 : 0 ≤ weeks ∧ weeks ≤ 30) (hj : j ≤ weeks.toNatClampNeg) : (0 ≤ weeks - Int32.ofNat j ∧ weeks - Int32.ofNat j ≤ 30) ∧ (weeks - Int32.ofNat j).toNatClampNeg = weeks.toNatClampNeg - j ∧ (weeks - Int32.ofNat j).toInt = ((weeks.toNatClampNeg - j : Nat) : Int) := by
  have a := Int32.le_iff_toInt_le.mp h0.1
  have b := Int32.le_iff_toInt_le.mp h0.2
  have d0 : (0 : Int32).toInt = 0 := by decide
  have d1 : (30 : Int32).toInt = 30 := by decide
  have e : weeks.toNatClampNeg = weeks.toInt.toNat := rfl
  have ej : (Int32.ofNat j).toInt = (j : Int) := nI_toInt (by omega)
  have s : (weeks - Int32.ofNat j).toInt = weeks.toInt - j := by rw [Int32.toInt_sub, ej, Int.bmod_eq_of_le (by omega) (by omega)]
  have t : (weeks - Int32.ofNat j).toNatClampNeg = (weeks - Int32.ofNat j).toInt.toNat := rfl
  exact ⟨⟨Int32.le_iff_toInt_le.mpr (by omega), Int32.le_iff_toInt_le.mpr (by omega)⟩, by omega, by omega⟩
/-- what the rounds are like -/
def rdK (R : Nat → Int32) (set weeks : Int32) : Prop := ∀ w, w ≤ weeks.toNatClampNeg → (∀ p, Sub p set → 0 ≤ Rv R w p ∧ Rv R w p ≤ 30) ∧ Rv R w 0 = 0 ∧ ∀ p q, Sub p set → Sub q set → Rv R w (p ||| q) ≤ Rv R w p + Rv R w q
theorem XP_0 {R : Nat → Int32} {set weeks : Int32} (h : rdK R set weeks) : ∀ w, w ≤ weeks.toNatClampNeg → XP R w 0 = 0 := fun w hw => by
  unfold XP
  rw [(h w hw).2.1, cod_0]
  rfl
theorem XP_a {R : Nat → Int32} {set weeks : Int32} (h : rdK R set weeks) : ∀ w p q, w ≤ weeks.toNatClampNeg → Sub p set → Sub q set → (∀ i, i < 32 → tb p i = true → tb q i = false) → XP R w (p ||| q) ≤ XP R w p + XP R w q := fun w p q hw hp hq dis => by
  have a := (h w hw).2.2 p q hp hq
  have e : mi (p ||| q) p = q := b_ext (fun i hi => by
    rw [tb_mi hi, tb_o]
    cases z : tb p i
    · simp
    · rw [dis i hi z]; rfl)
  have c := cod_split (k := p ||| q) (p := p) (G := fun _ => (w : Int)) (A := fun _ => (w : Int)) (B := fun _ => (w : Int)) (fun i _ z => by rw [tb_o, z]; rfl) (fun _ _ _ => rfl) (fun _ _ _ _ => rfl)
  rw [e] at c
  unfold XP
  omega
section TAB
variable {R : Nat → Int32} {set weeks : Int32} {m : Nat}
theorem tab_s {may : Int32 → Int32 → Bool} {j : Nat} {k : Int32} (h0 : 0 ≤ set) (hk : Sub k set) : tab R may set weeks (j + 1) k.toNatClampNeg = fo (cnd R (tab R may set weeks j) (fun p => may p (weeks - Int32.ofNat j)) (weeks - Int32.ofNat j) k) (seqP k 130 k) 16777216 := by
  have n := hk.nn h0
  rw [tab, i32_nat n.1, if_pos]
  refine b_ext (fun i hi => ?_)
  rw [tb_a, tb_x hi, tb_0]
  cases z : tb k i
  · rfl
  · rw [hk i hi z]; rfl
theorem way_asg (h0 : 0 ≤ set) (h1 : set < 128) (hw : 0 ≤ weeks ∧ weeks ≤ 30) (hR : rOK R) (hK : rdK R set weeks) : ∀ (j : Nat) (k : Int32) (v : Int), j ≤ weeks.toNatClampNeg + 1 → Sub k set → Way (XP R) weeks.toNatClampNeg j k v → ∃ (G : Nat → Int) (c : Int), v = c * 34359738368 + cod k G ∧ 0 ≤ c ∧ c ≤ 30 * j ∧ (∀ s, s < 7 → tb k s = true → 0 ≤ G s ∧ G s ≤ weeks.toNatClampNeg) ∧ ∀ F : Nat → Int32, (∀ s, s < m → tb k s = true → F s = -9 ∨ (F s).toInt = G s) → (tab R (mayF F m) set weeks j k.toNatClampNeg).toInt ≤ c
  | 0, k, v, _, _, h => by
    refine ⟨fun _ => 0, 0, ?_, Int.le_refl 0, by omega, fun s _ z => ?_, fun F _ => ?_⟩
    · rw [h.1, h.2, cod_0]; rfl
    · rw [h.1, tb_0] at z; exact absurd z (by decide)
    · have e : (0 : Int32).toNatClampNeg = 0 := by decide
      rw [h.1, e, tab, if_pos rfl]; decide
  | j + 1, k, v, hj, hk, h => by
    obtain ⟨p, v', hp, hway, e⟩ := h
    obtain ⟨G', c', ev, c0, cj, hG, hF⟩ := way_asg h0 h1 hw hR hK j (mi k p) v' (by omega) (Sub.mi.tr hk) hway
    have J := wk_j (j := j) hw (by omega)
    have rp := (hK (weeks.toNatClampNeg - j) (by omega)).1 p (hp.tr hk)
    have kn := hk.nn h0
    have pn := (hp.tr hk).nn h0
    refine ⟨fun s => if tb p s = true then ((weeks.toNatClampNeg - j : Nat) : Int) else G' s, Rv R (weeks.toNatClampNeg - j) p + c', ?_, by omega, by omega, fun s h7 z => ?_, fun F hc => ?_⟩
    · have cs := cod_split (k := k) (p := p) (G := fun s => if tb p s = true then ((weeks.toNatClampNeg - j : Nat) : Int) else G' s) (A := fun _ => ((weeks.toNatClampNeg - j : Nat) : Int)) (B := G') hp (fun s _ z => by simp [z]) (fun s _ z _ => by simp [z])
      rw [cs, e, ev]
      unfold XP
      omega
    · by_cases y : tb p s = true
      · simp only [y, if_true]
        omega
      · simp only [y, if_false]
        exact hG s h7 (by rw [tb_mi (by omega), z]; simpa using y)
    · rw [tab_s h0 hk]
      have le := (fo_le (cnd R (tab R (mayF F m) set weeks j) (fun p => mayF F m p (weeks - Int32.ofNat j)) (weeks - Int32.ofNat j) k) (seqP k 130 k) 16777216).2.1 p (seq_mem kn.1 (Int32.lt_of_le_of_lt kn.2 h1) hp)
      have mt : mayF F m p (weeks - Int32.ofNat j) = true := by
        unfold mayF
        rw [decide_eq_true_eq]
        intro s hs z
        rcases hc s hs (hp s (by
          rcases Nat.lt_or_ge s 32 with y | y
          · exact y
          · exfalso
            unfold tb at z
            rw [BitVec.getLsbD_of_ge _ _ y] at z
            exact absurd z (by decide)) z) with y | y
        · exact .inl y
        · right
          refine Int32.toInt_inj.mp ?_
          rw [y, J.2.2]
          simp [z]
      have le2 := Int32.le_iff_toInt_le.mp le
      refine Int.le_trans le2 ?_
      unfold cnd
      rw [if_pos mt, ix128 J.1 ⟨pn.1, Int32.lt_of_le_of_lt pn.2 h1⟩, J.2.1]
      have t := hF F (fun s hs z => by
        rcases Nat.lt_or_ge s 32 with y | y
        · rw [tb_mi y, Bool.and_eq_true] at z
          rcases hc s hs z.1 with q | q
          · exact .inl q
          · right
            rw [q]
            have zf : tb p s = false := by simpa using z.2
            simp [zf]
        · exfalso
          unfold tb at z
          rw [BitVec.getLsbD_of_ge _ _ y] at z
          exact absurd z (by decide))
      have tl := Int32.le_iff_toInt_le.mp (tab_le (R := R) (may := mayF F m) (set := set) (weeks := weeks) j (mi k p).toNatClampNeg)
      have tg := Int32.le_iff_toInt_le.mp (tab_ge (m1 := mayF F m) (set := set) (weeks := weeks) hR j (mi k p).toNatClampNeg (by
        have q := (Sub.mi (k := k) (p := p)).nn kn.1
        exact ixn (n := 128) q.1 (Int32.lt_of_le_of_lt (Int32.le_trans q.2 kn.2) h1) (by decide)))
      have d0 : (0 : Int32).toInt = 0 := by decide
      have d1 : (16777216 : Int32).toInt = 16777216 := by decide
      have er : Rv R (weeks.toNatClampNeg - j) p = (R (128 * (weeks.toNatClampNeg - j) + p.toNatClampNeg)).toInt := rfl
      show (R (128 * (weeks.toNatClampNeg - j) + p.toNatClampNeg) + tab R (mayF F m) set weeks j (mi k p).toNatClampNeg).toInt ≤ _
      rw [Int32.toInt_add, Int.bmod_eq_of_le (by omega) (by omega)]
      omega
theorem asg_way {F : Nat → Int32} (h0 : 0 ≤ set) (h1 : set < 128) (hw : 0 ≤ weeks ∧ weeks ≤ 30) (hR : rOK R) (hm : ∀ s, s < 7 → tb set s = true → s < m) : ∀ (j : Nat) (k : Int32), j ≤ weeks.toNatClampNeg + 1 → Sub k set → (∀ s, s < 7 → tb k s = true → ¬ F s = -9) → tab R (mayF F m) set weeks j k.toNatClampNeg < 16777216 → Way (XP R) weeks.toNatClampNeg j k ((tab R (mayF F m) set weeks j k.toNatClampNeg).toInt * 34359738368 + cod k (fun s => (F s).toInt))
  | 0, k, _, hk, _, h => by
    have kn := hk.nn h0
    unfold tab at h
    split at h
    · rename_i e
      have k0 : k = 0 := tn_inj kn.1 (by decide) (by rw [e]; decide)
      refine ⟨k0, ?_⟩
      rw [k0, cod_0, tab, if_pos (by decide)]
      decide
    · exact absurd h (by decide)
  | j + 1, k, hj, hk, hf, h => by
    have kn := hk.nn h0
    have J := wk_j (j := j) hw (by omega)
    rw [tab_s h0 hk] at h ⊢
    rcases (fo_le (cnd R (tab R (mayF F m) set weeks j) (fun p => mayF F m p (weeks - Int32.ofNat j)) (weeks - Int32.ofNat j) k) (seqP k 130 k) 16777216).2.2 with r | ⟨p, hp, r⟩
    · rw [r] at h; exact absurd h (by decide)
    · rw [r] at h ⊢
      have sp : Sub p k := Sub.of (seq_in _ _ _ Int32.and_self p hp).1
      have pn := (sp.tr hk).nn h0
      unfold cnd at h ⊢
      by_cases mt : mayF F m p (weeks - Int32.ofNat j) = true
      · rw [if_pos mt, ix128 J.1 ⟨pn.1, Int32.lt_of_le_of_lt pn.2 h1⟩, J.2.1] at h ⊢
        have tl := Int32.le_iff_toInt_le.mp (tab_le (R := R) (may := mayF F m) (set := set) (weeks := weeks) j (mi k p).toNatClampNeg)
        have tg := Int32.le_iff_toInt_le.mp (tab_ge (m1 := mayF F m) (set := set) (weeks := weeks) hR j (mi k p).toNatClampNeg (by
          have q := (Sub.mi (k := k) (p := p)).nn kn.1
          exact ixn (n := 128) q.1 (Int32.lt_of_le_of_lt (Int32.le_trans q.2 kn.2) h1) (by decide)))
        have b := hR (128 * (weeks.toNatClampNeg - j) + p.toNatClampNeg)
        have b1 := Int32.le_iff_toInt_le.mp b.1
        have b2 := Int32.le_iff_toInt_le.mp b.2
        have d0 : (0 : Int32).toInt = 0 := by decide
        have d1 : (16777216 : Int32).toInt = 16777216 := by decide
        have es : (R (128 * (weeks.toNatClampNeg - j) + p.toNatClampNeg) + tab R (mayF F m) set weeks j (mi k p).toNatClampNeg).toInt = (R (128 * (weeks.toNatClampNeg - j) + p.toNatClampNeg)).toInt + (tab R (mayF F m) set weeks j (mi k p).toNatClampNeg).toInt := by
          rw [Int32.toInt_add, Int.bmod_eq_of_le (by omega) (by omega)]
        have lt := Int32.lt_iff_toInt_lt.mp h
        rw [es] at lt
        have ih := asg_way h0 h1 hw hR hm j (mi k p) (by omega) (Sub.mi.tr hk) (fun s h7 z => hf s h7 (Sub.mi s (by omega) z)) (Int32.lt_iff_toInt_lt.mpr (by omega))
        refine ⟨p, _, sp, ih, ?_⟩
        rw [es]
        unfold mayF at mt
        rw [decide_eq_true_eq] at mt
        have cs := cod_split (k := k) (p := p) (G := fun s => (F s).toInt) (A := fun _ => ((weeks.toNatClampNeg - j : Nat) : Int)) (B := fun s => (F s).toInt) sp (fun s h7 z => by
          have zk := sp s (by omega) z
          rcases mt s (hm s h7 (hk s (by omega) zk)) z with y | y
          · exact absurd y (hf s h7 zk)
          · show (F s).toInt = _
            rw [y, J.2.2]) (fun _ _ _ _ => rfl)
        rw [cs]
        have er : XP R (weeks.toNatClampNeg - j) p = (R (128 * (weeks.toNatClampNeg - j) + p.toNatClampNeg)).toInt * 34359738368 + cod p (fun _ => ((weeks.toNatClampNeg - j : Nat) : Int)) := rfl
        rw [er]
        omega
      · rw [if_neg mt] at h; exact absurd h (by decide)
/-- the weeks as they stand when shop s is come to, with x for it -/
def preF (set : Int32) (F : Nat → Int32) (s : Nat) (x : Int32) : Nat → Int32 := fun q => if q = s then x else if q < s ∧ tb set q = true then F q else -9
theorem er_final {S : Int} {F : Nat → Int32} {least : Int32} (h0 : 0 ≤ set) (h1 : set < 128) (hw : 0 ≤ weeks ∧ weeks ≤ 30) (hR : rOK R) (hK : rdK R set weeks) (hm : ∀ s, s < 7 → tb set s = true → s < m) (hS : ∃ v, Way (XP R) weeks.toNatClampNeg (weeks.toNatClampNeg + 1) set v ∧ v ≤ S) (hmin : ∀ v, Way (XP R) weeks.toNatClampNeg (weeks.toNatClampNeg + 1) set v → S ≤ v) (hl : tab R (mayF (fun _ => -9) m) set weeks (weeks.toNatClampNeg + 1) set.toNatClampNeg = least) (hF : tab R (mayF F m) set weeks (weeks.toNatClampNeg + 1) set.toNatClampNeg = least) (hFr : ∀ s, s < 7 → tb set s = true → 0 ≤ F s ∧ F s ≤ weeks) (hg : ∀ s, s < 7 → tb set s = true → ∀ x, 0 ≤ x → x < F s → ¬ tab R (mayF (preF set F s x) m) set weeks (weeks.toNatClampNeg + 1) set.toNatClampNeg = least) : S = least.toInt * 34359738368 + cod set (fun s => (F s).toInt) := by
  obtain ⟨v, hv, hle⟩ := hS
  have eS : S = v := Int.le_antisymm (hmin v hv) hle
  have ss : Sub set set := fun _ _ z => z
  obtain ⟨G, c, ev, c0, cj, hG, hcp⟩ := way_asg (m := m) h0 h1 hw hR hK _ set v (Nat.le_refl _) ss hv
  have w30 : weeks.toNatClampNeg ≤ 30 := by have := tn_le hw.2; have e : (30 : Int32).toNatClampNeg = 30 := (by decide); omega
  have l1 := hcp (fun _ => -9) (fun _ _ _ => .inl rfl)
  rw [hl] at l1
  have d1 : (16777216 : Int32).toInt = 16777216 := by decide
  have lt : least < 16777216 := Int32.lt_iff_toInt_lt.mpr (by omega)
  have fr : ∀ s, s < 7 → tb set s = true → 0 ≤ (F s).toInt ∧ (F s).toInt ≤ weeks.toNatClampNeg := fun s h7 z => by
    have a := hFr s h7 z
    have b := Int32.le_iff_toInt_le.mp a.1
    have c := Int32.le_iff_toInt_le.mp a.2
    have d0 : (0 : Int32).toInt = 0 := by decide
    have e : weeks.toNatClampNeg = weeks.toInt.toNat := rfl
    omega
  have wF := asg_way (F := F) h0 h1 hw hR hm _ set (Nat.le_refl _) ss (fun s h7 z q => by
    have := (hFr s h7 z).1
    rw [q] at this
    exact absurd this (by decide)) (by rw [hF]; exact lt)
  rw [hF] at wF
  have up := hmin _ wF
  have bG := cod_b (p := set) (G := G) (fun s h7 z => by have := hG s h7 z; omega)
  have bF := cod_b (p := set) (G := fun s => (F s).toInt) (fun s h7 z => by have := fr s h7 z; exact ⟨this.1, by omega⟩)
  have ec : c = least.toInt := by omega
  have cg : cod set G ≤ cod set (fun s => (F s).toInt) := by omega
  have st : ∀ s, s < 7 → (∀ q, q < s → dg5 set (fun s => (F s).toInt) q = dg5 set G q) → dg5 set (fun s => (F s).toInt) s ≤ dg5 set G s := fun s h7 hq => by
    unfold dg5
    by_cases z : tb set s = true
    · rw [if_pos z, if_pos z]
      refine Int.not_lt.mp (fun gt => ?_)
      have gs := hG s h7 z
      have ex0 : (Int32.ofNat (G s).toNat).toInt = (((G s).toNat : Nat) : Int) := nI_toInt (by omega)
      have ex : (Int32.ofNat (G s).toNat).toInt = G s := by omega
      have d0 : (0 : Int32).toInt = 0 := by decide
      refine hg s h7 z (Int32.ofNat (G s).toNat) (Int32.le_iff_toInt_le.mpr (by omega)) (Int32.lt_iff_toInt_lt.mpr (by rw [ex]; exact gt)) ?_
      have a := hcp (preF set F s (Int32.ofNat (G s).toNat)) (fun q _ zq => by
        unfold preF
        by_cases e : q = s
        · rw [if_pos e]; right; rw [ex, e]
        · rw [if_neg e]
          by_cases e2 : q < s ∧ tb set q = true
          · rw [if_pos e2]
            right
            have r := hq q e2.1
            unfold dg5 at r
            rw [if_pos e2.2, if_pos e2.2] at r
            exact r
          · rw [if_neg e2]; exact .inl rfl)
      have b := tab_M (R := R) (set := set) (weeks := weeks) (m1 := mayF (fun _ => -9) m) (mx := mayF (preF set F s (Int32.ofNat (G s).toNat)) m) hR (fun p w _ => by
        unfold mayF
        rw [decide_eq_true_eq]
        exact fun _ _ _ => .inl rfl) (weeks.toNatClampNeg + 1) set.toNatClampNeg (ixn (n := 128) h0 h1 (by decide))
      rw [hl] at b
      refine Int32.le_antisymm (Int32.le_iff_toInt_le.mpr (by omega)) b
    · rw [if_neg z, if_neg z]; exact Int.le_refl 0
  rw [eS, ev, ec]
  have B := bG.1
  have A := bF.1
  unfold cod at cg ⊢
  have A0 := A 0 (by decide)
  have B0 := B 0 (by decide)
  have A1 := A 1 (by decide)
  have B1 := B 1 (by decide)
  have A2 := A 2 (by decide)
  have B2 := B 2 (by decide)
  have A3 := A 3 (by decide)
  have B3 := B 3 (by decide)
  have A4 := A 4 (by decide)
  have B4 := B 4 (by decide)
  have A5 := A 5 (by decide)
  have B5 := B 5 (by decide)
  have A6 := A 6 (by decide)
  have B6 := B 6 (by decide)
  have e0 : dg5 set (fun s => (F s).toInt) 0 = dg5 set G 0 := by
    have z := st 0 (by decide) (fun q hq => absurd hq (by omega))
    omega
  have e1 : dg5 set (fun s => (F s).toInt) 1 = dg5 set G 1 := by
    have z := st 1 (by decide) (fun q hq => by rw [show q = 0 by omega]; exact e0)
    omega
  have e2 : dg5 set (fun s => (F s).toInt) 2 = dg5 set G 2 := by
    have z := st 2 (by decide) (fun q hq => by
      have h : q = 0 ∨ q = 1 := by omega
      rcases h with h | h <;> rw [h] <;> assumption)
    omega
  have e3 : dg5 set (fun s => (F s).toInt) 3 = dg5 set G 3 := by
    have z := st 3 (by decide) (fun q hq => by
      have h : q = 0 ∨ q = 1 ∨ q = 2 := by omega
      rcases h with h | h | h <;> rw [h] <;> assumption)
    omega
  have e4 : dg5 set (fun s => (F s).toInt) 4 = dg5 set G 4 := by
    have z := st 4 (by decide) (fun q hq => by
      have h : q = 0 ∨ q = 1 ∨ q = 2 ∨ q = 3 := by omega
      rcases h with h | h | h | h <;> rw [h] <;> assumption)
    omega
  have e5 : dg5 set (fun s => (F s).toInt) 5 = dg5 set G 5 := by
    have z := st 5 (by decide) (fun q hq => by
      have h : q = 0 ∨ q = 1 ∨ q = 2 ∨ q = 3 ∨ q = 4 := by omega
      rcases h with h | h | h | h | h <;> rw [h] <;> assumption)
    omega
  have e6 : dg5 set (fun s => (F s).toInt) 6 = dg5 set G 6 := by
    have z := st 6 (by decide) (fun q hq => by
      have h : q = 0 ∨ q = 1 ∨ q = 2 ∨ q = 3 ∨ q = 4 ∨ q = 5 := by omega
      rcases h with h | h | h | h | h | h <;> rw [h] <;> assumption)
    omega
  omega
end TAB
