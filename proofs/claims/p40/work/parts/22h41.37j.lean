/-! ===== no two shops have one door ===== -/
theorem tb_hi {x : Int32} {i : Nat} (h : 32 ≤ i) : tb x i = false := by
  unfold tb
  exact BitVec.getLsbD_of_ge _ _ h
theorem seek_up {n tk : Int32} (h0 : 10 ≤ n) (h1 : n ≤ 30) {f : Nat} (hf : f < n.toNatClampNeg) (ht : tb tk f = false) : ∀ (k F : Nat) (x : Int32), 0 ≤ x → x < n → (if x.toNatClampNeg ≤ f then f - x.toNatClampNeg else f + n.toNatClampNeg - x.toNatClampNeg) = k → k ≤ F → tb tk (seekP n tk 1 F x).toNatClampNeg = false := by
  have n0 : 0 ≤ n := Int32.le_trans (by decide) h0
  have en := tnX n0
  intro k
  induction k with
  | zero =>
    intro F x x0 x1 hk hF
    have l := tn_lt x0 x1
    have e : x.toNatClampNeg = f := by split at hk <;> omega
    have t : tb tk x.toNatClampNeg = false := by rw [e]; exact ht
    rw [seek_f t]; exact t
  | succ k ih =>
    intro F x x0 x1 hk hF
    by_cases t : tb tk x.toNatClampNeg = true
    · cases F with
      | zero => omega
      | succ F =>
        rw [seek_t t]
        have d := dAt_up2 h0 h1 x0 x1
        have rg := dAt_rg (x := (x + 1).toInt64) h0 h1
        refine ih F _ rg.1 rg.2 ?_ (by omega)
        have e1 := tnX rg.1
        have e2 := tnX x0
        have l := tn_lt x0 x1
        have nf : ¬ x.toNatClampNeg = f := fun z => by rw [z, ht] at t; exact absurd t (by decide)
        split at d <;> split at hk <;> split <;> omega
    · have t' : tb tk x.toNatClampNeg = false := Bool.eq_false_iff.mpr t
      rw [seek_f t']; exact t'
theorem seek_dn {n tk : Int32} (h0 : 10 ≤ n) (h1 : n ≤ 30) {f : Nat} (hf : f < n.toNatClampNeg) (ht : tb tk f = false) : ∀ (k F : Nat) (x : Int32), 0 ≤ x → x < n → (if f ≤ x.toNatClampNeg then x.toNatClampNeg - f else x.toNatClampNeg + n.toNatClampNeg - f) = k → k ≤ F → tb tk (seekP n tk (-1) F x).toNatClampNeg = false := by
  have n0 : 0 ≤ n := Int32.le_trans (by decide) h0
  have en := tnX n0
  intro k
  induction k with
  | zero =>
    intro F x x0 x1 hk hF
    have l := tn_lt x0 x1
    have e : x.toNatClampNeg = f := by split at hk <;> omega
    have t : tb tk x.toNatClampNeg = false := by rw [e]; exact ht
    rw [seek_f t]; exact t
  | succ k ih =>
    intro F x x0 x1 hk hF
    by_cases t : tb tk x.toNatClampNeg = true
    · cases F with
      | zero => omega
      | succ F =>
        rw [seek_t t]
        have d := dAt_dn2 h0 h1 x0 x1
        have rg := dAt_rg (x := (x + (-1)).toInt64) h0 h1
        refine ih F _ rg.1 rg.2 ?_ (by omega)
        have e1 := tnX rg.1
        have e2 := tnX x0
        have l := tn_lt x0 x1
        have nf : ¬ x.toNatClampNeg = f := fun z => by rw [z, ht] at t; exact absurd t (by decide)
        split at d <;> split at hk <;> split <;> omega
    · have t' : tb tk x.toNatClampNeg = false := Bool.eq_false_iff.mpr t
      rw [seek_f t']; exact t'
theorem seek_ok {n tk g x : Int32} (h0 : 10 ≤ n) (h1 : n ≤ 30) (hc : cnt tk n.toNatClampNeg < n.toNatClampNeg) (x0 : 0 ≤ x) (x1 : x < n) : tb tk (seekP n tk (dirP g) n.toNatClampNeg x).toNatClampNeg = false := by
  obtain ⟨f, hf, ht⟩ := cnt_free n.toNatClampNeg hc
  have l := tn_lt x0 x1
  unfold dirP
  by_cases c : 0 ≤ g
  · rw [if_pos c]
    exact seek_up h0 h1 hf ht _ _ x x0 x1 rfl (by split <;> omega)
  · rw [if_neg c]
    exact seek_dn h0 h1 hf ht _ _ x x0 x1 rfl (by split <;> omega)
theorem we_ds {n w shut : Int32} {sh : Nat → Sh5} {ord : Nat → Nat} {dr : Nat → Int32} {m : Nat} (h0 : 10 ≤ n) (h1 : n ≤ 30) (hm : m ≤ 7) (hc : cnt shut n.toNatClampNeg ≤ 3) (ho : OrdP sh m ord) : ∀ i, i ≤ m → cnt (weP n w shut sh ord dr i).1 n.toNatClampNeg ≤ 3 + i ∧ (∀ k, k < i → tb (weP n w shut sh ord dr i).1 ((weP n w shut sh ord dr i).2 (ord k)).toNatClampNeg = true) ∧ ∀ k l, k < l → l < i → ¬ (weP n w shut sh ord dr i).2 (ord k) = (weP n w shut sh ord dr i).2 (ord l)
  | 0, _ => ⟨hc, fun k hk => by omega, fun k l _ hl => by omega⟩
  | i + 1, h => by
    obtain ⟨a, b, c⟩ := we_ds (w := w) (dr := dr) h0 h1 hm hc ho i (by omega)
    have n10 := tn_le h0
    have n30 := tn_le h1
    have e10 : (10 : Int32).toNatClampNeg = 10 := by decide
    have e30 : (30 : Int32).toNatClampNeg = 30 := by decide
    have rg0 := dAt_rg (x := ((weP n w shut sh ord dr i).2 (ord i) + goP (sh (ord i)) w).toInt64) h0 h1
    have df : tb (weP n w shut sh ord dr i).1 (doP n w sh (weP n w shut sh ord dr i) (ord i)).toNatClampNeg = false := seek_ok h0 h1 (by omega) rg0.1 rg0.2
    have dr0 : 0 ≤ doP n w sh (weP n w shut sh ord dr i) (ord i) ∧ doP n w sh (weP n w shut sh ord dr i) (ord i) < n := seek_rg (tk := (weP n w shut sh ord dr i).1) (dir := dirP (goP (sh (ord i)) w)) h0 h1 n.toNatClampNeg (dAt n ((weP n w shut sh ord dr i).2 (ord i) + goP (sh (ord i)) w).toInt64) rg0
    have d32 : doP n w sh (weP n w shut sh ord dr i) (ord i) < 32 := Int32.lt_of_lt_of_le dr0.2 (Int32.le_trans h1 (by decide))
    have ne : ∀ k, k < i → ¬ ord k = ord i := fun k hk z => by have := ho.inj (by omega) (by omega) z; omega
    have rk : ∀ k, k < i → tb (weP n w shut sh ord dr i).1 ((weP n w shut sh ord dr i).2 (ord k)).toNatClampNeg = true := b
    generalize hd : doP n w sh (weP n w shut sh ord dr i) (ord i) = D at *
    have e1 : (weP n w shut sh ord dr (i + 1)).1 = (weP n w shut sh ord dr i).1 ||| (1 <<< (D &&& 31)) := by rw [weP, hd]
    have e2 : ∀ k, k < i → (weP n w shut sh ord dr (i + 1)).2 (ord k) = (weP n w shut sh ord dr i).2 (ord k) := fun k hk => by
      rw [weP]
      show (if ord k = ord i then _ else _) = _
      rw [if_neg (ne k hk)]
    have e3 : (weP n w shut sh ord dr (i + 1)).2 (ord i) = D := by
      rw [weP]
      show (if ord i = ord i then _ else _) = _
      rw [if_pos rfl, hd]
    have t32 : ∀ y : Nat, tb (weP n w shut sh ord dr i).1 y = true → y < 32 := fun y hy => by
      rcases Nat.lt_or_ge y 32 with q | q
      · exact q
      · rw [tb_hi q] at hy; exact absurd hy (by decide)
    refine ⟨?_, fun k hk => ?_, fun k l hkl hl => ?_⟩
    · rw [e1]
      have cu := (cnt_upd (x := (weP n w shut sh ord dr i).1) (y := (weP n w shut sh ord dr i).1 ||| (1 <<< (D &&& 31))) (d := D.toNatClampNeg) n.toNatClampNeg (fun j hj => tbo dr0.1 d32 (by omega))).1
      omega
    · by_cases q : k = i
      · rw [q, e3, e1, tbo dr0.1 d32 (by have := tn_lt dr0.1 dr0.2; omega)]
        exact Bool.or_eq_true_iff.mpr (.inr (decide_eq_true rfl))
      · have t := rk k (by omega)
        rw [e2 k (by omega), e1, tbo dr0.1 d32 (t32 _ t), t, Bool.true_or]
    · by_cases q : l = i
      · rw [q, e3, e2 k (by omega)]
        intro z
        have t := rk k (by omega)
        rw [z, df] at t
        exact absurd t (by decide)
      · rw [e2 k (by omega), e2 l (by omega)]
        exact c k l hkl (by omega)
theorem pwk_ds {n w shut : Int32} {sh : Nat → Sh5} {ord : Nat → Nat} {dr : Nat → Int32} {m : Nat} (h0 : 10 ≤ n) (h1 : n ≤ 30) (hm : m ≤ 7) (hc : cnt shut n.toNatClampNeg ≤ 3) (ho : OrdP sh m ord) : ∀ i j, i < j → j < m → ¬ pwk n w shut sh ord m dr i = pwk n w shut sh ord m dr j := fun i j hij hj => by
  obtain ⟨_, _, c⟩ := we_ds (w := w) (dr := dr) h0 h1 hm hc ho m (Nat.le_refl _)
  obtain ⟨k, hk, ek⟩ := ho.2.2 i (by omega)
  obtain ⟨l, hl, el⟩ := ho.2.2 j hj
  unfold pwk
  rw [← ek, ← el]
  rcases Nat.lt_trichotomy k l with q | q | q
  · exact c k l q hl
  · rw [q] at ek; omega
  · exact fun z => c l k q hk z.symm
theorem pws_ds {n w shut : Int32} {sh : Nat → Sh5} {ord : Nat → Nat} {dr : Nat → Int32} {m : Nat} (h0 : 10 ≤ n) (h1 : n ≤ 30) (hm : m ≤ 7) (hc : cnt shut n.toNatClampNeg ≤ 3) (ho : OrdP sh m ord) (hd : ∀ i j, i < j → j < m → ¬ dr i = dr j) : ∀ k i j, i < j → j < m → ¬ pws n w shut sh ord m dr k i = pws n w shut sh ord m dr k j
  | 0 => hd
  | _ + 1 => pwk_ds h0 h1 hm hc ho
/-! who -/
section ANJ
variable {G : pG} {u v : pM} {Q : Option Value → pM → Prop}
/-- the shop that has the door, or none -/
def whoP (m : Nat) (dr : Nat → Int32) (d a : Int32) : Prop := (∃ s, s < m ∧ dr s = d ∧ a = Int32.ofNat s) ∨ ((∀ s, s < m → ¬ dr s = d) ∧ a = -9)
theorem whoP.eq {m : Nat} {dr dr' : Nat → Int32} {d a b : Int32} (h : whoP m dr d a) (h' : whoP m dr' d b) (e : ∀ s, s < m → dr s = dr' s) (ds : ∀ i j, i < j → j < m → ¬ dr' i = dr' j) : a = b := by
  rcases h with ⟨s, s1, s2, s3⟩ | ⟨n, e1⟩ <;> rcases h' with ⟨t, t1, t2, t3⟩ | ⟨n', e2⟩
  · have : s = t := by
      rcases Nat.lt_trichotomy s t with c | c | c
      · exact absurd ((e s s1).symm.trans (s2.trans t2.symm)) (ds s t c t1)
      · exact c
      · exact absurd (t2.trans (s2.symm.trans (e s s1))) (ds t s c s1)
    rw [s3, t3, this]
  · exact absurd ((e s s1).symm.trans s2) (n' s s1)
  · exact absurd ((e t t1).trans t2) (n t t1)
  · rw [e1, e2]
end ANJ
