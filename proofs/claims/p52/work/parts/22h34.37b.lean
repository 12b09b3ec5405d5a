/-! ===== again, wants, beside, round, best, agree ===== -/
theorem ofN_s (k : Nat) : Int32.ofNat (k + 1) = Int32.ofNat k + 1 := by rw [show (1 : Int32) = Int32.ofNat 1 by rfl, ← Int32.ofNat_add]
theorem stU {x b : Int32} (h0 : 0 ≤ x) (c : ¬ b ≤ x) : 0 ≤ x + 1 ∧ x + 1 ≤ b := ⟨by grind, by grind⟩
theorem mod_in {a n : Int} (h0 : -n < a) (h1 : a < n) : a % n = if 0 ≤ a then a else a + n := by
  split
  · exact Int.emod_eq_of_lt (by omega) h1
  · have : a = (a + n) + n * (-1) := by omega
    rw [this, Int.add_mul_emod_self_left, Int.emod_eq_of_lt (by omega) (by omega)]
    omega
theorem weP_rn {n w shut : Int32} {sh : Nat → Sh5} {ord : Nat → Nat} {dr : Nat → Int32} (h0 : 10 ≤ n) (h1 : n ≤ 30) {m : Nat} (hd : ∀ s, s < m → 0 ≤ dr s ∧ dr s < n) : ∀ i s, s < m → 0 ≤ (weP n w shut sh ord dr i).2 s ∧ (weP n w shut sh ord dr i).2 s < n
  | 0, s, hs => hd s hs
  | i + 1, s, hs => by
    rw [weP]
    show 0 ≤ (if s = ord i then _ else _) ∧ (if s = ord i then _ else _) < n
    split
    · exact seek_rg (tk := (weP n w shut sh ord dr i).1) (dir := dirP (goP (sh (ord i)) w)) h0 h1 n.toNatClampNeg (dAt n ((weP n w shut sh ord dr i).2 (ord i) + goP (sh (ord i)) w).toInt64) (dAt_rg h0 h1)
    · exact weP_rn h0 h1 hd i s hs
theorem pws_rx {n w shut : Int32} {sh : Nat → Sh5} {ord : Nat → Nat} {m : Nat} {dr : Nat → Int32} (h0 : 10 ≤ n) (h1 : n ≤ 30) (hd : ∀ s, s < m → 0 ≤ dr s ∧ dr s < n) : ∀ k s, s < m → 0 ≤ pws n w shut sh ord m dr k s ∧ pws n w shut sh ord m dr k s < n
  | 0 => hd
  | k + 1 => fun s hs => weP_rn h0 h1 (pws_rx h0 h1 hd k) m s hs
theorem bes_iff {n d e : Int32} (hn : 10 ≤ n ∧ n ≤ 30) (hd : 0 ≤ d ∧ d < n) (he : 0 ≤ e ∧ e < n) : wkV n d e = 1 ↔ (dAt n (d.toInt64 + 1) = e ∨ dAt n (e.toInt64 + 1) = d) := by
  have n1 := Int32.le_iff_toInt_le.mp hn.1
  have n2 := Int32.le_iff_toInt_le.mp hn.2
  have d1 := Int32.le_iff_toInt_le.mp hd.1
  have d2 := Int32.lt_iff_toInt_lt.mp hd.2
  have e1 := Int32.le_iff_toInt_le.mp he.1
  have e2 := Int32.lt_iff_toInt_lt.mp he.2
  have c0 : (0 : Int32).toInt = 0 := by decide
  have c1 : (1 : Int32).toInt = 1 := by decide
  have c10 : (10 : Int32).toInt = 10 := by decide
  have c30 : (30 : Int32).toInt = 30 := by decide
  have j1 : (1 : Int64).toInt = 1 := by decide
  have A : ∀ x : Int32, 0 ≤ x.toInt → x.toInt < n.toInt → (dAt n (x.toInt64 + 1)).toInt = if x.toInt + 1 = n.toInt then 0 else x.toInt + 1 := fun x a b => by
    rw [dAt_toInt (by omega), Int64.toInt_add, Int32.toInt_toInt64, j1, Int.bmod_eq_of_le (by omega) (by omega)]
    split
    · rename_i q; rw [q, Int.emod_self]
    · exact Int.emod_eq_of_lt (by omega) (by omega)
  have C : (dAt n (e - d).toInt64).toInt = if 0 ≤ e.toInt - d.toInt then e.toInt - d.toInt else e.toInt - d.toInt + n.toInt := by
    rw [dAt_toInt (by omega), Int32.toInt_toInt64, Int32.toInt_sub, Int.bmod_eq_of_le (by omega) (by omega), mod_in (by omega) (by omega)]
  have rg := dAt_rg (x := (e - d).toInt64) hn.1 hn.2
  have W : (wkV n d e).toInt = if n.toInt - (dAt n (e - d).toInt64).toInt < (dAt n (e - d).toInt64).toInt then n.toInt - (dAt n (e - d).toInt64).toInt else (dAt n (e - d).toInt64).toInt := by
    unfold wkV
    rw [wr_dAt hn.1 hn.2]
    generalize dAt n (e - d).toInt64 = U at *
    have u1 := Int32.le_iff_toInt_le.mp rg.1
    have u2 := Int32.lt_iff_toInt_lt.mp rg.2
    have eS : (n - U).toInt = n.toInt - U.toInt := by rw [Int32.toInt_sub, Int.bmod_eq_of_le (by omega) (by omega)]
    by_cases q : n - U < U
    · rw [if_pos q, if_pos (by rw [← eS]; exact Int32.lt_iff_toInt_lt.mp q), eS]
    · rw [if_neg q, if_neg (fun z => q (Int32.lt_iff_toInt_lt.mpr (by rw [eS]; exact z)))]
  have Ad := A d (by omega) (by omega)
  have Ae := A e (by omega) (by omega)
  have i1 : wkV n d e = 1 ↔ (wkV n d e).toInt = 1 := ⟨fun q => by rw [q]; exact c1, fun q => Int32.toInt_inj.mp (by rw [q, c1])⟩
  have i2 : dAt n (d.toInt64 + 1) = e ↔ (dAt n (d.toInt64 + 1)).toInt = e.toInt := ⟨fun q => by rw [q], fun q => Int32.toInt_inj.mp q⟩
  have i3 : dAt n (e.toInt64 + 1) = d ↔ (dAt n (e.toInt64 + 1)).toInt = d.toInt := ⟨fun q => by rw [q], fun q => Int32.toInt_inj.mp q⟩
  rw [i1, i2, i3, W, C, Ad, Ae]
  generalize n.toInt = N at *
  generalize d.toInt = D at *
  generalize e.toInt = E at *
  split <;> split <;> split <;> split <;> omega
/-- the first of the best, by what is kept -/
def gsF (kp : Int32 → Int32 → Bool) (c v : Nat → Int32) : Nat → Int32 × Int32
  | 0 => (c 0, v 0)
  | k + 1 => if kp (gsF kp c v k).2 (v (k + 1)) = true then gsF kp c v k else (c (k + 1), v (k + 1))
def gsI (kp : Int32 → Int32 → Bool) (c v : Nat → Int32) (a l : Int32) : Nat → Prop
  | 0 => kp l (v 0) = false
  | k + 1 => (a, l) = gsF kp c v k
theorem gs_k {kp : Int32 → Int32 → Bool} {c v : Nat → Int32} {a l : Int32} : ∀ {w : Nat}, gsI kp c v a l w → kp l (v w) = true → gsI kp c v a l (w + 1)
  | 0, h, k => by
    have h' : kp l (v 0) = false := h
    rw [k] at h'; exact absurd h' (by decide)
  | w + 1, h, k => by
    have h' : (a, l) = gsF kp c v w := h
    show (a, l) = gsF kp c v (w + 1)
    rw [gsF, ← h']
    exact (if_pos k).symm
theorem gs_r {kp : Int32 → Int32 → Bool} {c v : Nat → Int32} {a l : Int32} : ∀ {w : Nat}, gsI kp c v a l w → kp l (v w) = false → gsI kp c v (c w) (v w) (w + 1)
  | 0, _, _ => rfl
  | w + 1, h, k => by
    have h' : (a, l) = gsF kp c v w := h
    show (c (w + 1), v (w + 1)) = gsF kp c v (w + 1)
    rw [gsF, ← h']
    exact (if_neg (by show ¬ kp l (v (w + 1)) = true; rw [k]; decide)).symm
def kpL (l v : Int32) : Bool := decide (l ≤ v)
theorem kpL_t {l v : Int32} (h : l ≤ v) : kpL l v = true := decide_eq_true h
theorem kpL_f {l v : Int32} (h : ¬ l ≤ v) : kpL l v = false := decide_eq_false h
section ANB
variable {G : pG} {u v : pM} {Q : Option Value → pM → Prop}
/-! again -/
/-! wants -/
/-! beside -/
def besK (m x1 x2 : Int32) : Prop := (0 ≤ x1 ∧ x1 < m) ∧ (0 ≤ x2 ∧ x2 < m) ∧ ¬ x1 = x2
theorem e_areBesidex {x1 x2 : Int32} (hn : 10 ≤ mI u 76 10 ∧ mI u 76 10 ≤ 30) (h1 : 0 ≤ x1 ∧ x1 < mI u 76 10) (h2 : 0 ≤ x2 ∧ x2 < mI u 76 10) : Ws G m_areBeside 0 [(0, .ref 76), (1, .int x1), (2, .int x2)] [] u (RI fun a u' => u = u' ∧ (¬ a = 0 ↔ wkV (mI u 76 10) x1 x2 = 1)) := by
  have bi := bes_iff hn h1 h2
  have nz : ¬ (mI u 76 10).toInt64 = 0 := i64_ne (Int32.lt_of_lt_of_le (by decide) hn.1)
  exact sg_m_areBeside_0 ⟨nz, fun c => ⟨_, rfl, rfl, fun _ => bi.mpr (.inl c), fun _ => by decide⟩, fun c => ⟨nz, fun d => ⟨_, rfl, rfl, fun z => absurd rfl z, fun z => ((bi.mp z).elim c d).elim⟩, fun d => ⟨_, rfl, rfl, fun _ => bi.mpr (.inr d), fun _ => by decide⟩⟩⟩
/-! round -/
/-! best -/
theorem st61 {x3 : Int32} (h : 0 ≤ x3 ∧ x3 ≤ 60) : 0 ≤ x3 + 1 ∧ (x3 + 1).toNatClampNeg = x3.toNatClampNeg + 1 := ⟨by have := h.1; have := h.2; grind, tn_succ (b := 61) h.1 (by have := h.2; grind)⟩
theorem st62 {x x3 : Int32} (h : 0 ≤ x3 ∧ x3 ≤ 60) (h0 : 0 ≤ x) (c : ¬ x3 < x) : ¬ x3 + 1 ≤ x ∧ 0 ≤ x + 1 ∧ x + 1 ≤ x3 + 1 := ⟨by have := h.1; have := h.2; grind, by have := h.1; have := h.2; grind, by have := h.1; have := h.2; grind⟩
theorem st63 {x x3 : Int32} (h : 0 ≤ x3 ∧ x3 ≤ 60) (h0 : 0 ≤ x) (hx : x ≤ x3 + 1) (c : x3 < x) : x.toNatClampNeg = x3.toNatClampNeg + 1 := by
  have : x = x3 + 1 := by have := h.1; have := h.2; grind
  rw [this]; exact (st61 h).2
end ANB
