/-! ===== again, wants, beside, round, best, agree ===== -/
theorem stU {x b : Int32} (h0 : 0 ≤ x) (c : ¬ b ≤ x) : 0 ≤ x + 1 ∧ x + 1 ≤ b := ⟨by grind, by grind⟩
theorem weP_rn {n w shut : Int32} {sh : Nat → Sh5} {ord : Nat → Nat} {dr : Nat → Int32} (h0 : 10 ≤ n) (h1 : n ≤ 30) {m : Nat} (hd : ∀ s, s < m → 0 ≤ dr s ∧ dr s < n) : ∀ i s, s < m → 0 ≤ (weP n w shut sh ord dr i).2 s ∧ (weP n w shut sh ord dr i).2 s < n
  | 0, s, hs => hd s hs
  | i + 1, s, hs => by
    rw [weP]
    show 0 ≤ (if s = ord i then _ else _) ∧ (if s = ord i then _ else _) < n
    split
    · exact seek_rg (tk := (weP n w shut sh ord dr i).1) (dir := dirP (goP (sh (ord i)) w)) h0 h1 n.toNatClampNeg (dAt n ((weP n w shut sh ord dr i).2 (ord i) + goP (sh (ord i)) w).toInt64) (dAt_rg h0 h1)
    · exact weP_rn h0 h1 hd i s hs
theorem pws_rx {n w shut : Int32} {sh : Nat → Sh5} {ord : Nat → Nat} {m : Nat} {dr : Nat → Int32} (h0 : 10 ≤ n) (h1 : n ≤ 30) (hd : ∀ s, s < m → 0 ≤ dr s ∧ dr s < n) : ∀ k s, s < m → 0 ≤ pws n w shut sh ord m dr k s ∧ pws n w shut sh ord m dr k s < n
  | 0 => hd
  | k + 1 => fun s hs => weP_rn h0 h1 (pws_rx h0 h1 hd k) m s hs
/-- the first of the best, by what is kept -/
def gsF (kp : Int32 → Int32 → Bool) (c v : Nat → Int32) : Nat → Int32 × Int32
  | 0 => (c 0, v 0)
  | k + 1 => if kp (gsF kp c v k).2 (v (k + 1)) = true then gsF kp c v k else (c (k + 1), v (k + 1))
def gsI (kp : Int32 → Int32 → Bool) (c v : Nat → Int32) (a l : Int32) : Nat → Prop
  | 0 => kp l (v 0) = false
  | k + 1 => (a, l) = gsF kp c v k
theorem gs_k {kp : Int32 → Int32 → Bool} {c v : Nat → Int32} {a l : Int32} : ∀ {w : Nat}, gsI kp c v a l w → kp l (v w) = true → gsI kp c v a l (w + 1)
  | 0, h, k => by
    have h' : kp l (v 0) = false := h
    rw [k] at h'; exact absurd h' (by decide)
  | w + 1, h, k => by
    have h' : (a, l) = gsF kp c v w := h
    show (a, l) = gsF kp c v (w + 1)
    rw [gsF, ← h']
    exact (if_pos k).symm
theorem gs_r {kp : Int32 → Int32 → Bool} {c v : Nat → Int32} {a l : Int32} : ∀ {w : Nat}, gsI kp c v a l w → kp l (v w) = false → gsI kp c v (c w) (v w) (w + 1)
  | 0, _, _ => rfl
  | w + 1, h, k => by
    have h' : (a, l) = gsF kp c v w := h
    show (c (w + 1), v (w + 1)) = gsF kp c v (w + 1)
    rw [gsF, ← h']
    exact (if_neg (by show ¬ kp l (v (w + 1)) = true; rw [k]; decide)).symm
theorem gsF_cg {kp : Int32 → Int32 → Bool} {c c' v v' : Nat → Int32} : ∀ k, (∀ j, j ≤ k → v' j = v j ∧ c' j = c j) → gsF kp c' v' k = gsF kp c v k
  | 0, e => by rw [gsF, gsF, (e 0 (Nat.le_refl _)).1, (e 0 (Nat.le_refl _)).2]
  | k + 1, e => by rw [gsF, gsF, gsF_cg k (fun j hj => e j (by omega)), (e (k + 1) (Nat.le_refl _)).1, (e (k + 1) (Nat.le_refl _)).2]
def kpL (l v : Int32) : Bool := decide (l ≤ v)
theorem kpL_t {l v : Int32} (h : l ≤ v) : kpL l v = true := decide_eq_true h
theorem kpL_f {l v : Int32} (h : ¬ l ≤ v) : kpL l v = false := decide_eq_false h
section ANB
variable {G : pG} {u v : pM} {Q : Option Value → pM → Prop}
/-! again -/
/-! wants -/
/-! beside -/
/-! round -/
/-! best -/
theorem st61 {x3 : Int32} (h : 0 ≤ x3 ∧ x3 ≤ 60) : 0 ≤ x3 + 1 ∧ (x3 + 1).toNatClampNeg = x3.toNatClampNeg + 1 := ⟨by have := h.1; have := h.2; grind, tn_succ (b := 61) h.1 (by have := h.2; grind)⟩
theorem st62 {x x3 : Int32} (h : 0 ≤ x3 ∧ x3 ≤ 60) (h0 : 0 ≤ x) (c : ¬ x3 < x) : ¬ x3 + 1 ≤ x ∧ 0 ≤ x + 1 ∧ x + 1 ≤ x3 + 1 := ⟨by have := h.1; have := h.2; grind, by have := h.1; have := h.2; grind, by have := h.1; have := h.2; grind⟩
theorem st63 {x x3 : Int32} (h : 0 ≤ x3 ∧ x3 ≤ 60) (h0 : 0 ≤ x) (hx : x ≤ x3 + 1) (c : x3 < x) : x.toNatClampNeg = x3.toNatClampNeg + 1 := by
  have : x = x3 + 1 := by have := h.1; have := h.2; grind
  rw [this]; exact (st61 h).2
end ANB
