/-! ===== again, wants, beside, round, best, agree ===== -/
theorem stU {x b : Int32} (h0 : 0 ≤ x) (c : ¬ b ≤ x) : 0 ≤ x + 1 ∧ x + 1 ≤ b := ⟨by grind, by grind⟩
/-- the first of the best, by what is kept -/
def gsF (kp : Int32 → Int32 → Bool) (c v : Nat → Int32) : Nat → Int32 × Int32
  | 0 => (c 0, v 0)
  | k + 1 => if kp (gsF kp c v k).2 (v (k + 1)) = true then gsF kp c v k else (c (k + 1), v (k + 1))
def gsI (kp : Int32 → Int32 → Bool) (c v : Nat → Int32) (a l : Int32) : Nat → Prop
  | 0 => kp l (v 0) = false
  | k + 1 => (a, l) = gsF kp c v k
theorem gs_k {kp : Int32 → Int32 → Bool} {c v : Nat → Int32} {a l : Int32} : ∀ {w : Nat}, gsI kp c v a l w → kp l (v w) = true → gsI kp c v a l (w + 1)
  | 0, h, k => by
    have h' : kp l (v 0) = false := h
    rw [k] at h'; exact absurd h' (by decide)
  | w + 1, h, k => by
    have h' : (a, l) = gsF kp c v w := h
    show (a, l) = gsF kp c v (w + 1)
    rw [gsF, ← h']
    exact (if_pos k).symm
theorem gs_r {kp : Int32 → Int32 → Bool} {c v : Nat → Int32} {a l : Int32} : ∀ {w : Nat}, gsI kp c v a l w → kp l (v w) = false → gsI kp c v (c w) (v w) (w + 1)
  | 0, _, _ => rfl
  | w + 1, h, k => by
    have h' : (a, l) = gsF kp c v w := h
    show (c (w + 1), v (w + 1)) = gsF kp c v (w + 1)
    rw [gsF, ← h']
    exact (if_neg (by show ¬ kp l (v (w + 1)) = true; rw [k]; decide)).symm
def kpG (l v : Int32) : Bool := decide (v ≤ l)
theorem kpG_t {l v : Int32} (h : v ≤ l) : kpG l v = true := decide_eq_true h
theorem kpG_f {l v : Int32} (h : ¬ v ≤ l) : kpG l v = false := decide_eq_false h
section ANB
variable {G : pG} {u v : pM} {Q : Option Value → pM → Prop}
/-! again -/
/-! wants -/
/-! beside -/
def besK (m x1 x2 : Int32) : Prop := (0 ≤ x1 ∧ x1 < m) ∧ (0 ≤ x2 ∧ x2 < m) ∧ ¬ x1 = x2
/-! round -/
/-! best -/
end ANB
