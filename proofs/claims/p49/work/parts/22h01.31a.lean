/-! ===== a square's text, read: the pure words ===== -/
abbrev Sh5 : Type := Int32 × Int32 × Int32 × Int32 × Int32
def sgT (n : Int32) (f : Nat → Int32) (x : Int32) : Int32 := if 0 ≤ x ∧ x < n then f x.toNatClampNeg else -9
abbrev fig (c : Int32) : Prop := 48 ≤ c ∧ c ≤ 57
def dg (c : Int32) : Int32 := c - 48
def nm2 (T : Int32 → Int32) (x : Int32) : Int32 × Int32 × Int32 := if fig (T x) then (if fig (T (x + 1)) then (2, 10 * dg (T x) + dg (T (x + 1)), x + 1 + 1) else (1, dg (T x), x + 1)) else (0, 0, x)
def shp4 (T : Int32 → Int32) (k v s a y : Int32) : Option (Sh5 × Int32) := if k < 3 then some ((k, v, s, a, 0), y) else if ¬ T y = 58 then none else if ¬ (fig (T (y + 1)) ∧ 2 ≤ dg (T (y + 1))) then none else some ((k, v, s, a, dg (T (y + 1))), y + 1 + 1)
def shp3 (T : Int32 → Int32) (k v s y : Int32) : Option (Sh5 × Int32) := if ¬ T y = 58 then none else if (nm2 T (y + 1)).1 = 0 ∨ ¬ (1 ≤ (nm2 T (y + 1)).2.1 ∧ (nm2 T (y + 1)).2.1 ≤ 99) then none else shp4 T k v s (nm2 T (y + 1)).2.1 (nm2 T (y + 1)).2.2
def shp2 (T : Int32 → Int32) (k v y : Int32) : Option (Sh5 × Int32) := if ¬ T y = 58 then none else if ¬ (T (y + 1) = 45 ∨ T (y + 1) = 43) then none else if ¬ fig (T (y + 1 + 1)) then none else shp3 T k v (if T (y + 1) = 45 then -dg (T (y + 1 + 1)) else dg (T (y + 1 + 1))) (y + 1 + 1 + 1)
def shp (T : Int32 → Int32) (d : Int32) (told : Int32 → Bool) (x : Int32) : Option (Sh5 × Int32) := if kindV (T x) = -9 then none else if (nm2 T (x + 1)).1 = 0 ∨ ¬ (0 ≤ (nm2 T (x + 1)).2.1 ∧ (nm2 T (x + 1)).2.1 ≤ d - 1) then none else if told (nm2 T (x + 1)).2.1 = true then none else shp2 T (kindV (T x)) (nm2 T (x + 1)).2.1 (nm2 T (x + 1)).2.2
def toldL (l : List Sh5) (v : Int32) : Bool := l.any (fun s => s.2.1 == v)
def skF (T : Int32 → Int32) : Nat → Int32 → Int32
  | 0, x => x
  | f + 1, x => if T x = 32 then skF T f (x + 1) else x
def sk (T : Int32 → Int32) (n x : Int32) : Int32 := skF T (n - x).toNatClampNeg x
def rdS (T : Int32 → Int32) (n d : Int32) : Nat → List Sh5 → Int32 → Option (List Sh5)
  | 0, _, _ => none
  | f + 1, l, x => if n ≤ sk T n x then some l else if l.length = 7 then none else match shp T d (toldL l) (sk T n x) with
    | none => none
    | some q => rdS T n d f (l ++ [q.1]) q.2
def rdA (T : Int32 → Int32) (n : Int32) : Option (Int32 × List Sh5) := if ¬ T (sk T n 0) = 100 then none else if (nm2 T (sk T n 0 + 1)).1 = 0 ∨ ¬ (10 ≤ (nm2 T (sk T n 0 + 1)).2.1 ∧ (nm2 T (sk T n 0 + 1)).2.1 ≤ 30) then none else (rdS T n (nm2 T (sk T n 0 + 1)).2.1 8 [] (nm2 T (sk T n 0 + 1)).2.2).map (fun l => ((nm2 T (sk T n 0 + 1)).2.1, l))
theorem sg_in {n : Int32} {f : Nat → Int32} {x : Int32} (h : ¬ sgT n f x = -9) : 0 ≤ x ∧ x < n := by
  unfold sgT at h
  split at h
  · assumption
  · exact absurd rfl h
theorem sk_b {n : Int32} {f : Nat → Int32} {x : Int32} (h100 : n ≤ 100) (h : sgT n f x = 32) : sk (sgT n f) n x = sk (sgT n f) n (x + 1) := by
  have i := sg_in (n := n) (f := f) (x := x) (by rw [h]; decide)
  have e : (n - x).toNatClampNeg = (n - (x + 1)).toNatClampNeg + 1 := by
    have a : n - x = (n - (x + 1)) + 1 := by grind
    rw [a]
    exact tn_succ (b := 100) (by grind) (by grind)
  unfold sk
  rw [e, skF, if_pos h]
theorem sk_n {n : Int32} {f : Nat → Int32} {x : Int32} (h : ¬ sgT n f x = 32) : sk (sgT n f) n x = x := by
  unfold sk
  cases (n - x).toNatClampNeg with
  | zero => rfl
  | succ k => rw [skF, if_neg h]
theorem nm2_1 {T : Int32 → Int32} {x : Int32} (h : 10 ≤ (nm2 T x).2.1) : (nm2 T x).1 = 2 := by
  unfold nm2 at *
  by_cases a : fig (T x)
  · rw [if_pos a] at h ⊢
    by_cases b : fig (T (x + 1))
    · rw [if_pos b]
    · rw [if_neg b] at h
      have : dg (T x) ≤ 9 := by unfold dg; have := a.1; have := a.2; grind
      exact absurd h (by show ¬ 10 ≤ dg (T x); grind)
  · rw [if_neg a] at h
    exact absurd (show (10 : Int32) ≤ 0 from h) (by decide)
theorem nm2_c (T : Int32 → Int32) (x : Int32) : 1 ≤ (nm2 T x).1 ↔ ¬ (nm2 T x).1 = 0 := by
  unfold nm2
  split
  · split
    · exact (show (1 : Int32) ≤ 2 ↔ ¬ (2 : Int32) = 0 from by decide)
    · exact (show (1 : Int32) ≤ 1 ↔ ¬ (1 : Int32) = 0 from by decide)
  · exact (show (1 : Int32) ≤ 0 ↔ ¬ (0 : Int32) = 0 from by decide)
