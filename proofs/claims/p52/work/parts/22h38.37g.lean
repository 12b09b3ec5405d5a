/-! ===== ways: plainly ===== -/
theorem tnX {x : Int32} (h : 0 ≤ x) : x.toInt = (x.toNatClampNeg : Int) := by
  have a := Int32.le_iff_toInt_le.mp h
  have e : (0 : Int32).toInt = 0 := by decide
  show x.toInt = ((x.toInt.toNat : Nat) : Int)
  omega
theorem dv32 {w k : Int32} {W K : Nat} (hw : w.toInt = (W : Int)) (hk : k.toInt = (K : Int)) : (w / k).toInt = ((W / K : Nat) : Int) := by
  have e : (-1 : Int32).toInt = -1 := by decide
  rw [Int32.toInt_div_of_ne_right _ _ (fun z => by rw [z, e] at hk; omega), hw, hk]
  rfl
theorem rm32 {w k : Int32} {W K : Nat} (hw : w.toInt = (W : Int)) (hk : k.toInt = (K : Int)) (hp : 0 < K) : (w - w / k * k).toInt = ((W % K : Nat) : Int) := by
  have e : (0 : Int32).toInt = 0 := by decide
  rw [rmI_toInt (fun z => by rw [z, e] at hk; omega), hw, hk]
  rfl
/-- by how many steps it goes in a week; in all weeks before a week -/
def goN (kind : Int32) (K W : Nat) : Int := if kind = 1 then 0 else if kind = 4 then (if W / K % 2 = 0 then 1 else -1) else if kind = 3 then (if W % K = K - 1 then 0 else 1) else if kind = 5 then (if W % K = K - 1 then -1 else 1) else 1
def wyN (kind : Int32) (K W : Nat) : Int := if kind = 1 then 0 else if kind = 4 then (if W % (2 * K) ≤ K then ((W % (2 * K) : Nat) : Int) else ((2 * K - W % (2 * K) : Nat) : Int)) else if kind = 3 then (W : Int) - ((W / K : Nat) : Int) else if kind = 5 then (W : Int) - 2 * ((W / K : Nat) : Int) else (W : Int)
def perN (K : Nat) : Nat := if 2 ≤ K then 2 * K else 1
abbrev kd9 (kind : Int32) (K : Nat) : Prop := kind = 3 ∨ kind = 4 ∨ kind = 5 → K = 2 ∨ K = 3 ∨ K = 4 ∨ K = 5 ∨ K = 6 ∨ K = 7 ∨ K = 8 ∨ K = 9
theorem wy_s {kind : Int32} {K : Nat} (h : kd9 kind K) (W : Nat) : wyN kind K (W + 1) = wyN kind K W + goN kind K W := by
  unfold wyN goN
  by_cases a : kind = 1
  · rw [if_pos a, if_pos a, if_pos a]; rfl
  rw [if_neg a, if_neg a, if_neg a]
  by_cases b : kind = 4
  · rw [if_pos b, if_pos b, if_pos b]
    rcases h (.inr (.inl b)) with e | e | e | e | e | e | e | e <;> rw [e] <;> split <;> split <;> split <;> omega
  rw [if_neg b, if_neg b, if_neg b]
  by_cases c : kind = 3
  · rw [if_pos c, if_pos c, if_pos c]
    rcases h (.inl c) with e | e | e | e | e | e | e | e <;> rw [e] <;> split <;> omega
  rw [if_neg c, if_neg c, if_neg c]
  by_cases d : kind = 5
  · rw [if_pos d, if_pos d, if_pos d]
    rcases h (.inr (.inr d)) with e | e | e | e | e | e | e | e <;> rw [e] <;> split <;> omega
  rw [if_neg d, if_neg d, if_neg d]
  omega
theorem wy_p {kind : Int32} {K : Nat} (h : kd9 kind K) (W : Nat) : wyN kind K (W + perN K) = wyN kind K W + wyN kind K (perN K) := by
  unfold wyN
  by_cases a : kind = 1
  · rw [if_pos a, if_pos a, if_pos a]; rfl
  rw [if_neg a, if_neg a, if_neg a]
  by_cases b : kind = 4
  · rw [if_pos b, if_pos b, if_pos b]
    have hK := h (.inr (.inl b))
    have ep : perN K = 2 * K := by unfold perN; rw [if_pos (by omega)]
    rw [ep]
    rcases hK with e | e | e | e | e | e | e | e <;> rw [e] <;> split <;> split <;> split <;> omega
  rw [if_neg b, if_neg b, if_neg b]
  by_cases c : kind = 3
  · rw [if_pos c, if_pos c, if_pos c]
    rcases h (.inl c) with e | e | e | e | e | e | e | e <;> rw [e] <;> unfold perN <;> rw [if_pos (by decide)] <;> omega
  rw [if_neg c, if_neg c, if_neg c]
  by_cases d : kind = 5
  · rw [if_pos d, if_pos d, if_pos d]
    rcases h (.inr (.inr d)) with e | e | e | e | e | e | e | e <;> rw [e] <;> unfold perN <;> rw [if_pos (by decide)] <;> omega
  rw [if_neg d, if_neg d, if_neg d]
  omega
theorem wy_q {kind : Int32} {K : Nat} (h : kd9 kind K) (W : Nat) : ∀ q : Nat, wyN kind K (W + q * perN K) = wyN kind K W + (q : Int) * wyN kind K (perN K)
  | 0 => by
    rw [Nat.zero_mul, Nat.add_zero]
    show _ = _ + (0 : Int) * _
    rw [Int.zero_mul, Int.add_zero]
  | q + 1 => by
    rw [Nat.succ_mul, ← Nat.add_assoc, wy_p h, wy_q h W q]
    show _ = _ + ((q : Int) + 1) * _
    rw [Int.add_mul, Int.one_mul, Int.add_assoc]
theorem wy_b {kind : Int32} {K : Nat} (h : kd9 kind K) (W : Nat) : 0 ≤ wyN kind K W ∧ wyN kind K W ≤ W := by
  unfold wyN
  by_cases a : kind = 1
  · rw [if_pos a]; omega
  rw [if_neg a]
  by_cases b : kind = 4
  · rw [if_pos b]
    rcases h (.inr (.inl b)) with e | e | e | e | e | e | e | e <;> rw [e] <;> split <;> omega
  rw [if_neg b]
  by_cases c : kind = 3
  · rw [if_pos c]
    rcases h (.inl c) with e | e | e | e | e | e | e | e <;> rw [e] <;> omega
  rw [if_neg c]
  by_cases d : kind = 5
  · rw [if_pos d]
    rcases h (.inr (.inr d)) with e | e | e | e | e | e | e | e <;> rw [e] <;> omega
  rw [if_neg d]
  omega
theorem go_b (kind : Int32) (K W : Nat) : -1 ≤ goN kind K W ∧ goN kind K W ≤ 1 := by
  unfold goN
  by_cases a : kind = 1
  · rw [if_pos a]; decide
  rw [if_neg a]
  by_cases b : kind = 4
  · rw [if_pos b]; split <;> decide
  rw [if_neg b]
  by_cases c : kind = 3
  · rw [if_pos c]; split <;> decide
  rw [if_neg c]
  by_cases d : kind = 5
  · rw [if_pos d]; split <;> decide
  rw [if_neg d]
  decide
theorem wy_d {kind : Int32} {K : Nat} (h : kd9 kind K) (W : Nat) : ∀ i : Nat, -(i : Int) ≤ wyN kind K (W + i) - wyN kind K W ∧ wyN kind K (W + i) - wyN kind K W ≤ (i : Int)
  | 0 => by rw [Nat.add_zero]; omega
  | i + 1 => by
    have a := wy_d h W i
    have b := go_b kind K (W + i)
    have c := wy_s h (W + i)
    rw [← Nat.add_assoc, c]
    omega
theorem mul9 {s D : Int} {B : Nat} (hs : -9 ≤ s ∧ s ≤ 9) (hD : -(B : Int) ≤ D ∧ D ≤ (B : Int)) : -(9 * (B : Int)) ≤ s * D ∧ s * D ≤ 9 * (B : Int) := by
  have a : (s * D).natAbs = s.natAbs * D.natAbs := Int.natAbs_mul s D
  have b : s.natAbs * D.natAbs ≤ 9 * B := Nat.mul_le_mul (by omega) (by omega)
  omega
theorem mulB {q s : Int} (h1 : 0 ≤ q) (h2 : q ≤ 1000000000) (h3 : -200 ≤ s) (h4 : s ≤ 200) : -200000000000 ≤ q * s ∧ q * s ≤ 200000000000 := by
  have a := Int.mul_le_mul_of_nonneg_left h4 h1
  have b := Int.mul_le_mul_of_nonneg_left h3 h1
  omega
/-- a kind and its k -/
def kdK (kind k : Int32) : Prop := (0 ≤ kind ∧ kind ≤ 5) ∧ (kind < 3 → k = 0) ∧ (3 ≤ kind → 2 ≤ k ∧ k ≤ 9)
theorem kdC {kind k : Int32} (h : kdK kind k) : ((kind = 0 ∨ kind = 1 ∨ kind = 2) ∧ k = 0) ∨ ((kind = 3 ∨ kind = 4 ∨ kind = 5) ∧ 2 ≤ k ∧ k ≤ 9) := by
  obtain ⟨⟨a, b⟩, c, d⟩ := h
  have l := tn_le b
  have e5 : (5 : Int32).toNatClampNeg = 5 := by decide
  have q := (show ∀ k, k < 6 → (Int32.ofNat k = 0 ∨ Int32.ofNat k = 1 ∨ Int32.ofNat k = 2) ∨ (Int32.ofNat k = 3 ∨ Int32.ofNat k = 4 ∨ Int32.ofNat k = 5) from by decide) kind.toNatClampNeg (by omega)
  rw [i32_nat a] at q
  rcases q with q | q
  · exact .inl ⟨q, c (by rcases q with e | e | e <;> rw [e] <;> decide)⟩
  · exact .inr ⟨q, d (by rcases q with e | e | e <;> rw [e] <;> decide)⟩
theorem kd29 {k : Int32} (h : 2 ≤ k ∧ k ≤ 9) : 0 ≤ k ∧ 2 ≤ k.toNatClampNeg ∧ k.toNatClampNeg ≤ 9 := by
  have a := tn_le h.1
  have b := tn_le h.2
  have e2 : (2 : Int32).toNatClampNeg = 2 := by decide
  have e9 : (9 : Int32).toNatClampNeg = 9 := by decide
  exact ⟨Int32.le_trans (by decide) h.1, by omega, by omega⟩
theorem kdK.k9 {kind k : Int32} (h : kdK kind k) : kd9 kind k.toNatClampNeg := fun q => by
  rcases kdC h with ⟨a, _⟩ | ⟨_, b⟩
  · rcases a with e | e | e <;> rw [e] at q <;> rcases q with q | q | q <;> exact absurd q (by decide)
  · have := kd29 b
    omega
theorem lk_eq {w k : Int32} (hw : 0 ≤ w) (hk : 2 ≤ k ∧ k ≤ 9) : w - w / k * k = k - 1 ↔ w.toNatClampNeg % k.toNatClampNeg = k.toNatClampNeg - 1 := by
  have b := kd29 hk
  have ek := tnX b.1
  have e := rm32 (tnX hw) ek (by omega)
  have e1 : (k - 1).toInt = k.toInt - 1 := by
    rw [Int32.toInt_sub, show (1 : Int32).toInt = 1 by decide, Int.bmod_eq_of_le (by omega) (by omega)]
  constructor
  · intro z
    rw [z] at e
    omega
  · intro z
    apply Int32.toInt_inj.mp
    omega
theorem pkz {w k : Int32} (hw : 0 ≤ w) (hk : 2 ≤ k ∧ k ≤ 9) : w / k - w / k / 2 * 2 = 0 ↔ w.toNatClampNeg / k.toNatClampNeg % 2 = 0 := by
  have b := kd29 hk
  have e := rm32 (dv32 (tnX hw) (tnX b.1)) (show (2 : Int32).toInt = ((2 : Nat) : Int) by decide) (by decide)
  have e0 : (0 : Int32).toInt = 0 := by decide
  constructor
  · intro z
    rw [z] at e
    omega
  · intro z
    apply Int32.toInt_inj.mp
    omega
theorem go_C {kind k step w : Int32} (hk : kdK kind k) (hs : -9 ≤ step.toInt ∧ step.toInt ≤ 9) (hw : 0 ≤ w) : (goC kind k step w).toInt = step.toInt * goN kind k.toNatClampNeg w.toNatClampNeg := by
  have e0 : (0 : Int32).toInt = 0 := by decide
  have en : (-step).toInt = -step.toInt := by rw [Int32.toInt_neg, Int.bmod_eq_of_le (by omega) (by omega)]
  rcases kdC hk with ⟨a, b⟩ | ⟨a, b⟩
  · rw [b]
    have pl : ∀ q : Int32, ¬ q = 1 → ¬ q = 4 → ¬ q = 3 → ¬ q = 5 → (goC q 0 step w).toInt = step.toInt * goN q (0 : Int32).toNatClampNeg w.toNatClampNeg := fun q q1 q4 q3 q5 => by
      have eC : goC q 0 step w = step := by
        unfold goC
        rw [if_neg q1, if_pos (by decide)]
      have eN : goN q (0 : Int32).toNatClampNeg w.toNatClampNeg = 1 := by
        unfold goN
        rw [if_neg q1, if_neg q4, if_neg q3, if_neg q5]
      rw [eC, eN, Int.mul_one]
    rcases a with e | e | e <;> rw [e]
    · exact pl 0 (by decide) (by decide) (by decide) (by decide)
    · have eC : goC 1 0 step w = 0 := by unfold goC; rw [if_pos rfl]
      have eN : goN 1 (0 : Int32).toNatClampNeg w.toNatClampNeg = 0 := by unfold goN; rw [if_pos rfl]
      rw [eC, eN, Int.mul_zero]; exact e0
    · exact pl 2 (by decide) (by decide) (by decide) (by decide)
  · have n2 : ¬ ¬ 2 ≤ k := fun z => z b.1
    rcases a with e | e | e <;> rw [e]
    · have eC : goC 3 k step w = if w - w / k * k = k - 1 then 0 else step := by
        unfold goC
        rw [if_neg (show ¬ (3 : Int32) = 1 by decide), if_neg n2, if_pos rfl]
      have eN : goN 3 k.toNatClampNeg w.toNatClampNeg = if w.toNatClampNeg % k.toNatClampNeg = k.toNatClampNeg - 1 then 0 else 1 := by
        unfold goN
        rw [if_neg (show ¬ (3 : Int32) = 1 by decide), if_neg (show ¬ (3 : Int32) = 4 by decide), if_pos rfl]
      rw [eC, eN]
      by_cases c : w - w / k * k = k - 1
      · rw [if_pos c, if_pos ((lk_eq hw b).mp c), Int.mul_zero]; exact e0
      · rw [if_neg c, if_neg (fun z => c ((lk_eq hw b).mpr z)), Int.mul_one]
    · have eC : goC 4 k step w = if w / k - w / k / 2 * 2 = 0 then step else -step := by
        unfold goC
        rw [if_neg (show ¬ (4 : Int32) = 1 by decide), if_neg n2, if_neg (show ¬ (4 : Int32) = 3 by decide), if_pos rfl]
      have eN : goN 4 k.toNatClampNeg w.toNatClampNeg = if w.toNatClampNeg / k.toNatClampNeg % 2 = 0 then 1 else -1 := by
        unfold goN
        rw [if_neg (show ¬ (4 : Int32) = 1 by decide), if_pos rfl]
      rw [eC, eN]
      by_cases c : w / k - w / k / 2 * 2 = 0
      · rw [if_pos c, if_pos ((pkz hw b).mp c), Int.mul_one]
      · rw [if_neg c, if_neg (fun z => c ((pkz hw b).mpr z)), Int.mul_neg, Int.mul_one]; exact en
    · have eC : goC 5 k step w = if w - w / k * k = k - 1 then -step else step := by
        unfold goC
        rw [if_neg (show ¬ (5 : Int32) = 1 by decide), if_neg n2, if_neg (show ¬ (5 : Int32) = 3 by decide), if_neg (show ¬ (5 : Int32) = 4 by decide), if_pos rfl]
      have eN : goN 5 k.toNatClampNeg w.toNatClampNeg = if w.toNatClampNeg % k.toNatClampNeg = k.toNatClampNeg - 1 then -1 else 1 := by
        unfold goN
        rw [if_neg (show ¬ (5 : Int32) = 1 by decide), if_neg (show ¬ (5 : Int32) = 4 by decide), if_neg (show ¬ (5 : Int32) = 3 by decide), if_pos rfl]
      rw [eC, eN]
      by_cases c : w - w / k * k = k - 1
      · rw [if_pos c, if_pos ((lk_eq hw b).mp c), Int.mul_neg, Int.mul_one]; exact en
      · rw [if_neg c, if_neg (fun z => c ((lk_eq hw b).mpr z)), Int.mul_one]
def wayZ (kind k step : Int32) (W N : Nat) : Int := step.toInt * (wyN kind k.toNatClampNeg (W + N) - wyN kind k.toNatClampNeg W)
section ANG
variable {G : pG} {u v : pM} {Q : Option Value → pM → Prop}
theorem c_wayOfx {kind k step w n : Int32} (hk : kdK kind k) (hs : -9 ≤ step.toInt ∧ step.toInt ≤ 9) (hw : 0 ≤ w ∧ w ≤ 100000) (hn : 0 ≤ n ∧ n ≤ 1000000000) : Ws G Sh_wayOf 0 [(0, .int kind), (1, .int k), (2, .int step), (3, .int w), (4, .int n)] [] u (RJ fun a u' => u = u' ∧ a.toInt = wayZ kind k step w.toNatClampNeg n.toNatClampNeg) := by
  have h9 := hk.k9
  have ew := tnX hw.1
  have en := tnX hn.1
  have lw := Int32.le_iff_toInt_le.mp hw.2
  have ln := Int32.le_iff_toInt_le.mp hn.2
  have c5 : (100000 : Int32).toInt = 100000 := by decide
  have c9 : (1000000000 : Int32).toInt = 1000000000 := by decide
  have d0 : (0 : Int32).toInt = 0 := by decide
  have l0 : (0 : Int64).toInt = 0 := by decide
  have main : ∀ p : Int32, p.toInt = (perN k.toNatClampNeg : Int) → 1 ≤ perN k.toNatClampNeg → perN k.toNatClampNeg ≤ 18 → Ws G Sh_wayOf 30 [(0, .int kind), (1, .int k), (2, .int step), (3, .int w), (4, .int n), (5, .int p), (6, .int (n - n / p * p)), (7, .long 0), (9, .long 0), (11, .int 0)] [] u (RJ fun a u' => u = u' ∧ a.toInt = wayZ kind k step w.toNatClampNeg n.toNatClampNeg) := by
    intro p hp p1 p18
    have er := rm32 en hp (by omega)
    have eq := dv32 en hp
    have pz : ¬ p = 0 := fun z => by rw [z, d0] at hp; omega
    obtain ⟨qq, hqq⟩ : ∃ q, q = n.toNatClampNeg / perN k.toNatClampNeg := ⟨_, rfl⟩
    obtain ⟨rr, hrr⟩ : ∃ r, r = n.toNatClampNeg % perN k.toNatClampNeg := ⟨_, rfl⟩
    have lr : rr < perN k.toNatClampNeg := by rw [hrr]; exact Nat.mod_lt _ (by omega)
    have lq : qq ≤ n.toNatClampNeg := by rw [hqq]; exact Nat.div_le_self _ _
    have dm : w.toNatClampNeg + n.toNatClampNeg = w.toNatClampNeg + rr + qq * perN k.toNatClampNeg := by
      have := Nat.mod_add_div n.toNatClampNeg (perN k.toNatClampNeg)
      rw [← hrr, ← hqq, Nat.mul_comm] at this
      omega
    rw [← hqq] at eq
    rw [← hrr] at er
    have key : ∀ (i : Int32) (x7 x9 : Int64), 0 ≤ i → i ≤ p → x7.toInt = step.toInt * (wyN kind k.toNatClampNeg (w.toNatClampNeg + i.toNatClampNeg) - wyN kind k.toNatClampNeg w.toNatClampNeg) → x9.toInt = step.toInt * (wyN kind k.toNatClampNeg (w.toNatClampNeg + min i.toNatClampNeg rr) - wyN kind k.toNatClampNeg w.toNatClampNeg) → Ws G Sh_wayOf 30 [(0, .int kind), (1, .int k), (2, .int step), (3, .int w), (4, .int n), (5, .int p), (6, .int (n - n / p * p)), (7, .long x7), (9, .long x9), (11, .int i)] [] u (RJ fun a u' => u = u' ∧ a.toInt = wayZ kind k step w.toNatClampNeg n.toNatClampNeg) := by
      refine upI p _ (fun i ih x7 x9 h0 hi e7 e9 => sg_Sh_wayOf_30 ⟨fun c => ⟨pz, _, rfl, rfl, ?_⟩, fun c => ?_⟩)
      · have ei := tnX h0
        have ip : i = p := Int32.le_antisymm hi c
        have iP : i.toNatClampNeg = perN k.toNatClampNeg := by rw [ip] at ei ⊢; omega
        rw [iP, Nat.min_eq_right (Nat.le_of_lt lr)] at e9
        have b9 := mul9 hs (wy_d h9 w.toNatClampNeg rr)
        rw [iP, wy_p h9, show ∀ a b : Int, a + b - a = b from fun a b => by omega] at e7
        have bP := wy_b h9 (perN k.toNatClampNeg)
        have b7 := mul9 (B := 18) hs (D := wyN kind k.toNatClampNeg (perN k.toNatClampNeg)) (by omega)
        have bq := mulB (q := (qq : Int)) (s := step.toInt * wyN kind k.toNatClampNeg (perN k.toNatClampNeg)) (by omega) (by omega) (by omega) (by omega)
        unfold wayZ
        rw [Int64.toInt_add, Int64.toInt_mul, Int32.toInt_toInt64, eq, e7, Int.bmod_eq_of_le (n := (qq : Int) * (step.toInt * wyN kind k.toNatClampNeg (perN k.toNatClampNeg))) (by omega) (by omega), e9, Int.bmod_eq_of_le (by omega) (by omega), dm, wy_q h9, Int.mul_sub, Int.mul_sub, Int.mul_add, Int.mul_left_comm step.toInt]
        omega
      · have ei := tnX h0
        have pi := Int32.lt_iff_toInt_lt.mp (Int32.not_le.mp c)
        have su := stU h0 c
        have sx := tn_succ h0 c
        have wi : (w + i).toInt = ((w.toNatClampNeg + i.toNatClampNeg : Nat) : Int) := by
          rw [Int32.toInt_add, Int.bmod_eq_of_le (by omega) (by omega)]
          omega
        have wi0 : 0 ≤ w + i := Int32.le_iff_toInt_le.mpr (by omega)
        have win : (w + i).toNatClampNeg = w.toNatClampNeg + i.toNatClampNeg := by have := tnX wi0; omega
        have gi := go_C (w := w + i) hk hs wi0
        rw [win] at gi
        have ws := wy_s h9 (w.toNatClampNeg + i.toNatClampNeg)
        have b7 := mul9 hs (wy_d h9 w.toNatClampNeg i.toNatClampNeg)
        have bg := mul9 (B := 1) hs (go_b kind k.toNatClampNeg (w.toNatClampNeg + i.toNatClampNeg))
        rw [← gi] at bg
        have alg : ∀ a b g : Int, step.toInt * (a + g - b) = step.toInt * (a - b) + step.toInt * g := fun a b g => by
          rw [Int.mul_sub, Int.mul_add, Int.mul_sub]; omega
        have add : ∀ x : Int64, x.toInt = step.toInt * (wyN kind k.toNatClampNeg (w.toNatClampNeg + i.toNatClampNeg) - wyN kind k.toNatClampNeg w.toNatClampNeg) → (x + (goC kind k step (w + i)).toInt64).toInt = step.toInt * (wyN kind k.toNatClampNeg (w.toNatClampNeg + (i + 1).toNatClampNeg) - wyN kind k.toNatClampNeg w.toNatClampNeg) := fun x e => by
          have b := b7
          rw [← e] at b
          rw [sx, ← Nat.add_assoc, ws, alg, Int64.toInt_add, Int32.toInt_toInt64, Int.bmod_eq_of_le (by omega) (by omega), e, gi]
        refine ⟨fun d => ih c _ _ su.1 su.2 (add x7 e7) ?_, fun d => ih c _ _ su.1 su.2 (add x7 e7) ?_⟩
        · have d' := Int32.le_iff_toInt_le.mp d
          rw [Int64.add_zero, sx, Nat.min_eq_right (by omega)]
          rw [Nat.min_eq_right (by omega)] at e9
          exact e9
        · have d' := Int32.lt_iff_toInt_lt.mp (Int32.not_le.mp d)
          rw [Nat.min_eq_left (by omega)] at e9
          have q := add x9 e9
          rw [sx] at q
          rw [sx, Nat.min_eq_left (by omega)]
          exact q
    have z0 : (0 : Int32).toNatClampNeg = 0 := by decide
    have p0 : 0 ≤ p := Int32.le_iff_toInt_le.mpr (by omega)
    refine key 0 0 0 (by decide) p0 ?_ ?_
    · rw [z0, Nat.add_zero, Int.sub_self, Int.mul_zero]; exact l0
    · rw [z0, Nat.zero_min, Nat.add_zero, Int.sub_self, Int.mul_zero]; exact l0
  refine sg_Sh_wayOf_0 ⟨fun c => ?_, fun c => ?_⟩
  · rcases kdC hk with ⟨_, b⟩ | ⟨_, b⟩
    · rw [b] at c; exact absurd c (by decide)
    have q := kd29 b
    have ek := tnX q.1
    have eP : perN k.toNatClampNeg = 2 * k.toNatClampNeg := by unfold perN; rw [if_pos q.2.1]
    have e2 : (2 * k).toInt = (perN k.toNatClampNeg : Int) := by
      rw [Int32.toInt_mul, show (2 : Int32).toInt = 2 by decide, Int.bmod_eq_of_le (by omega) (by omega)]
      omega
    exact ⟨fun z => by rw [z, d0] at e2; omega, main _ e2 (by omega) (by omega)⟩
  · rcases kdC hk with ⟨_, b⟩ | ⟨_, b⟩
    · have eP : perN k.toNatClampNeg = 1 := by rw [b]; decide
      exact main 1 (by rw [eP]; decide) (by omega) (by omega)
    · exact absurd b.1 c
theorem shV.kd {s : Sh5} (h : shV s) : kdK s.1 s.2.2.2.2 := ⟨h.1, h.2.1, h.2.2.1⟩
end ANG
