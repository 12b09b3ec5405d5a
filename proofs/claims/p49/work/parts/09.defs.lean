/-! pure words for what leaf methods answer and do -/
def mt (u : pM) (f : Int32) : pM := pI (pI u 76 0 f) 77 f.toNatClampNeg (mI (pI u 76 0 f) 77 f.toNatClampNeg + 1)
def hereV (u : pM) (t : Int32) : Int32 := if mI u 81 t.toNatClampNeg ≤ mI u 76 13 then -9 else mI u 82 (100 * t + mI u 76 13).toNatClampNeg
def kindV (c : Int32) : Int32 := if c = 115 then 0 else if c = 102 then 1 else if c = 121 then 2 else if c = 110 then 3 else if c = 111 then 4 else if c = 112 then 5 else -9
def goV (kind step k w : Int32) : Int32 := if kind = 1 then 0 else if kind = 4 then (if (w / k) - (w / k) / 2 * 2 = 0 then step else -step) else if kind < 3 then step else if w - w / k * k = k - 1 then (if kind = 3 then 0 else -step) else step
def dAt (n : Int32) (x : Int64) : Int32 := if 0 ≤ lg_cmp (x - x / n.toInt64 * n.toInt64) 0 then (x - x / n.toInt64 * n.toInt64).toInt32 else (x - x / n.toInt64 * n.toInt64 + n.toInt64).toInt32
def wayV (kind k : Int32) (w : Int64) : Int64 := if kind = 1 then 0 else if 3 ≤ kind then (if kind = 4 then (if 0 < lg_cmp (w - w / (2 * k.toInt64) * (2 * k.toInt64)) k.toInt64 then 2 * k.toInt64 - (w - w / (2 * k.toInt64) * (2 * k.toInt64)) else w - w / (2 * k.toInt64) * (2 * k.toInt64)) else if kind = 3 then w - w / k.toInt64 else w - 2 * (w / k.toInt64)) else w
def spH (u : pM) (o : Nat) (i : Int32) : Prop := 0 ≤ i ∧ i < mI u o 1 ∧ i < Int32.ofNat (S0 (o + 1)).2
def spG (u : pM) (o : Nat) (i : Int32) : Int32 := if 0 ≤ i ∧ i < mI u o 1 ∧ i < Int32.ofNat (S0 (o + 1)).2 then mI u (o + 1) i.toNatClampNeg else 0
def spS (u : pM) (o : Nat) (i v : Int32) : pM := if 0 ≤ i ∧ i < mI u o 1 ∧ i < Int32.ofNat (S0 (o + 1)).2 then pI u (o + 1) i.toNatClampNeg v else u
def goC (kind k step w : Int32) : Int32 := if kind = 1 then 0 else if ¬ 2 ≤ k then step else if kind = 3 then (if w - w / k * k = k - 1 then 0 else step) else if kind = 4 then (if (w / k) - (w / k) / 2 * 2 = 0 then step else -step) else if kind = 5 then (if w - w / k * k = k - 1 then -step else step) else step
def wtS (k w : Int32) : Int32 := if 2 ≤ k then k - 1 - (w - w / k * k) else 0
def wtT (k w : Int32) : Int32 := if 2 ≤ k then k - (w - w / k * k) else 0
def plS (u : pM) (o : Nat) (s : Int32) : Prop := 0 ≤ s ∧ s < mI u o 1 ∧ s < 7
def wrV (n : Int32) (x : Int64) : Int32 := if n ≤ 0 then 0 else (fm x n.toInt64).toInt32
def snD (u : pM) (o : Nat) (s : Int32) : Int32 := if 0 ≤ s ∧ s < 7 then mI u (o + 1) s.toNatClampNeg else 0
def snS (u : pM) (o : Nat) (s d : Int32) : pM := if 0 ≤ s ∧ s < 7 then pI u (o + 1) s.toNatClampNeg d else u
def snB (u : pM) (o p : Nat) : pM := cpI (pI (pI u o 0 (mI u p 0)) o 1 (mI (pI u o 0 (mI u p 0)) p 1)) (p + 1) (o + 1) (0 : Int32).toNatClampNeg (0 : Int32).toNatClampNeg (7 : Int32).toNatClampNeg
def dF (u : pM) (f : Int32) : pM := if 1 ≤ f ∧ f ≤ 5 then pI (pI u 2 15 f) 21 f.toNatClampNeg (mI (pI u 2 15 f) 21 f.toNatClampNeg + 1) else u
def isI (set i : Int32) : Prop := 0 ≤ i ∧ i < 31 ∧ (set >>> (i &&& 31)) &&& 1 = 1
def bc1 (x : Int32) : Int32 := x - ((x.toUInt32 >>> ((1 : Int32).toUInt32 &&& Int32.toUInt32 31)).toInt32 &&& 1431655765)
def bc2 (x : Int32) : Int32 := (x &&& 858993459) + ((x.toUInt32 >>> ((2 : Int32).toUInt32 &&& Int32.toUInt32 31)).toInt32 &&& 858993459)
def bc3 (x : Int32) : Int32 := (x + (x.toUInt32 >>> ((4 : Int32).toUInt32 &&& Int32.toUInt32 31)).toInt32) &&& 252645135
def bc4 (x : Int32) : Int32 := x + (x.toUInt32 >>> ((8 : Int32).toUInt32 &&& Int32.toUInt32 31)).toInt32
def bc5 (x : Int32) : Int32 := x + (x.toUInt32 >>> ((16 : Int32).toUInt32 &&& Int32.toUInt32 31)).toInt32
def bcV (x : Int32) : Int32 := bc5 (bc4 (bc3 (bc2 (bc1 x)))) &&& 63
def shO (u : pM) (o : Nat) (s : Int32) : Nat := if 0 ≤ s ∧ s < mI u o 1 ∧ s < 7 then R0 (o + 1) s.toNatClampNeg else o + 2
def wkV (n d e : Int32) : Int32 := if n - wrV n (e - d).toInt64 < wrV n (e - d).toInt64 then n - wrV n (e - d).toInt64 else wrV n (e - d).toInt64
def roV (r : Int32) : Nat := if 0 ≤ r ∧ r < 6 then R0 3 r.toNatClampNeg else 5
def txV (r : Int32) : Nat := if 0 ≤ r ∧ r < 4 then R0 4 r.toNatClampNeg else 5
def kpV (r : Int32) : Nat := if 0 ≤ r ∧ r < 3 then R0 9 r.toNatClampNeg else 10
/-! rules for closing -/
theorem rB1 {P : Prop} {u w : pM} : (RI fun x u' => u = u' ∧ (x = 1 ∧ P ∨ x = 0 ∧ ¬ P)) (some (.int 1)) w ↔ u = w ∧ P := by simp [RI]
theorem rB0 {P : Prop} {u w : pM} : (RI fun x u' => u = u' ∧ (x = 1 ∧ P ∨ x = 0 ∧ ¬ P)) (some (.int 0)) w ↔ u = w ∧ ¬ P := by simp [RI]
theorem rVi {a b : Int32} {m w : pM} : (RI fun x u' => a = x ∧ m = u') (some (.int b)) w ↔ a = b ∧ m = w := by simp [RI]
theorem rVj {a b : Int64} {m w : pM} : (RJ fun x u' => a = x ∧ m = u') (some (.long b)) w ↔ a = b ∧ m = w := by simp [RJ]
theorem rVr {a b : Nat} {m w : pM} : (RR fun x u' => a = x ∧ m = u') (some (.ref b)) w ↔ a = b ∧ m = w := by simp [RR]
theorem rVv {m w : pM} : (RV fun u' => m = u') none w ↔ m = w := by simp [RV]
theorem vin {i : Int32} {n : Nat} (h0 : 0 ≤ i) (h1 : i < Int32.ofNat n) (hn : n < 2 ^ 31) : vp_in i n := by
  rw [vp_in_iff]
  have a := Int32.le_iff_toInt_le.mp h0
  have b := Int32.lt_iff_toInt_lt.mp h1
  have c : (Int32.ofNat n).toInt = n := nI_toInt hn
  have d : (0 : Int32).toInt = 0 := by decide
  omega
theorem shO_ok {u : pM} {o : Nat} {s : Int32} (h : okS o 2) : okS (shO u o s) 4 := by
  unfold shO
  split
  · rename_i c
    exact (ra_ok (os_2_2 h) (by decide) (by rw [ol_2_2 h]; exact ix_lt (vin c.1 c.2.2 (by decide)))).2
  · exact os_2_3 h
theorem roV_ok (r : Int32) : okS (roV r) 6 := by
  unfold roV
  split
  · rename_i c; exact (ra_ok (n := 3) (kd := 102) (by decide) (by decide) (ix_lt (vin (n := 6) c.1 c.2 (by decide)))).2
  · decide
theorem txV_ok (r : Int32) : okS (txV r) 6 := by
  unfold txV
  split
  · rename_i c; exact (ra_ok (n := 4) (kd := 102) (by decide) (by decide) (ix_lt (vin (n := 4) c.1 c.2 (by decide)))).2
  · decide
theorem kpV_ok (r : Int32) : okS (kpV r) 5 := by
  unfold kpV
  split
  · rename_i c; exact (ra_ok (n := 9) (kd := 103) (by decide) (by decide) (ix_lt (vin (n := 3) c.1 c.2 (by decide)))).2
  · decide
