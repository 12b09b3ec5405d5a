section LAW
variable {G : pG} {u : pM}
abbrev LQ : Option Value → pM → Prop := RI fun a _ => a = 1
theorem vscr {x3 j : Int32} (hn : gn G ≤ 3072) (h0 : 0 ≤ x3) (h1 : ¬ (Int32.ofNat (gn G) - 6) < x3) (j0 : 0 ≤ j) (j5 : j ≤ 5) : vp_in (x3 + j) (gn G) := by
  have e : (Int32.ofNat (gn G)).toInt = gn G := nI_toInt (by omega)
  have l : Int32.ofNat (gn G) ≤ 3072 := by
    apply Int32.le_iff_toInt_le.mpr
    have : (3072 : Int32).toInt = 3072 := by decide
    omega
  have z : 0 ≤ Int32.ofNat (gn G) := by
    apply Int32.le_iff_toInt_le.mpr
    have : (0 : Int32).toInt = 0 := by decide
    omega
  exact vin (by grind) (by grind) (by omega)
theorem vscr0 {x3 : Int32} (hn : gn G ≤ 3072) (h0 : 0 ≤ x3) (h1 : ¬ (Int32.ofNat (gn G) - 6) < x3) : vp_in x3 (gn G) := by
  have := vscr (j := 0) hn h0 h1 (by decide) (by decide)
  rwa [show x3 + 0 = x3 by grind] at this
theorem lg_same (x : Int64) : lg_cmp x x = 0 := by
  unfold lg_cmp
  rw [if_neg (fun h : x > x => Int64.lt_irrefl h), if_pos rfl]
end LAW
