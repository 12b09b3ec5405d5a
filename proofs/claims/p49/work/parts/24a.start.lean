/-! ===== the start: what holds of its memory ===== -/
theorem okv_0 (n : Nat) : okv n 0 := ⟨fun _ => by decide, fun _ => by decide, fun _ => by decide, fun _ => by decide⟩
theorem okv_lt {n : Nat} {v : Int32} (h : n < 76) : okv n v := ⟨fun z => by omega, fun z => by omega, fun z => by omega, fun z => by omega⟩
theorem bo_N {u : pM} {sh : Nat × Nat} (h : bOK u) : bOK (pN u sh) := fun a b => by
  show okv a (if a = mX u + 2 then 0 else mI u a b)
  split
  · exact okv_0 a
  · exact h a b
theorem bo_R {u : pM} {n k v : Nat} (h : bOK u) : bOK (pR u n k v) := h
theorem bo_L {u : pM} {n k : Nat} {v : Int64} (h : bOK u) : bOK (pL u n k v) := h
theorem bo_I {u : pM} {n k : Nat} {v : Int32} (h : bOK u) (hv : okv n v) : bOK (pI u n k v) := h.wI hv
theorem bo_Sp {u : pM} {o N : Nat} (h : bOK u) (ho : o < 76) : bOK (fSp u o N) := bo_R (bo_N (bo_I h (okv_lt ho)))
theorem bo_Sn {u : pM} {o : Nat} (h : bOK u) : bOK (fSn u o) := bo_R (bo_N (bo_I (bo_I h (okv_0 o)) (okv_0 o)))
theorem bo_Di {u : pM} {o : Nat} (h : bOK u) : bOK (fDi u o) := bo_R (bo_N (bo_R (bo_N (bo_R (bo_N (bo_I h (okv_0 o)))))))
theorem bo_Er {u : pM} {o : Nat} (h : bOK u) : bOK (fEr u o) := bo_R (bo_N (bo_R (bo_N h)))
theorem bo_Sh {u : pM} {o : Nat} (h : bOK u) : bOK (fSh u o) := bo_I (bo_I (bo_I (bo_I (bo_I h (okv_0 o)) (okv_0 o)) (okv_0 o)) (okv_0 o)) (okv_0 o)
theorem bo_Rd {u : pM} {o : Nat} (h : bOK u) (ho : mX u + 2 < 76) : bOK (fRd u o) := bo_I (bo_I (bo_R (bo_Sp (bo_N h) ho)) (okv_0 o)) (okv_0 o)
theorem bz0 : bOK Z0 := fun a b => okv_0 a
theorem bz1 : bOK Z1 := bo_N bz0
theorem bz2 : bOK Z2 := bo_N bz1
theorem bz3 : bOK Z3 := bo_R bz2
theorem bz4 : bOK Z4 := bo_N bz3
theorem bz5 : bOK Z5 := bo_R bz4
theorem bz6 : bOK Z6 := bo_N bz5
theorem bz7 : bOK Z7 := bo_Sp bz6 (by decide)
theorem bz8 : bOK Z8 := bo_R bz7
theorem bz9 : bOK Z9 := bo_N bz8
theorem bz10 : bOK Z10 := bo_Sn bz9
theorem bz11 : bOK Z11 := bo_R bz10
theorem bz12 : bOK Z12 := bo_N bz11
theorem bz13 : bOK Z13 := bo_R bz12
theorem bz14 : bOK Z14 := bo_N bz13
theorem bz15 : bOK Z15 := bo_Sn bz14
theorem bz16 : bOK Z16 := bo_R bz15
theorem bz17 : bOK Z17 := bo_N bz16
theorem bz18 : bOK Z18 := bo_Sn bz17
theorem bz19 : bOK Z19 := bo_R bz18
theorem bz20 : bOK Z20 := bo_N bz19
theorem bz21 : bOK Z21 := bo_Di bz20
theorem bz22 : bOK Z22 := bo_R bz21
theorem bz23 : bOK Z23 := bo_N bz22
theorem bz24 : bOK Z24 := bo_Er bz23
theorem bz25 : bOK Z25 := bo_R bz24
theorem bz26 : bOK Z26 := bo_N bz25
theorem bz27 : bOK Z27 := bo_R bz26
theorem bz28 : bOK Z28 := bo_N bz27
theorem bz29 : bOK Z29 := bo_I bz28 ⟨by decide, by decide, by decide, by decide⟩
theorem bz30 : bOK Z30 := bo_I bz29 ⟨by decide, by decide, by decide, by decide⟩
theorem bz31 : bOK Z31 := bo_N bz30
theorem bz32 : bOK Z32 := bo_R bz31
theorem bz33 : bOK Z33 := bo_N bz32
theorem bz34 : bOK Z34 := bo_Sh bz33
theorem bz35 : bOK Z35 := bo_R bz34
theorem bz36 : bOK Z36 := bo_N bz35
theorem bz37 : bOK Z37 := bo_R bz36
theorem bz38 : bOK Z38 := bo_N bz37
theorem bz39 : bOK Z39 := bo_Rd bz38 (by decide +kernel)
theorem bz40 : bOK Z40 := bo_R bz39
theorem bz41 : bOK Z41 := bo_N bz40
theorem bz42 : bOK Z42 := bo_Sh bz41
theorem bz43 : bOK Z43 := bo_R bz42
theorem bz44 : bOK Z44 := bo_N bz43
theorem bz45 : bOK Z45 := bo_Sh bz44
theorem bz46 : bOK Z46 := bo_R bz45
theorem bz47 : bOK Z47 := bo_N bz46
theorem bz48 : bOK Z48 := bo_Sh bz47
theorem bz49 : bOK Z49 := bo_R bz48
theorem bz50 : bOK Z50 := bo_N bz49
theorem bz51 : bOK Z51 := bo_Sh bz50
theorem bz52 : bOK Z52 := bo_R bz51
theorem bz53 : bOK Z53 := bo_N bz52
theorem bz54 : bOK Z54 := bo_Sh bz53
theorem bz55 : bOK Z55 := bo_R bz54
theorem bz56 : bOK Z56 := bo_N bz55
theorem bz57 : bOK Z57 := bo_Sh bz56
theorem bz58 : bOK Z58 := bo_R bz57
theorem bz59 : bOK Z59 := bo_N bz58
theorem bz60 : bOK Z60 := bo_Sh bz59
theorem bz61 : bOK Z61 := bo_R bz60
theorem bz62 : bOK Z62 := bo_R bz61
theorem bz63 : bOK Z63 := bo_N bz62
theorem bz64 : bOK Z64 := bo_I bz63 ⟨by decide, by decide, by decide, by decide⟩
theorem bz65 : bOK Z65 := bo_I bz64 ⟨by decide, by decide, by decide, by decide⟩
theorem bz66 : bOK Z66 := bo_N bz65
theorem bz67 : bOK Z67 := bo_R bz66
theorem bz68 : bOK Z68 := bo_N bz67
theorem bz69 : bOK Z69 := bo_Sh bz68
theorem bz70 : bOK Z70 := bo_R bz69
theorem bz71 : bOK Z71 := bo_N bz70
theorem bz72 : bOK Z72 := bo_R bz71
theorem bz73 : bOK Z73 := bo_N bz72
theorem bz74 : bOK Z74 := bo_Rd bz73 (by decide +kernel)
theorem bz75 : bOK Z75 := bo_R bz74
theorem bz76 : bOK Z76 := bo_N bz75
theorem bz77 : bOK Z77 := bo_Sh bz76
theorem bz78 : bOK Z78 := bo_R bz77
theorem bz79 : bOK Z79 := bo_N bz78
theorem bz80 : bOK Z80 := bo_Sh bz79
theorem bz81 : bOK Z81 := bo_R bz80
theorem bz82 : bOK Z82 := bo_N bz81
theorem bz83 : bOK Z83 := bo_Sh bz82
theorem bz84 : bOK Z84 := bo_R bz83
theorem bz85 : bOK Z85 := bo_N bz84
theorem bz86 : bOK Z86 := bo_Sh bz85
theorem bz87 : bOK Z87 := bo_R bz86
theorem bz88 : bOK Z88 := bo_N bz87
theorem bz89 : bOK Z89 := bo_Sh bz88
theorem bz90 : bOK Z90 := bo_R bz89
theorem bz91 : bOK Z91 := bo_N bz90
theorem bz92 : bOK Z92 := bo_Sh bz91
theorem bz93 : bOK Z93 := bo_R bz92
theorem bz94 : bOK Z94 := bo_N bz93
theorem bz95 : bOK Z95 := bo_Sh bz94
theorem bz96 : bOK Z96 := bo_R bz95
theorem bz97 : bOK Z97 := bo_R bz96
theorem bz98 : bOK Z98 := bo_I bz97 ⟨by decide, by decide, by decide, by decide⟩
theorem bz99 : bOK Z99 := bo_L bz98
theorem bz100 : bOK Z100 := bo_L bz99
theorem bz101 : bOK Z101 := bo_I bz100 ⟨by decide, by decide, by decide, by decide⟩
theorem bz102 : bOK Z102 := bo_N bz101
theorem bz103 : bOK Z103 := bo_Sp bz102 (by decide)
theorem bz104 : bOK Z104 := bo_R bz103
theorem bz105 : bOK Z105 := bo_N bz104
theorem bz106 : bOK Z106 := bo_Sp bz105 (by decide)
theorem bz107 : bOK Z107 := bo_R bz106
theorem bz108 : bOK Z108 := bo_N bz107
theorem bz109 : bOK Z109 := bo_Sp bz108 (by decide)
theorem bz110 : bOK Z110 := bo_R bz109
theorem bz111 : bOK Z111 := bo_N bz110
theorem bz112 : bOK Z112 := bo_Sp bz111 (by decide)
theorem bz113 : bOK Z113 := bo_R bz112
theorem bz114 : bOK Z114 := bo_N bz113
theorem bz115 : bOK Z115 := bo_Sp bz114 (by decide)
theorem bz116 : bOK Z116 := bo_R bz115
theorem bz117 : bOK Z117 := bo_N bz116
theorem bz118 : bOK Z118 := bo_Sp bz117 (by decide)
theorem bz119 : bOK Z119 := bo_R bz118
theorem bz120 : bOK Z120 := bo_N bz119
theorem bz121 : bOK Z121 := bo_Sp bz120 (by decide)
theorem bz122 : bOK Z122 := bo_R bz121
theorem bz123 : bOK Z123 := bo_N bz122
theorem bz124 : bOK Z124 := bo_Sp bz123 (by decide)
theorem bz125 : bOK Z125 := bo_R bz124
theorem bz126 : bOK Z126 := bo_N bz125
theorem bz127 : bOK Z127 := bo_Sp bz126 (by decide)
theorem bz128 : bOK Z128 := bo_R bz127
theorem bz129 : bOK Z129 := bo_N bz128
theorem bz130 : bOK Z130 := bo_Sp bz129 (by decide)
theorem bz131 : bOK Z131 := bo_R bz130
theorem bz132 : bOK Z132 := bo_N bz131
theorem bz133 : bOK Z133 := bo_Sn bz132
theorem bz134 : bOK Z134 := bo_R bz133
theorem bz135 : bOK Z135 := bo_I bz134 ⟨by decide, by decide, by decide, by decide⟩
theorem bz136 : bOK Z136 := bo_N bz135
theorem bz137 : bOK Z137 := bo_Sn bz136
theorem bz138 : bOK Z138 := bo_R bz137
theorem bz139 : bOK Z139 := bo_I bz138 ⟨by decide, by decide, by decide, by decide⟩
theorem bz140 : bOK Z140 := bo_N bz139
theorem bz141 : bOK Z141 := bo_Sn bz140
theorem bz142 : bOK Z142 := bo_R bz141
theorem bz143 : bOK Z143 := bo_I bz142 ⟨by decide, by decide, by decide, by decide⟩
theorem bz144 : bOK Z144 := bo_N bz143
theorem bz145 : bOK Z145 := bo_N bz144
theorem bz146 : bOK Z146 := bo_R bz145
theorem bz147 : bOK Z147 := bo_L bz146
theorem bz148 : bOK Z148 := bo_N bz147
theorem bz149 : bOK Z149 := bo_R bz148
theorem bz150 : bOK Z150 := bo_N bz149
theorem bz151 : bOK Z151 := bo_R bz150
theorem bz152 : bOK Z152 := bo_N bz151
theorem bz153 : bOK Z153 := bo_R bz152
theorem bz154 : bOK Z154 := bo_N bz153
theorem bz155 : bOK Z155 := bo_R bz154
theorem bz156 : bOK Z156 := bo_N bz155
theorem bz157 : bOK Z157 := bo_R bz156
theorem bz158 : bOK Z158 := bo_N bz157
theorem bz159 : bOK Z159 := bo_R bz158
theorem bz160 : bOK Z160 := bo_N bz159
theorem bz161 : bOK Z161 := bo_R bz160
theorem bz162 : bOK Z162 := bo_N bz161
theorem bz163 : bOK Z163 := bo_R bz162
theorem bz164 : bOK Z164 := bo_N bz163
theorem bz165 : bOK Z165 := bo_R bz164
theorem bz166 : bOK Z166 := bo_N bz165
theorem bz167 : bOK Z167 := bo_R bz166
theorem bz168 : bOK Z168 := bo_N bz167
theorem bz169 : bOK Z169 := bo_R bz168
theorem bz170 : bOK Z170 := bo_N bz169
theorem bz171 : bOK Z171 := bo_R bz170
theorem bz172 : bOK Z172 := bo_N bz171
theorem bz173 : bOK Z173 := bo_R bz172
theorem bz174 : bOK Z174 := bo_N bz173
theorem bz175 : bOK Z175 := bo_R bz174
theorem bz176 : bOK Z176 := bo_N bz175
theorem bz177 : bOK Z177 := bo_R bz176
theorem bz178 : bOK Z178 := bo_N bz177
theorem bz179 : bOK Z179 := bo_R bz178
theorem bz180 : bOK Z180 := bo_N bz179
theorem bz181 : bOK Z181 := bo_R bz180
theorem bz182 : bOK Z182 := bo_I bz181 ⟨by decide, by decide, by decide, by decide⟩
theorem bz183 : bOK Z183 := bo_I bz182 ⟨by decide, by decide, by decide, by decide⟩
theorem bz184 : bOK Z184 := bo_I bz183 ⟨by decide, by decide, by decide, by decide⟩
theorem bz185 : bOK Z185 := bo_I bz184 ⟨by decide, by decide, by decide, by decide⟩
theorem bz186 : bOK Z186 := bo_I bz185 ⟨by decide, by decide, by decide, by decide⟩
theorem bz187 : bOK Z187 := bo_I bz186 ⟨by decide, by decide, by decide, by decide⟩
theorem bz188 : bOK Z188 := bo_I bz187 ⟨by decide, by decide, by decide, by decide⟩
theorem bz189 : bOK Z189 := bo_I bz188 ⟨by decide, by decide, by decide, by decide⟩
theorem bz190 : bOK Z190 := bo_I bz189 ⟨by decide, by decide, by decide, by decide⟩
theorem bz191 : bOK Z191 := bo_I bz190 ⟨by decide, by decide, by decide, by decide⟩
theorem bz192 : bOK Z192 := bo_I bz191 ⟨by decide, by decide, by decide, by decide⟩
theorem bz193 : bOK Z193 := bo_I bz192 ⟨by decide, by decide, by decide, by decide⟩
theorem bz194 : bOK Z194 := bo_I bz193 ⟨by decide, by decide, by decide, by decide⟩
theorem R0_b {n k : Nat} (h : R0 n k ≠ 0) : n < 95 ∧ k < 40 := by
  have l1 : R0t.length = 95 := by decide +kernel
  have l2 : ∀ n, n < 95 → (R0t.getD n []).length ≤ 40 := by decide +kernel
  have a : n < 95 := by
    apply Nat.not_le.mp
    intro q
    apply h
    unfold R0
    rw [List.getD_eq_getElem?_getD (l := R0t), List.getElem?_eq_none (by omega)]
    rfl
  refine ⟨a, ?_⟩
  apply Nat.not_le.mp
  intro q
  apply h
  have := l2 n a
  unfold R0
  rw [List.getD_eq_getElem?_getD, List.getElem?_eq_none (by omega)]
  rfl
theorem st_Str : Str Z194 := ⟨by decide +kernel, fun n h1 h2 => (show ∀ n, n < 95 → 2 ≤ n → mS Z194 n = S0 n from by decide +kernel) n h2 h1, fun n k h => (show ∀ n, n < 95 → ∀ k, k < 40 → R0 n k ≠ 0 → mR Z194 n k = R0 n k from by decide +kernel) n (R0_b h).1 k (R0_b h).2 h, by decide +kernel, by decide +kernel, by decide +kernel, by decide +kernel⟩
theorem st_C : InvC Z194 := ⟨fun o ho => (show ∀ o, o < 95 → (S0 o).1 = 6 → mI Z194 o 1 ≤ Int32.ofNat (S0 (o + 1)).2 from by decide +kernel) o ho.2.1 ho.2.2, fun o ho => (show ∀ o, o < 95 → (S0 o).1 = 2 → mI Z194 o 0 ≤ 30 from by decide +kernel) o ho.2.1 ho.2.2⟩
theorem st_M : InvM Z194 := by
  have e10 : mI Z194 76 10 = 0 := by decide +kernel
  have e11 : mI Z194 76 11 = 0 := by decide +kernel
  refine ⟨bz194, .inl ⟨e10, e11⟩, fun s h0 h1 => ?_, by rw [e10]; decide +kernel, fun k k0 k2 => ?_, by decide +kernel, by decide +kernel⟩
  · rw [e11] at h1; exact absurd h0 (Int32.not_le.mpr h1)
  · have t := (show ∀ i, i < 3 → mI Z194 87 (10 * Int32.ofNat i : Int32).toNatClampNeg = -9 ∧ ∀ j, j < 7 → mI Z194 87 (10 * Int32.ofNat i + 2 + Int32.ofNat j : Int32).toNatClampNeg = 0 from by decide +kernel) k.toNatClampNeg (by
      have b := Int32.le_iff_toInt_le.mp k2
      have e : k.toNatClampNeg = k.toInt.toNat := rfl
      have d : (2 : Int32).toInt = 2 := by decide
      omega)
    rw [i32_nat k0] at t
    refine ⟨fun q => absurd t.1 q, fun s s0 s7 => ?_⟩
    have r := t.2 s.toNatClampNeg (by
      have b := Int32.lt_iff_toInt_lt.mp s7
      have e : s.toNatClampNeg = s.toInt.toNat := rfl
      have d : (7 : Int32).toInt = 7 := by decide
      omega)
    rw [i32_nat s0] at r
    rw [r]
    decide
theorem st_n : nN Z194 = 0 := by decide +kernel
theorem st_X0 : RX0 Z194 := by
  have z := st_n
  refine ⟨fun t ht => .inl ((show ∀ t, t < 4 → mI Z194 (62 + 2 * t) 1 < 0 ∧ mI Z194 81 t < 0 from by decide +kernel) t ht), ⟨by decide +kernel, ⟨by decide +kernel, by decide +kernel⟩, by decide +kernel, by decide +kernel⟩, fun r hr => ⟨.inl ((show ∀ r, r < 6 → mI Z194 (50 + 2 * r) 1 < 0 ∧ mI Z194 78 r < 0 from by decide +kernel) r hr), (show ∀ r, r < 6 → ∀ k, k < 40 → mI Z194 (51 + 2 * r) k = mI Z194 79 (40 * r + k) from by decide +kernel) r hr⟩, ⟨fun s hs => by rw [z] at hs; omega, fun s hs => by rw [z] at hs; omega, fun i hi => by rw [z] at hi; omega, fun i hi => by rw [z] at hi; omega, fun i j _ hj => by rw [z] at hj; omega, fun q hq => by rw [z] at hq; omega⟩, ⟨by decide +kernel, by decide +kernel, fun s hs => by rw [z] at hs; omega, ⟨by decide +kernel, by decide +kernel⟩, fun i _ _ => by rw [show mI Z194 76 19 = 0 by decide +kernel]; exact tb_0 i, fun i hi => by rw [z] at hi; omega⟩, fun k hk => .inl ((show ∀ k, k < 3 → mI Z194 (70 + 2 * k) 0 = -1 ∧ mI Z194 87 (10 * k) = -9 from by decide +kernel) k hk), by decide +kernel, fun e he => absurd he (by rw [show (mI Z194 76 28).toNatClampNeg = 0 by decide +kernel]; omega)⟩
theorem st_X : RX Z194 := ⟨st_X0, show mL Z194 2 13 = mL Z194 76 3 from by decide +kernel, show mL Z194 2 14 = mL Z194 76 4 from by decide +kernel⟩
