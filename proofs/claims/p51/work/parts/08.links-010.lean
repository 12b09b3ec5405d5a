theorem f_m_75 : FL "DoorRoundsModel" 75 8 3 := ⟨_, _, cl_8, by decide, by decide, lw_in (i := 836) (by decide +kernel) (by decide +kernel)⟩
theorem f_m_113 : FL "DoorRoundsModel" 113 8 13 := ⟨_, _, cl_8, by decide, by decide, lw_in (i := 846) (by decide +kernel) (by decide +kernel)⟩
theorem f_m_119 : FL "DoorRoundsModel" 119 8 14 := ⟨_, _, cl_8, by decide, by decide, lw_in (i := 847) (by decide +kernel) (by decide +kernel)⟩
theorem f_m_122 : FL "DoorRoundsModel" 122 8 16 := ⟨_, _, cl_8, by decide, by decide, lw_in (i := 849) (by decide +kernel) (by decide +kernel)⟩
theorem f_m_128 : FL "DoorRoundsModel" 128 8 15 := ⟨_, _, cl_8, by decide, by decide, lw_in (i := 848) (by decide +kernel) (by decide +kernel)⟩
theorem f_m_153 : FL "DoorRoundsModel" 153 8 10 := ⟨_, _, cl_8, by decide, by decide, lw_in (i := 843) (by decide +kernel) (by decide +kernel)⟩
theorem f_m_156 : FL "DoorRoundsModel" 156 8 11 := ⟨_, _, cl_8, by decide, by decide, lw_in (i := 844) (by decide +kernel) (by decide +kernel)⟩
theorem f_m_162 : FL "DoorRoundsModel" 162 8 18 := ⟨_, _, cl_8, by decide, by decide, lw_in (i := 851) (by decide +kernel) (by decide +kernel)⟩
theorem f_m_165 : FL "DoorRoundsModel" 165 8 19 := ⟨_, _, cl_8, by decide, by decide, lw_in (i := 852) (by decide +kernel) (by decide +kernel)⟩
theorem f_m_168 : FL "DoorRoundsModel" 168 8 28 := ⟨_, _, cl_8, by decide, by decide, lw_in (i := 861) (by decide +kernel) (by decide +kernel)⟩
theorem f_m_268 : FL "DoorRoundsModel" 268 8 31 := ⟨_, _, cl_8, by decide, by decide, lw_in (i := 864) (by decide +kernel) (by decide +kernel)⟩
theorem f_m_286 : FL "DoorRoundsModel" 286 8 32 := ⟨_, _, cl_8, by decide, by decide, lw_in (i := 865) (by decide +kernel) (by decide +kernel)⟩
theorem q_D_212 : Cond.constant "DoorRounds" 212 100000 ∈ lw_g := lw_in (i := 522) (by decide +kernel) (by decide +kernel)
theorem q_D_228 : Cond.constant "DoorRounds" 228 1000000000 ∈ lw_g := lw_in (i := 556) (by decide +kernel) (by decide +kernel)
theorem q_D_328 : Cond.constantLong "DoorRounds" 328 17 ∈ lw_g := lw_in (i := 815) (by decide +kernel) (by decide +kernel)
theorem q_D_330 : Cond.constantLong "DoorRounds" 330 31 ∈ lw_g := lw_in (i := 816) (by decide +kernel) (by decide +kernel)
theorem q_Di_44 : Cond.constantLong "DoorRounds$Diary" 44 31 ∈ lw_g := lw_in (i := 821) (by decide +kernel) (by decide +kernel)
theorem q_Er_18 : Cond.constantLong "DoorRounds$Errands" 18 1152921504606846976 ∈ lw_g := lw_in (i := 639) (by decide +kernel) (by decide +kernel)
theorem q_Sp_42 : Cond.constantLong "DoorRounds$Strip" 42 31 ∈ lw_g := lw_in (i := 826) (by decide +kernel) (by decide +kernel)
theorem q_m_204 : Cond.constant "DoorRoundsModel" 204 100000 ∈ lw_g := lw_in (i := 1101) (by decide +kernel) (by decide +kernel)
theorem q_m_215 : Cond.constantLong "DoorRoundsModel" 215 2 ∈ lw_g := lw_in (i := 1143) (by decide +kernel) (by decide +kernel)
theorem q_m_221 : Cond.constant "DoorRoundsModel" 221 1000000000 ∈ lw_g := lw_in (i := 1135) (by decide +kernel) (by decide +kernel)
theorem q_m_241 : Cond.constant "DoorRoundsModel" 241 16777216 ∈ lw_g := lw_in (i := 1204) (by decide +kernel) (by decide +kernel)
theorem q_m_284 : Cond.constantLong "DoorRoundsModel" 284 31 ∈ lw_g := lw_in (i := 1345) (by decide +kernel) (by decide +kernel)
theorem q_m_292 : Cond.constantLong "DoorRoundsModel" 292 17 ∈ lw_g := lw_in (i := 1340) (by decide +kernel) (by decide +kernel)
theorem q_ji_265 : Cond.constant "java/lang/Integer" 265 1431655765 ∈ lw_g := lw_in (i := 507) (by decide +kernel) (by decide +kernel)
theorem q_ji_266 : Cond.constant "java/lang/Integer" 266 858993459 ∈ lw_g := lw_in (i := 508) (by decide +kernel) (by decide +kernel)
theorem q_ji_267 : Cond.constant "java/lang/Integer" 267 252645135 ∈ lw_g := lw_in (i := 509) (by decide +kernel) (by decide +kernel)
theorem c_D_9 : Cond.classLink "DoorRounds" 9 "DoorRounds$Strip" ∈ lw_g := lw_in (i := 22) (by decide +kernel) (by decide +kernel)
theorem c_D_25 : Cond.classLink "DoorRounds" 25 "DoorRounds$Standing" ∈ lw_g := lw_in (i := 43) (by decide +kernel) (by decide +kernel)
theorem c_D_42 : Cond.classLink "DoorRounds" 42 "DoorRounds$Diary" ∈ lw_g := lw_in (i := 62) (by decide +kernel) (by decide +kernel)
theorem c_D_49 : Cond.classLink "DoorRounds" 49 "DoorRounds$Errands" ∈ lw_g := lw_in (i := 82) (by decide +kernel) (by decide +kernel)
theorem c_D_60 : Cond.classLink "DoorRounds" 60 "DoorRounds$Plan" ∈ lw_g := lw_in (i := 96) (by decide +kernel) (by decide +kernel)
theorem c_Pl_18 : Cond.classLink "DoorRounds$Plan" 18 "DoorRounds$Shop" ∈ lw_g := lw_in (i := 102) (by decide +kernel) (by decide +kernel)
theorem c_Pl_33 : Cond.classLink "DoorRounds$Plan" 33 "DoorRounds$Reader" ∈ lw_g := lw_in (i := 137) (by decide +kernel) (by decide +kernel)
theorem c_Rd_9 : Cond.classLink "DoorRounds$Reader" 9 "DoorRounds$Strip" ∈ lw_g := lw_in (i := 143) (by decide +kernel) (by decide +kernel)
theorem c_L_7 : Cond.classLink "DoorRoundsLaw" 7 "DoorRounds" ∈ lw_g := lw_in (i := 14) (by decide +kernel) (by decide +kernel)
theorem c_L_10 : Cond.classLink "DoorRoundsLaw" 10 "DoorRoundsModel" ∈ lw_g := lw_in (i := 827) (by decide +kernel) (by decide +kernel)
theorem n_0 : Cond.instantiable "DoorRounds$Diary" 4 ∈ lw_g := lw_in (i := 63) (by decide +kernel) (by decide +kernel)
theorem nf_0_0 : ∀ r ty, clOK 0 r ty → (r.2.1 0).2.2.2 = false := fun r ty h => by have e := h.1; cases e; exact rfl
