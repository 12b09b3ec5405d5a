theorem ko_D_1 : Cond.methodLink "DoorRounds" 1 Lib.objectInit ∈ lw_g := lw_in (i := 19) (by decide +kernel) (by decide +kernel)
theorem k_D_18 : LK "DoorRounds" 18 Sp_init := Or.inl (lw_in (i := 25) (by decide +kernel) (by decide +kernel))
theorem k_D_27 : LK "DoorRounds" 27 Sn_init := Or.inr ⟨"DoorRounds", by decide +kernel⟩
theorem k_D_44 : LK "DoorRounds" 44 Di_init := Or.inr ⟨"DoorRounds", by decide +kernel⟩
theorem k_D_51 : LK "DoorRounds" 51 Er_init := Or.inr ⟨"DoorRounds", by decide +kernel⟩
theorem k_D_62 : LK "DoorRounds" 62 Pl_init := Or.inl (lw_in (i := 98) (by decide +kernel) (by decide +kernel))
theorem k_D_87 : LK "DoorRounds" 87 D_isRow := Or.inl (lw_in (i := 234) (by decide +kernel) (by decide +kernel))
theorem k_D_91 : LK "DoorRounds" 91 D_found := Or.inl (lw_in (i := 237) (by decide +kernel) (by decide +kernel))
theorem k_D_95 : LK "DoorRounds" 95 D_rowOf := Or.inl (lw_in (i := 241) (by decide +kernel) (by decide +kernel))
theorem k_D_99 : LK "DoorRounds" 99 Sp_renew := Or.inl (lw_in (i := 245) (by decide +kernel) (by decide +kernel))
theorem k_D_103 : LK "DoorRounds" 103 D_placeFinding := Or.inl (lw_in (i := 259) (by decide +kernel) (by decide +kernel))
theorem k_D_107 : LK "DoorRounds" 107 Sp_get := Or.inl (lw_in (i := 270) (by decide +kernel) (by decide +kernel))
theorem k_D_110 : LK "DoorRounds" 110 Sp_set := Or.inl (lw_in (i := 275) (by decide +kernel) (by decide +kernel))
theorem k_D_113 : LK "DoorRounds" 113 D_tell := Or.inl (lw_in (i := 279) (by decide +kernel) (by decide +kernel))
theorem k_D_117 : LK "DoorRounds" 117 Sp_isThere := Or.inl (lw_in (i := 262) (by decide +kernel) (by decide +kernel))
theorem k_D_124 : LK "DoorRounds" 124 Sp_holds := Or.inl (lw_in (i := 295) (by decide +kernel) (by decide +kernel))
theorem kc_D_131 : Cond.methodLink "DoorRounds" 131 arraycopyName ∈ lw_g := lw_in (i := 299) (by decide +kernel) (by decide +kernel)
theorem k_D_137 : LK "DoorRounds" 137 Sp_sum := Or.inl (lw_in (i := 306) (by decide +kernel) (by decide +kernel))
theorem k_D_141 : LK "DoorRounds" 141 D_isText := Or.inl (lw_in (i := 315) (by decide +kernel) (by decide +kernel))
theorem k_D_144 : LK "DoorRounds" 144 D_textOf := Or.inl (lw_in (i := 318) (by decide +kernel) (by decide +kernel))
theorem k_D_147 : LK "DoorRounds" 147 Pl_read := Or.inl (lw_in (i := 330) (by decide +kernel) (by decide +kernel))
theorem k_D_151 : LK "DoorRounds" 151 Pl_rank := Or.inl (lw_in (i := 391) (by decide +kernel) (by decide +kernel))
theorem k_D_154 : LK "DoorRounds" 154 Sn_begin := Or.inl (lw_in (i := 399) (by decide +kernel) (by decide +kernel))
theorem k_D_159 : LK "DoorRounds" 159 D_keptOf := Or.inl (lw_in (i := 408) (by decide +kernel) (by decide +kernel))
theorem k_D_164 : LK "DoorRounds" 164 Pl_hasShop := Or.inl (lw_in (i := 419) (by decide +kernel) (by decide +kernel))
theorem k_D_167 : LK "DoorRounds" 167 D_trait := Or.inl (lw_in (i := 420) (by decide +kernel) (by decide +kernel))
theorem k_D_170 : LK "DoorRounds" 170 Pl_shopOf := Or.inl (lw_in (i := 424) (by decide +kernel) (by decide +kernel))
theorem k_D_174 : LK "DoorRounds" 174 Sh_isOf := Or.inl (lw_in (i := 433) (by decide +kernel) (by decide +kernel))
theorem k_D_179 : LK "DoorRounds" 179 D_neighbours := Or.inl (lw_in (i := 437) (by decide +kernel) (by decide +kernel))
theorem k_D_182 : LK "DoorRounds" 182 D_rivals := Or.inl (lw_in (i := 453) (by decide +kernel) (by decide +kernel))
theorem k_D_185 : LK "DoorRounds" 185 Sh_weeksToSleep := Or.inl (lw_in (i := 470) (by decide +kernel) (by decide +kernel))
theorem k_D_188 : LK "DoorRounds" 188 Sh_weeksToTurn := Or.inl (lw_in (i := 474) (by decide +kernel) (by decide +kernel))
theorem k_D_194 : LK "DoorRounds" 194 Sh_way := Or.inl (lw_in (i := 478) (by decide +kernel) (by decide +kernel))
theorem k_D_198 : LK "DoorRounds" 198 Pl_hasDoor := Or.inl (lw_in (i := 489) (by decide +kernel) (by decide +kernel))
theorem k_D_201 : LK "DoorRounds" 201 Sn_isShut := Or.inl (lw_in (i := 493) (by decide +kernel) (by decide +kernel))
theorem k_D_204 : LK "DoorRounds" 204 Sn_shutCount := Or.inl (lw_in (i := 500) (by decide +kernel) (by decide +kernel))
theorem k_D_211 : LK "DoorRounds" 211 Pl_isThere := Or.inl (lw_in (i := 518) (by decide +kernel) (by decide +kernel))
theorem k_D_213 : LK "DoorRounds" 213 Sn_pass := Or.inl (lw_in (i := 523) (by decide +kernel) (by decide +kernel))
theorem k_D_217 : LK "DoorRounds" 217 Sn_doorOf := Or.inl (lw_in (i := 425) (by decide +kernel) (by decide +kernel))
theorem k_D_220 : LK "DoorRounds" 220 Sn_become := Or.inl (lw_in (i := 543) (by decide +kernel) (by decide +kernel))
theorem k_D_224 : LK "DoorRounds" 224 Sn_wanted := Or.inl (lw_in (i := 457) (by decide +kernel) (by decide +kernel))
theorem k_D_229 : LK "DoorRounds" 229 Pl_wrapped := Or.inl (lw_in (i := 557) (by decide +kernel) (by decide +kernel))
theorem k_D_233 : LK "DoorRounds" 233 Sn_differing := Or.inl (lw_in (i := 562) (by decide +kernel) (by decide +kernel))
theorem k_D_237 : LK "DoorRounds" 237 D_isKeptPlace := Or.inl (lw_in (i := 412) (by decide +kernel) (by decide +kernel))
theorem k_D_240 : LK "DoorRounds" 240 D_areTwo := Or.inl (lw_in (i := 578) (by decide +kernel) (by decide +kernel))
theorem k_D_243 : LK "DoorRounds" 243 Pl_walking := Or.inl (lw_in (i := 441) (by decide +kernel) (by decide +kernel))
theorem k_D_249 : LK "DoorRounds" 249 Pl_commonWith := Or.inl (lw_in (i := 590) (by decide +kernel) (by decide +kernel))
theorem k_D_255 : LK "DoorRounds" 255 Pl_canMeet := Or.inl (lw_in (i := 604) (by decide +kernel) (by decide +kernel))
theorem k_D_258 : LK "DoorRounds" 258 Pl_hasSet := Or.inl (lw_in (i := 617) (by decide +kernel) (by decide +kernel))
theorem k_D_261 : LK "DoorRounds" 261 Sn_roundOf := Or.inl (lw_in (i := 621) (by decide +kernel) (by decide +kernel))
theorem k_D_265 : LK "DoorRounds" 265 Er_begin := Or.inl (lw_in (i := 635) (by decide +kernel) (by decide +kernel))
theorem k_D_267 : LK "DoorRounds" 267 Er_look := Or.inl (lw_in (i := 643) (by decide +kernel) (by decide +kernel))
theorem k_D_271 : LK "DoorRounds" 271 Er_share := Or.inl (lw_in (i := 658) (by decide +kernel) (by decide +kernel))
theorem k_D_274 : LK "DoorRounds" 274 ji_bitCount := Or.inl (lw_in (i := 666) (by decide +kernel) (by decide +kernel))
theorem k_D_279 : LK "DoorRounds" 279 D_isIn := Or.inl (lw_in (i := 667) (by decide +kernel) (by decide +kernel))
theorem k_D_282 : LK "DoorRounds" 282 Er_weekFor := Or.inl (lw_in (i := 668) (by decide +kernel) (by decide +kernel))
theorem k_D_285 : LK "DoorRounds" 285 Er_walkingFor := Or.inl (lw_in (i := 672) (by decide +kernel) (by decide +kernel))
theorem k_D_288 : LK "DoorRounds" 288 D_metBy := Or.inl (lw_in (i := 684) (by decide +kernel) (by decide +kernel))
theorem k_D_291 : LK "DoorRounds" 291 D_pairCode := Or.inl (lw_in (i := 692) (by decide +kernel) (by decide +kernel))
theorem k_D_294 : LK "DoorRounds" 294 Di_write := Or.inl (lw_in (i := 703) (by decide +kernel) (by decide +kernel))
theorem k_D_301 : LK "DoorRounds" 301 Di_fits := Or.inl (lw_in (i := 715) (by decide +kernel) (by decide +kernel))
theorem k_D_305 : LK "DoorRounds" 305 D_isLook := Or.inl (lw_in (i := 730) (by decide +kernel) (by decide +kernel))
theorem k_D_308 : LK "DoorRounds" 308 D_passersFinding := Or.inl (lw_in (i := 733) (by decide +kernel) (by decide +kernel))
theorem k_D_311 : LK "DoorRounds" 311 D_rentOf := Or.inl (lw_in (i := 737) (by decide +kernel) (by decide +kernel))
theorem k_D_315 : LK "DoorRounds" 315 D_tellFraction := Or.inl (lw_in (i := 745) (by decide +kernel) (by decide +kernel))
theorem k_D_319 : LK "DoorRounds" 319 D_imageFinding := Or.inl (lw_in (i := 766) (by decide +kernel) (by decide +kernel))
theorem k_D_322 : LK "DoorRounds" 322 Sn_setDoor := Or.inl (lw_in (i := 774) (by decide +kernel) (by decide +kernel))
theorem k_D_325 : LK "DoorRounds" 325 D_countOf := Or.inl (lw_in (i := 791) (by decide +kernel) (by decide +kernel))
theorem k_D_332 : LK "DoorRounds" 332 Di_mixedInto := Or.inl (lw_in (i := 817) (by decide +kernel) (by decide +kernel))
theorem k_D_336 : LK "DoorRounds" 336 Sp_mixedInto := Or.inl (lw_in (i := 822) (by decide +kernel) (by decide +kernel))
theorem k_D_337 : LK "DoorRounds" 337 D_greatestCommon := Or.inl (lw_in (i := 749) (by decide +kernel) (by decide +kernel))
theorem k_D_341 : LK "DoorRounds" 341 Sp_has := Or.inl (lw_in (i := 266) (by decide +kernel) (by decide +kernel))
theorem k_D_344 : LK "DoorRounds" 344 Pl_hasDoorSet := Or.inl (lw_in (i := 770) (by decide +kernel) (by decide +kernel))
theorem k_D_353 : LK "DoorRounds" 353 Pl_sleepers := Or.inl (lw_in (i := 795) (by decide +kernel) (by decide +kernel))
theorem k_D_356 : LK "DoorRounds" 356 D_countThere := Or.inl (lw_in (i := 800) (by decide +kernel) (by decide +kernel))
theorem km_D_360 : Cond.methodLink "DoorRounds" 360 Lib.MathLoose.abs_long.x ∈ lw_g := lw_in (i := 597) (by decide +kernel) (by decide +kernel)
theorem ko_Di_3 : Cond.methodLink "DoorRounds$Diary" 3 Lib.objectInit ∈ lw_g := lw_in (i := 67) (by decide +kernel) (by decide +kernel)
theorem k_Di_25 : LK "DoorRounds$Diary" 25 Pl_shopOf := Or.inl (lw_in (i := 719) (by decide +kernel) (by decide +kernel))
theorem k_Di_36 : LK "DoorRounds$Diary" 36 Sh_wayOf := Or.inl (lw_in (i := 720) (by decide +kernel) (by decide +kernel))
theorem k_Di_40 : LK "DoorRounds$Diary" 40 Pl_wrapped := Or.inl (lw_in (i := 721) (by decide +kernel) (by decide +kernel))
theorem ko_Er_5 : Cond.methodLink "DoorRounds$Errands" 5 Lib.objectInit ∈ lw_g := lw_in (i := 87) (by decide +kernel) (by decide +kernel)
theorem k_Er_20 : LK "DoorRounds$Errands" 20 ja_fillJ := Or.inl (lw_in (i := 640) (by decide +kernel) (by decide +kernel))
theorem k_Er_26 : LK "DoorRounds$Errands" 26 Sn_roundOf := Or.inl (lw_in (i := 647) (by decide +kernel) (by decide +kernel))
theorem k_Er_32 : LK "DoorRounds$Errands" 32 Er_weeksCode := Or.inl (lw_in (i := 648) (by decide +kernel) (by decide +kernel))
theorem km_Er_36 : Cond.methodLink "DoorRounds$Errands" 36 Lib.MathLoose.min_long.x ∈ lw_g := lw_in (i := 655) (by decide +kernel) (by decide +kernel)
theorem k_Er_42 : LK "DoorRounds$Errands" 42 D_isIn := Or.inr ⟨"DoorRounds", by decide +kernel⟩
theorem k_Er_46 : LK "DoorRounds$Errands" 46 Er_shiftOf := Or.inl (lw_in (i := 652) (by decide +kernel) (by decide +kernel))
theorem k_Er_50 : LK "DoorRounds$Errands" 50 Er_leastOf := Or.inl (lw_in (i := 662) (by decide +kernel) (by decide +kernel))
theorem ko_Pl_3 : Cond.methodLink "DoorRounds$Plan" 3 Lib.objectInit ∈ lw_g := lw_in (i := 101) (by decide +kernel) (by decide +kernel)
theorem k_Pl_24 : LK "DoorRounds$Plan" 24 Sh_init := Or.inr ⟨"DoorRounds", by decide +kernel⟩
theorem k_Pl_35 : LK "DoorRounds$Plan" 35 Rd_init := Or.inr ⟨"DoorRounds", by decide +kernel⟩
theorem k_Pl_40 : LK "DoorRounds$Plan" 40 Pl_hasShop := Or.inl (lw_in (i := 378) (by decide +kernel) (by decide +kernel))
theorem k_Pl_44 : LK "DoorRounds$Plan" 44 Pl_shopOf := Or.inl (lw_in (i := 374) (by decide +kernel) (by decide +kernel))
theorem k_Pl_48 : LK "DoorRounds$Plan" 48 Sh_isOf := Or.inl (lw_in (i := 799) (by decide +kernel) (by decide +kernel))
theorem km_Pl_51 : Cond.methodLink "DoorRounds$Plan" 51 fm_x ∈ lw_g := lw_in (i := 449) (by decide +kernel) (by decide +kernel)
theorem k_Pl_57 : LK "DoorRounds$Plan" 57 Pl_wrapped := Or.inl (lw_in (i := 445) (by decide +kernel) (by decide +kernel))
theorem km_Pl_61 : Cond.methodLink "DoorRounds$Plan" 61 Lib.Math.min.name ∈ lw_g := lw_in (i := 452) (by decide +kernel) (by decide +kernel)
theorem k_Pl_65 : LK "DoorRounds$Plan" 65 D_greatestCommon := Or.inr ⟨"DoorRounds", by decide +kernel⟩
theorem k_Pl_68 : LK "DoorRounds$Plan" 68 Pl_commonWith := Or.inl (lw_in (i := 608) (by decide +kernel) (by decide +kernel))
theorem k_Pl_75 : LK "DoorRounds$Plan" 75 Rd_begin := Or.inl (lw_in (i := 334) (by decide +kernel) (by decide +kernel))
theorem k_Pl_79 : LK "DoorRounds$Plan" 79 Rd_skipBlanks := Or.inl (lw_in (i := 338) (by decide +kernel) (by decide +kernel))
theorem k_Pl_82 : LK "DoorRounds$Plan" 82 Rd_passes := Or.inl (lw_in (i := 343) (by decide +kernel) (by decide +kernel))
theorem k_Pl_85 : LK "DoorRounds$Plan" 85 Rd_readNumber := Or.inl (lw_in (i := 351) (by decide +kernel) (by decide +kernel))
theorem k_Pl_95 : LK "DoorRounds$Plan" 95 Rd_isAtEnd := Or.inl (lw_in (i := 358) (by decide +kernel) (by decide +kernel))
theorem k_Pl_99 : LK "DoorRounds$Plan" 99 Pl_readShop := Or.inl (lw_in (i := 359) (by decide +kernel) (by decide +kernel))
theorem k_Pl_103 : LK "DoorRounds$Plan" 103 Rd_readKind := Or.inl (lw_in (i := 363) (by decide +kernel) (by decide +kernel))
theorem k_Pl_109 : LK "DoorRounds$Plan" 109 Pl_isFirstDoor := Or.inl (lw_in (i := 370) (by decide +kernel) (by decide +kernel))
theorem k_Pl_112 : LK "DoorRounds$Plan" 112 Rd_readStep := Or.inl (lw_in (i := 382) (by decide +kernel) (by decide +kernel))
theorem k_Pl_124 : LK "DoorRounds$Plan" 124 Pl_isAhead := Or.inl (lw_in (i := 395) (by decide +kernel) (by decide +kernel))
theorem ko_Rd_3 : Cond.methodLink "DoorRounds$Reader" 3 Lib.objectInit ∈ lw_g := lw_in (i := 142) (by decide +kernel) (by decide +kernel)
theorem k_Rd_11 : LK "DoorRounds$Reader" 11 Sp_init := Or.inl (lw_in (i := 144) (by decide +kernel) (by decide +kernel))
theorem k_Rd_30 : LK "DoorRounds$Reader" 30 Sp_get := Or.inl (lw_in (i := 342) (by decide +kernel) (by decide +kernel))
theorem k_Rd_34 : LK "DoorRounds$Reader" 34 Rd_isAtEnd := Or.inl (lw_in (i := 347) (by decide +kernel) (by decide +kernel))
theorem k_Rd_38 : LK "DoorRounds$Reader" 38 Rd_isFigure := Or.inl (lw_in (i := 355) (by decide +kernel) (by decide +kernel))
theorem k_Rd_46 : LK "DoorRounds$Reader" 46 Rd_passes := Or.inl (lw_in (i := 369) (by decide +kernel) (by decide +kernel))
theorem k_Rd_49 : LK "DoorRounds$Reader" 49 Rd_readNumber := Or.inl (lw_in (i := 386) (by decide +kernel) (by decide +kernel))
theorem ko_Sh_3 : Cond.methodLink "DoorRounds$Shop" 3 Lib.objectInit ∈ lw_g := lw_in (i := 108) (by decide +kernel) (by decide +kernel)
theorem k_Sh_27 : LK "DoorRounds$Shop" 27 Sh_going := Or.inl (lw_in (i := 466) (by decide +kernel) (by decide +kernel))
theorem k_Sh_31 : LK "DoorRounds$Shop" 31 Sh_wayOf := Or.inl (lw_in (i := 482) (by decide +kernel) (by decide +kernel))
theorem ko_Sn_3 : Cond.methodLink "DoorRounds$Standing" 3 Lib.objectInit ∈ lw_g := lw_in (i := 48) (by decide +kernel) (by decide +kernel)
theorem k_Sn_27 : LK "DoorRounds$Standing" 27 Pl_shopOf := Or.inl (lw_in (i := 403) (by decide +kernel) (by decide +kernel))
theorem k_Sn_36 : LK "DoorRounds$Standing" 36 Sn_setDoor := Or.inl (lw_in (i := 404) (by decide +kernel) (by decide +kernel))
theorem kc_Sn_40 : Cond.methodLink "DoorRounds$Standing" 40 arraycopyName ∈ lw_g := lw_in (i := 547) (by decide +kernel) (by decide +kernel)
theorem k_Sn_46 : LK "DoorRounds$Standing" 46 D_isIn := Or.inr ⟨"DoorRounds", by decide +kernel⟩
theorem k_Sn_50 : LK "DoorRounds$Standing" 50 ji_bitCount := Or.inl (lw_in (i := 504) (by decide +kernel) (by decide +kernel))
theorem k_Sn_56 : LK "DoorRounds$Standing" 56 Sn_doorOf := Or.inl (lw_in (i := 461) (by decide +kernel) (by decide +kernel))
theorem k_Sn_59 : LK "DoorRounds$Standing" 59 Sh_goingIn := Or.inl (lw_in (i := 462) (by decide +kernel) (by decide +kernel))
theorem k_Sn_62 : LK "DoorRounds$Standing" 62 Pl_wrapped := Or.inl (lw_in (i := 469) (by decide +kernel) (by decide +kernel))
theorem k_Sn_66 : LK "DoorRounds$Standing" 66 Sn_passOne := Or.inl (lw_in (i := 527) (by decide +kernel) (by decide +kernel))
theorem km_Sn_75 : Cond.methodLink "DoorRounds$Standing" 75 Lib.Math.max.name ∈ lw_g := lw_in (i := 625) (by decide +kernel) (by decide +kernel)
theorem km_Sn_81 : Cond.methodLink "DoorRounds$Standing" 81 Lib.Math.min.name ∈ lw_g := lw_in (i := 626) (by decide +kernel) (by decide +kernel)
theorem ko_Sp_3 : Cond.methodLink "DoorRounds$Strip" 3 Lib.objectInit ∈ lw_g := lw_in (i := 28) (by decide +kernel) (by decide +kernel)
theorem km_Sp_15 : Cond.methodLink "DoorRounds$Strip" 15 Lib.Math.max.name ∈ lw_g := lw_in (i := 29) (by decide +kernel) (by decide +kernel)
theorem k_Sp_25 : LK "DoorRounds$Strip" 25 Sp_has := Or.inl (lw_in (i := 274) (by decide +kernel) (by decide +kernel))
theorem km_Sp_29 : Cond.methodLink "DoorRounds$Strip" 29 Lib.Math.min.name ∈ lw_g := lw_in (i := 249) (by decide +kernel) (by decide +kernel)
theorem k_Sp_32 : LK "DoorRounds$Strip" 32 ja_fill := Or.inl (lw_in (i := 252) (by decide +kernel) (by decide +kernel))
theorem k_Sp_38 : LK "DoorRounds$Strip" 38 Sp_get := Or.inl (lw_in (i := 310) (by decide +kernel) (by decide +kernel))
theorem k_L_9 : LK "DoorRoundsLaw" 9 D_init := Or.inl (lw_in (i := 16) (by decide +kernel) (by decide +kernel))
theorem k_L_12 : LK "DoorRoundsLaw" 12 m_init := Or.inl (lw_in (i := 829) (by decide +kernel) (by decide +kernel))
theorem k_L_13 : LK "DoorRoundsLaw" 13 D_row := Or.inl (lw_in (i := 230) (by decide +kernel) (by decide +kernel))
theorem k_L_17 : LK "DoorRoundsLaw" 17 m_row := Or.inl (lw_in (i := 933) (by decide +kernel) (by decide +kernel))
theorem k_L_18 : LK "DoorRoundsLaw" 18 D_lay := Or.inl (lw_in (i := 255) (by decide +kernel) (by decide +kernel))
theorem k_L_22 : LK "DoorRoundsLaw" 22 m_lay := Or.inl (lw_in (i := 967) (by decide +kernel) (by decide +kernel))
theorem k_L_23 : LK "DoorRoundsLaw" 23 D_at := Or.inl (lw_in (i := 283) (by decide +kernel) (by decide +kernel))
theorem k_L_26 : LK "DoorRoundsLaw" 26 m_at := Or.inl (lw_in (i := 951) (by decide +kernel) (by decide +kernel))
theorem k_L_27 : LK "DoorRoundsLaw" 27 D_tear := Or.inl (lw_in (i := 287) (by decide +kernel) (by decide +kernel))
theorem k_L_31 : LK "DoorRoundsLaw" 31 m_tear := Or.inl (lw_in (i := 972) (by decide +kernel) (by decide +kernel))
theorem k_L_32 : LK "DoorRoundsLaw" 32 D_copy := Or.inl (lw_in (i := 291) (by decide +kernel) (by decide +kernel))
theorem k_L_36 : LK "DoorRoundsLaw" 36 m_copy := Or.inl (lw_in (i := 976) (by decide +kernel) (by decide +kernel))
theorem k_L_37 : LK "DoorRoundsLaw" 37 D_mean := Or.inl (lw_in (i := 302) (by decide +kernel) (by decide +kernel))
theorem k_L_40 : LK "DoorRoundsLaw" 40 m_mean := Or.inl (lw_in (i := 980) (by decide +kernel) (by decide +kernel))
theorem k_L_41 : LK "DoorRoundsLaw" 41 D_text := Or.inl (lw_in (i := 311) (by decide +kernel) (by decide +kernel))
theorem k_L_44 : LK "DoorRoundsLaw" 44 m_text := Or.inl (lw_in (i := 984) (by decide +kernel) (by decide +kernel))
theorem k_L_45 : LK "DoorRoundsLaw" 45 D_put := Or.inl (lw_in (i := 322) (by decide +kernel) (by decide +kernel))
theorem k_L_48 : LK "DoorRoundsLaw" 48 m_put := Or.inl (lw_in (i := 991) (by decide +kernel) (by decide +kernel))
theorem k_L_49 : LK "DoorRoundsLaw" 49 D_fault := Or.inl (lw_in (i := 326) (by decide +kernel) (by decide +kernel))
theorem k_L_52 : LK "DoorRoundsLaw" 52 m_fault := Or.inl (lw_in (i := 999) (by decide +kernel) (by decide +kernel))
theorem k_L_53 : LK "DoorRoundsLaw" 53 D_square := Or.inl (lw_in (i := 387) (by decide +kernel) (by decide +kernel))
theorem k_L_56 : LK "DoorRoundsLaw" 56 m_square := Or.inl (lw_in (i := 1038) (by decide +kernel) (by decide +kernel))
theorem k_L_57 : LK "DoorRoundsLaw" 57 D_about := Or.inl (lw_in (i := 415) (by decide +kernel) (by decide +kernel))
theorem k_L_60 : LK "DoorRoundsLaw" 60 m_about := Or.inl (lw_in (i := 1046) (by decide +kernel) (by decide +kernel))
theorem k_L_61 : LK "DoorRoundsLaw" 61 D_mark := Or.inl (lw_in (i := 429) (by decide +kernel) (by decide +kernel))
theorem k_L_64 : LK "DoorRoundsLaw" 64 m_mark := Or.inl (lw_in (i := 1058) (by decide +kernel) (by decide +kernel))
theorem k_L_65 : LK "DoorRoundsLaw" 65 D_shut := Or.inl (lw_in (i := 485) (by decide +kernel) (by decide +kernel))
theorem k_L_68 : LK "DoorRoundsLaw" 68 m_shut := Or.inl (lw_in (i := 1081) (by decide +kernel) (by decide +kernel))
theorem k_L_69 : LK "DoorRoundsLaw" 69 D_open := Or.inl (lw_in (i := 510) (by decide +kernel) (by decide +kernel))
theorem k_L_72 : LK "DoorRoundsLaw" 72 m_open := Or.inl (lw_in (i := 1093) (by decide +kernel) (by decide +kernel))
theorem k_L_73 : LK "DoorRoundsLaw" 73 D_go := Or.inl (lw_in (i := 514) (by decide +kernel) (by decide +kernel))
theorem k_L_76 : LK "DoorRoundsLaw" 76 m_go := Or.inl (lw_in (i := 1097) (by decide +kernel) (by decide +kernel))
theorem k_L_77 : LK "DoorRoundsLaw" 77 D_doors := Or.inl (lw_in (i := 531) (by decide +kernel) (by decide +kernel))
theorem k_L_80 : LK "DoorRoundsLaw" 80 m_doors := Or.inl (lw_in (i := 1114) (by decide +kernel) (by decide +kernel))
theorem k_L_81 : LK "DoorRoundsLaw" 81 D_who := Or.inl (lw_in (i := 535) (by decide +kernel) (by decide +kernel))
theorem k_L_84 : LK "DoorRoundsLaw" 84 m_who := Or.inl (lw_in (i := 1119) (by decide +kernel) (by decide +kernel))
theorem k_L_85 : LK "DoorRoundsLaw" 85 D_wants := Or.inl (lw_in (i := 539) (by decide +kernel) (by decide +kernel))
theorem k_L_88 : LK "DoorRoundsLaw" 88 m_wants := Or.inl (lw_in (i := 1123) (by decide +kernel) (by decide +kernel))
theorem k_L_89 : LK "DoorRoundsLaw" 89 D_where := Or.inl (lw_in (i := 548) (by decide +kernel) (by decide +kernel))
theorem k_L_92 : LK "DoorRoundsLaw" 92 m_where := Or.inl (lw_in (i := 1127) (by decide +kernel) (by decide +kernel))
theorem k_L_93 : LK "DoorRoundsLaw" 93 D_plainly := Or.inl (lw_in (i := 552) (by decide +kernel) (by decide +kernel))
theorem k_L_96 : LK "DoorRoundsLaw" 96 m_plainly := Or.inl (lw_in (i := 1131) (by decide +kernel) (by decide +kernel))
theorem k_L_97 : LK "DoorRoundsLaw" 97 D_again := Or.inl (lw_in (i := 558) (by decide +kernel) (by decide +kernel))
theorem k_L_101 : LK "DoorRoundsLaw" 101 m_again := Or.inl (lw_in (i := 1144) (by decide +kernel) (by decide +kernel))
theorem k_L_102 : LK "DoorRoundsLaw" 102 D_keep := Or.inl (lw_in (i := 566) (by decide +kernel) (by decide +kernel))
theorem k_L_105 : LK "DoorRoundsLaw" 105 m_keep := Or.inl (lw_in (i := 1148) (by decide +kernel) (by decide +kernel))
theorem k_L_106 : LK "DoorRoundsLaw" 106 D_on := Or.inl (lw_in (i := 570) (by decide +kernel) (by decide +kernel))
theorem k_L_109 : LK "DoorRoundsLaw" 109 m_on := Or.inl (lw_in (i := 1152) (by decide +kernel) (by decide +kernel))
theorem k_L_110 : LK "DoorRoundsLaw" 110 D_beside := Or.inl (lw_in (i := 574) (by decide +kernel) (by decide +kernel))
theorem k_L_113 : LK "DoorRoundsLaw" 113 m_beside := Or.inl (lw_in (i := 1156) (by decide +kernel) (by decide +kernel))
theorem k_L_114 : LK "DoorRoundsLaw" 114 D_comes := Or.inl (lw_in (i := 582) (by decide +kernel) (by decide +kernel))
theorem k_L_117 : LK "DoorRoundsLaw" 117 m_comes := Or.inl (lw_in (i := 1160) (by decide +kernel) (by decide +kernel))
theorem k_L_118 : LK "DoorRoundsLaw" 118 D_meets := Or.inl (lw_in (i := 586) (by decide +kernel) (by decide +kernel))
theorem k_L_121 : LK "DoorRoundsLaw" 121 m_meets := Or.inl (lw_in (i := 1164) (by decide +kernel) (by decide +kernel))
theorem k_L_122 : LK "DoorRoundsLaw" 122 D_never := Or.inl (lw_in (i := 600) (by decide +kernel) (by decide +kernel))
theorem k_L_125 : LK "DoorRoundsLaw" 125 m_never := Or.inl (lw_in (i := 1176) (by decide +kernel) (by decide +kernel))
theorem k_L_126 : LK "DoorRoundsLaw" 126 D_walk := Or.inl (lw_in (i := 609) (by decide +kernel) (by decide +kernel))
theorem k_L_129 : LK "DoorRoundsLaw" 129 m_walk := Or.inl (lw_in (i := 1180) (by decide +kernel) (by decide +kernel))
theorem k_L_130 : LK "DoorRoundsLaw" 130 D_round := Or.inl (lw_in (i := 613) (by decide +kernel) (by decide +kernel))
theorem k_L_133 : LK "DoorRoundsLaw" 133 m_round := Or.inl (lw_in (i := 1188) (by decide +kernel) (by decide +kernel))
theorem k_L_134 : LK "DoorRoundsLaw" 134 D_best := Or.inl (lw_in (i := 627) (by decide +kernel) (by decide +kernel))
theorem k_L_137 : LK "DoorRoundsLaw" 137 m_best := Or.inl (lw_in (i := 1200) (by decide +kernel) (by decide +kernel))
theorem k_L_138 : LK "DoorRoundsLaw" 138 D_errands := Or.inl (lw_in (i := 631) (by decide +kernel) (by decide +kernel))
theorem k_L_142 : LK "DoorRoundsLaw" 142 m_errands := Or.inl (lw_in (i := 1205) (by decide +kernel) (by decide +kernel))
theorem k_L_143 : LK "DoorRoundsLaw" 143 D_agree := Or.inl (lw_in (i := 676) (by decide +kernel) (by decide +kernel))
theorem k_L_146 : LK "DoorRoundsLaw" 146 m_agree := Or.inl (lw_in (i := 1217) (by decide +kernel) (by decide +kernel))
theorem k_L_147 : LK "DoorRoundsLaw" 147 D_joins := Or.inl (lw_in (i := 680) (by decide +kernel) (by decide +kernel))
theorem k_L_150 : LK "DoorRoundsLaw" 150 m_joins := Or.inl (lw_in (i := 1221) (by decide +kernel) (by decide +kernel))
theorem k_L_151 : LK "DoorRoundsLaw" 151 D_quiet := Or.inl (lw_in (i := 688) (by decide +kernel) (by decide +kernel))
theorem k_L_154 : LK "DoorRoundsLaw" 154 m_quiet := Or.inl (lw_in (i := 1229) (by decide +kernel) (by decide +kernel))
theorem k_L_155 : LK "DoorRoundsLaw" 155 D_busy := Or.inl (lw_in (i := 695) (by decide +kernel) (by decide +kernel))
theorem k_L_158 : LK "DoorRoundsLaw" 158 m_busy := Or.inl (lw_in (i := 1233) (by decide +kernel) (by decide +kernel))
theorem k_L_159 : LK "DoorRoundsLaw" 159 D_note := Or.inl (lw_in (i := 699) (by decide +kernel) (by decide +kernel))
theorem k_L_162 : LK "DoorRoundsLaw" 162 m_note := Or.inl (lw_in (i := 1240) (by decide +kernel) (by decide +kernel))
theorem k_L_163 : LK "DoorRoundsLaw" 163 D_back := Or.inl (lw_in (i := 707) (by decide +kernel) (by decide +kernel))
theorem k_L_166 : LK "DoorRoundsLaw" 166 m_back := Or.inl (lw_in (i := 1244) (by decide +kernel) (by decide +kernel))
theorem k_L_167 : LK "DoorRoundsLaw" 167 D_steps := Or.inl (lw_in (i := 711) (by decide +kernel) (by decide +kernel))
theorem k_L_170 : LK "DoorRoundsLaw" 170 m_steps := Or.inl (lw_in (i := 1248) (by decide +kernel) (by decide +kernel))
theorem k_L_171 : LK "DoorRoundsLaw" 171 D_kinds := Or.inl (lw_in (i := 722) (by decide +kernel) (by decide +kernel))
theorem k_L_174 : LK "DoorRoundsLaw" 174 m_kinds := Or.inl (lw_in (i := 1256) (by decide +kernel) (by decide +kernel))
theorem k_L_175 : LK "DoorRoundsLaw" 175 D_rent := Or.inl (lw_in (i := 726) (by decide +kernel) (by decide +kernel))
theorem k_L_178 : LK "DoorRoundsLaw" 178 m_rent := Or.inl (lw_in (i := 1260) (by decide +kernel) (by decide +kernel))
theorem k_L_179 : LK "DoorRoundsLaw" 179 D_dearest := Or.inl (lw_in (i := 741) (by decide +kernel) (by decide +kernel))
theorem k_L_182 : LK "DoorRoundsLaw" 182 m_dearest := Or.inl (lw_in (i := 1272) (by decide +kernel) (by decide +kernel))
theorem k_L_183 : LK "DoorRoundsLaw" 183 D_mends := Or.inl (lw_in (i := 750) (by decide +kernel) (by decide +kernel))
theorem k_L_186 : LK "DoorRoundsLaw" 186 m_mends := Or.inl (lw_in (i := 1280) (by decide +kernel) (by decide +kernel))
theorem k_L_187 : LK "DoorRoundsLaw" 187 D_worst := Or.inl (lw_in (i := 754) (by decide +kernel) (by decide +kernel))
theorem k_L_190 : LK "DoorRoundsLaw" 190 m_worst := Or.inl (lw_in (i := 1292) (by decide +kernel) (by decide +kernel))
theorem k_L_191 : LK "DoorRoundsLaw" 191 D_image := Or.inl (lw_in (i := 758) (by decide +kernel) (by decide +kernel))
theorem k_L_194 : LK "DoorRoundsLaw" 194 m_image := Or.inl (lw_in (i := 1296) (by decide +kernel) (by decide +kernel))
theorem k_L_195 : LK "DoorRoundsLaw" 195 D_gone := Or.inl (lw_in (i := 762) (by decide +kernel) (by decide +kernel))
theorem k_L_198 : LK "DoorRoundsLaw" 198 m_gone := Or.inl (lw_in (i := 1300) (by decide +kernel) (by decide +kernel))
theorem k_L_199 : LK "DoorRoundsLaw" 199 D_asked := Or.inl (lw_in (i := 775) (by decide +kernel) (by decide +kernel))
theorem k_L_202 : LK "DoorRoundsLaw" 202 m_asked := Or.inl (lw_in (i := 1308) (by decide +kernel) (by decide +kernel))
theorem k_L_203 : LK "DoorRoundsLaw" 203 D_upper := Or.inl (lw_in (i := 779) (by decide +kernel) (by decide +kernel))
theorem k_L_207 : LK "DoorRoundsLaw" 207 m_upper := Or.inl (lw_in (i := 1312) (by decide +kernel) (by decide +kernel))
theorem k_L_208 : LK "DoorRoundsLaw" 208 D_lower := Or.inl (lw_in (i := 783) (by decide +kernel) (by decide +kernel))
theorem k_L_211 : LK "DoorRoundsLaw" 211 m_lower := Or.inl (lw_in (i := 1316) (by decide +kernel) (by decide +kernel))
theorem k_L_212 : LK "DoorRoundsLaw" 212 D_count := Or.inl (lw_in (i := 787) (by decide +kernel) (by decide +kernel))
theorem k_L_215 : LK "DoorRoundsLaw" 215 m_count := Or.inl (lw_in (i := 1320) (by decide +kernel) (by decide +kernel))
theorem k_L_216 : LK "DoorRoundsLaw" 216 D_finding := Or.inl (lw_in (i := 803) (by decide +kernel) (by decide +kernel))
theorem k_L_219 : LK "DoorRoundsLaw" 219 m_finding := Or.inl (lw_in (i := 1328) (by decide +kernel) (by decide +kernel))
theorem k_L_220 : LK "DoorRoundsLaw" 220 D_findings := Or.inl (lw_in (i := 807) (by decide +kernel) (by decide +kernel))
theorem k_L_223 : LK "DoorRoundsLaw" 223 m_findings := Or.inl (lw_in (i := 1332) (by decide +kernel) (by decide +kernel))
theorem k_L_224 : LK "DoorRoundsLaw" 224 D_digest := Or.inl (lw_in (i := 811) (by decide +kernel) (by decide +kernel))
theorem k_L_227 : LK "DoorRoundsLaw" 227 m_digest := Or.inl (lw_in (i := 1336) (by decide +kernel) (by decide +kernel))
theorem ko_m_1 : Cond.methodLink "DoorRoundsModel" 1 Lib.objectInit ∈ lw_g := lw_in (i := 832) (by decide +kernel) (by decide +kernel)
theorem k_m_78 : LK "DoorRoundsModel" 78 m_in := Or.inl (lw_in (i := 940) (by decide +kernel) (by decide +kernel))
theorem k_m_82 : LK "DoorRoundsModel" 82 m_isRow := Or.inl (lw_in (i := 937) (by decide +kernel) (by decide +kernel))
theorem k_m_86 : LK "DoorRoundsModel" 86 m_meet := Or.inl (lw_in (i := 943) (by decide +kernel) (by decide +kernel))
theorem k_m_90 : LK "DoorRoundsModel" 90 m_isText := Or.inl (lw_in (i := 988) (by decide +kernel) (by decide +kernel))
theorem k_m_93 : LK "DoorRoundsModel" 93 m_setRow := Or.inl (lw_in (i := 947) (by decide +kernel) (by decide +kernel))
theorem k_m_97 : LK "DoorRoundsModel" 97 m_askedRow := Or.inl (lw_in (i := 955) (by decide +kernel) (by decide +kernel))
theorem k_m_100 : LK "DoorRoundsModel" 100 m_rowAt := Or.inl (lw_in (i := 959) (by decide +kernel) (by decide +kernel))
theorem k_m_104 : LK "DoorRoundsModel" 104 m_ask := Or.inl (lw_in (i := 963) (by decide +kernel) (by decide +kernel))
theorem k_m_107 : LK "DoorRoundsModel" 107 m_at := Or.inl (lw_in (i := 971) (by decide +kernel) (by decide +kernel))
theorem k_m_110 : LK "DoorRoundsModel" 110 m_askedText := Or.inl (lw_in (i := 995) (by decide +kernel) (by decide +kernel))
theorem k_m_116 : LK "DoorRoundsModel" 116 m_here := Or.inl (lw_in (i := 1007) (by decide +kernel) (by decide +kernel))
theorem k_m_125 : LK "DoorRoundsModel" 125 m_kindOf := Or.inl (lw_in (i := 1027) (by decide +kernel) (by decide +kernel))
theorem k_m_131 : LK "DoorRoundsModel" 131 m_readsNumber := Or.inl (lw_in (i := 1019) (by decide +kernel) (by decide +kernel))
theorem k_m_134 : LK "DoorRoundsModel" 134 m_isTold := Or.inl (lw_in (i := 1030) (by decide +kernel) (by decide +kernel))
theorem k_m_137 : LK "DoorRoundsModel" 137 m_sees := Or.inl (lw_in (i := 1015) (by decide +kernel) (by decide +kernel))
theorem k_m_141 : LK "DoorRoundsModel" 141 m_readsFigure := Or.inl (lw_in (i := 1034) (by decide +kernel) (by decide +kernel))
theorem k_m_144 : LK "DoorRoundsModel" 144 m_readsDoors := Or.inl (lw_in (i := 1011) (by decide +kernel) (by decide +kernel))
theorem k_m_147 : LK "DoorRoundsModel" 147 m_readsShop := Or.inl (lw_in (i := 1023) (by decide +kernel) (by decide +kernel))
theorem k_m_150 : LK "DoorRoundsModel" 150 m_goesOn := Or.inl (lw_in (i := 1003) (by decide +kernel) (by decide +kernel))
theorem k_m_159 : LK "DoorRoundsModel" 159 m_tell := Or.inl (lw_in (i := 1042) (by decide +kernel) (by decide +kernel))
theorem k_m_171 : LK "DoorRoundsModel" 171 m_isShop := Or.inl (lw_in (i := 1050) (by decide +kernel) (by decide +kernel))
theorem k_m_174 : LK "DoorRoundsModel" 174 m_aboutOf := Or.inl (lw_in (i := 1054) (by decide +kernel) (by decide +kernel))
theorem k_m_177 : LK "DoorRoundsModel" 177 m_goingBy := Or.inl (lw_in (i := 1078) (by decide +kernel) (by decide +kernel))
theorem k_m_181 : LK "DoorRoundsModel" 181 m_doorAt := Or.inl (lw_in (i := 1070) (by decide +kernel) (by decide +kernel))
theorem k_m_185 : LK "DoorRoundsModel" 185 m_isSleeper := Or.inl (lw_in (i := 1062) (by decide +kernel) (by decide +kernel))
theorem k_m_188 : LK "DoorRoundsModel" 188 m_areBeside := Or.inl (lw_in (i := 1066) (by decide +kernel) (by decide +kernel))
theorem k_m_191 : LK "DoorRoundsModel" 191 m_going := Or.inl (lw_in (i := 1074) (by decide +kernel) (by decide +kernel))
theorem k_m_194 : LK "DoorRoundsModel" 194 m_isDoor := Or.inl (lw_in (i := 1085) (by decide +kernel) (by decide +kernel))
theorem k_m_197 : LK "DoorRoundsModel" 197 m_shutMany := Or.inl (lw_in (i := 1089) (by decide +kernel) (by decide +kernel))
theorem k_m_201 : LK "DoorRoundsModel" 201 m_taker := Or.inl (lw_in (i := 1110) (by decide +kernel) (by decide +kernel))
theorem k_m_205 : LK "DoorRoundsModel" 205 m_fromNow := Or.inl (lw_in (i := 1102) (by decide +kernel) (by decide +kernel))
theorem k_m_208 : LK "DoorRoundsModel" 208 m_passOne := Or.inl (lw_in (i := 1106) (by decide +kernel) (by decide +kernel))
theorem k_m_212 : LK "DoorRoundsModel" 212 m_row := Or.inl (lw_in (i := 1118) (by decide +kernel) (by decide +kernel))
theorem k_m_217 : LK "DoorRoundsModel" 217 m_ways := Or.inl (lw_in (i := 1140) (by decide +kernel) (by decide +kernel))
theorem k_m_222 : LK "DoorRoundsModel" 222 m_plainBy := Or.inl (lw_in (i := 1136) (by decide +kernel) (by decide +kernel))
theorem k_m_226 : LK "DoorRoundsModel" 226 m_isPair := Or.inl (lw_in (i := 1168) (by decide +kernel) (by decide +kernel))
theorem k_m_229 : LK "DoorRoundsModel" 229 m_divisor := Or.inl (lw_in (i := 1172) (by decide +kernel) (by decide +kernel))
theorem k_m_232 : LK "DoorRoundsModel" 232 m_walkOf := Or.inl (lw_in (i := 1184) (by decide +kernel) (by decide +kernel))
theorem k_m_235 : LK "DoorRoundsModel" 235 m_isSet := Or.inl (lw_in (i := 1192) (by decide +kernel) (by decide +kernel))
theorem k_m_238 : LK "DoorRoundsModel" 238 m_roundOf := Or.inl (lw_in (i := 1196) (by decide +kernel) (by decide +kernel))
theorem k_m_242 : LK "DoorRoundsModel" 242 m_mayIn := Or.inl (lw_in (i := 1213) (by decide +kernel) (by decide +kernel))
theorem k_m_245 : LK "DoorRoundsModel" 245 m_leastFor := Or.inl (lw_in (i := 1209) (by decide +kernel) (by decide +kernel))
theorem k_m_248 : LK "DoorRoundsModel" 248 m_joinsOf := Or.inl (lw_in (i := 1225) (by decide +kernel) (by decide +kernel))
theorem k_m_251 : LK "DoorRoundsModel" 251 m_sizeOf := Or.inl (lw_in (i := 1237) (by decide +kernel) (by decide +kernel))
theorem k_m_254 : LK "DoorRoundsModel" 254 m_fits := Or.inl (lw_in (i := 1252) (by decide +kernel) (by decide +kernel))
theorem k_m_258 : LK "DoorRoundsModel" 258 m_askedRents := Or.inl (lw_in (i := 1264) (by decide +kernel) (by decide +kernel))
theorem k_m_261 : LK "DoorRoundsModel" 261 m_setRents := Or.inl (lw_in (i := 1268) (by decide +kernel) (by decide +kernel))
theorem k_m_264 : LK "DoorRoundsModel" 264 m_part := Or.inl (lw_in (i := 1276) (by decide +kernel) (by decide +kernel))
theorem k_m_271 : LK "DoorRoundsModel" 271 m_setPlans := Or.inl (lw_in (i := 1284) (by decide +kernel) (by decide +kernel))
theorem k_m_275 : LK "DoorRoundsModel" 275 m_othersBy := Or.inl (lw_in (i := 1288) (by decide +kernel) (by decide +kernel))
theorem k_m_278 : LK "DoorRoundsModel" 278 m_isImage := Or.inl (lw_in (i := 1304) (by decide +kernel) (by decide +kernel))
theorem k_m_281 : LK "DoorRoundsModel" 281 m_counts := Or.inl (lw_in (i := 1324) (by decide +kernel) (by decide +kernel))
theorem k_m_289 : LK "DoorRoundsModel" 289 m_mix := Or.inl (lw_in (i := 1341) (by decide +kernel) (by decide +kernel))
theorem k_m_294 : LK "DoorRoundsModel" 294 m_mixSquare := Or.inl (lw_in (i := 1346) (by decide +kernel) (by decide +kernel))
theorem kc_n : Cond.native arraycopyName ∈ lw_g := lw_in (i := 301) (by decide +kernel) (by decide +kernel)
theorem kc_s : Cond.static arraycopyName ∈ lw_g := lw_in (i := 300) (by decide +kernel) (by decide +kernel)
theorem kc_i : Cond.initialized "java/lang/System" ∈ lw_g := lw_in (i := 12) (by decide +kernel) (by decide +kernel)
theorem ko_i : Cond.instanceMethod Lib.objectInit ∈ lw_g := lw_in (i := 20) (by decide +kernel) (by decide +kernel)
theorem ko_c : Cond.code Lib.objectInit ⟨#[0xb1]⟩ 1 none ∈ lw_g := lw_in (i := 21) (by decide +kernel) (by decide +kernel)
theorem ms_maxI : Cond.static Lib.Math.max.name ∈ lw_g := lw_in (i := 30) (by decide +kernel) (by decide +kernel)
theorem mc_maxI : Cond.code Lib.Math.max.name Lib.Math.max.code 2 (some .int) ∈ lw_g := lw_in (i := 31) (by decide +kernel) (by decide +kernel)
theorem ms_minI : Cond.static Lib.Math.min.name ∈ lw_g := lw_in (i := 250) (by decide +kernel) (by decide +kernel)
theorem mc_minI : Cond.code Lib.Math.min.name Lib.Math.min.code 2 (some .int) ∈ lw_g := lw_in (i := 251) (by decide +kernel) (by decide +kernel)
theorem ms_minJ : Cond.static Lib.MathLoose.min_long.x ∈ lw_g := lw_in (i := 656) (by decide +kernel) (by decide +kernel)
theorem mc_minJ : Cond.code Lib.MathLoose.min_long.x Lib.MathLoose.min_long.code 4 (some .long) ∈ lw_g := lw_in (i := 657) (by decide +kernel) (by decide +kernel)
theorem ms_absJ : Cond.static Lib.MathLoose.abs_long.x ∈ lw_g := lw_in (i := 598) (by decide +kernel) (by decide +kernel)
theorem mc_absJ : Cond.code Lib.MathLoose.abs_long.x Lib.MathLoose.abs_long.code 2 (some .long) ∈ lw_g := lw_in (i := 599) (by decide +kernel) (by decide +kernel)
theorem ms_fm : Cond.static fm_x ∈ lw_g := lw_in (i := 450) (by decide +kernel) (by decide +kernel)
theorem mc_fm : Cond.code fm_x fm_c 6 (some .long) ∈ lw_g := lw_in (i := 451) (by decide +kernel) (by decide +kernel)
theorem f_D_11 : FL "DoorRounds" 11 7 0 := ⟨_, _, cl_7, by decide, by decide, lw_in (i := 181) (by decide +kernel) (by decide +kernel)⟩
theorem f_D_15 : FL "DoorRounds" 15 7 1 := ⟨_, _, cl_7, by decide, by decide, lw_in (i := 182) (by decide +kernel) (by decide +kernel)⟩
theorem f_D_21 : FL "DoorRounds" 21 7 2 := ⟨_, _, cl_7, by decide, by decide, lw_in (i := 183) (by decide +kernel) (by decide +kernel)⟩
theorem f_D_28 : FL "DoorRounds" 28 7 3 := ⟨_, _, cl_7, by decide, by decide, lw_in (i := 184) (by decide +kernel) (by decide +kernel)⟩
theorem f_D_32 : FL "DoorRounds" 32 7 4 := ⟨_, _, cl_7, by decide, by decide, lw_in (i := 185) (by decide +kernel) (by decide +kernel)⟩
theorem f_D_36 : FL "DoorRounds" 36 7 5 := ⟨_, _, cl_7, by decide, by decide, lw_in (i := 186) (by decide +kernel) (by decide +kernel)⟩
theorem f_D_39 : FL "DoorRounds" 39 7 6 := ⟨_, _, cl_7, by decide, by decide, lw_in (i := 187) (by decide +kernel) (by decide +kernel)⟩
theorem f_D_45 : FL "DoorRounds" 45 7 7 := ⟨_, _, cl_7, by decide, by decide, lw_in (i := 188) (by decide +kernel) (by decide +kernel)⟩
theorem f_D_52 : FL "DoorRounds" 52 7 8 := ⟨_, _, cl_7, by decide, by decide, lw_in (i := 189) (by decide +kernel) (by decide +kernel)⟩
theorem f_D_56 : FL "DoorRounds" 56 7 9 := ⟨_, _, cl_7, by decide, by decide, lw_in (i := 190) (by decide +kernel) (by decide +kernel)⟩
theorem f_D_63 : FL "DoorRounds" 63 7 10 := ⟨_, _, cl_7, by decide, by decide, lw_in (i := 191) (by decide +kernel) (by decide +kernel)⟩
theorem f_D_67 : FL "DoorRounds" 67 7 11 := ⟨_, _, cl_7, by decide, by decide, lw_in (i := 192) (by decide +kernel) (by decide +kernel)⟩
theorem f_D_70 : FL "DoorRounds" 70 7 12 := ⟨_, _, cl_7, by decide, by decide, lw_in (i := 193) (by decide +kernel) (by decide +kernel)⟩
theorem f_D_74 : FL "DoorRounds" 74 7 13 := ⟨_, _, cl_7, by decide, by decide, lw_in (i := 194) (by decide +kernel) (by decide +kernel)⟩
theorem f_D_78 : FL "DoorRounds" 78 7 14 := ⟨_, _, cl_7, by decide, by decide, lw_in (i := 195) (by decide +kernel) (by decide +kernel)⟩
theorem f_D_81 : FL "DoorRounds" 81 7 15 := ⟨_, _, cl_7, by decide, by decide, lw_in (i := 196) (by decide +kernel) (by decide +kernel)⟩
theorem f_D_84 : FL "DoorRounds" 84 5 0 := ⟨_, _, cl_5, by decide, by decide, lw_in (i := 50) (by decide +kernel) (by decide +kernel)⟩
theorem f_D_121 : FL "DoorRounds" 121 6 1 := ⟨_, _, cl_6, by decide, by decide, lw_in (i := 36) (by decide +kernel) (by decide +kernel)⟩
theorem f_D_128 : FL "DoorRounds" 128 6 0 := ⟨_, _, cl_6, by decide, by decide, lw_in (i := 33) (by decide +kernel) (by decide +kernel)⟩
theorem f_D_158 : FL "DoorRounds" 158 0 0 := ⟨_, _, cl_0, by decide, by decide, lw_in (i := 69) (by decide +kernel) (by decide +kernel)⟩
theorem f_D_163 : FL "DoorRounds" 163 2 1 := ⟨_, _, cl_2, by decide, by decide, lw_in (i := 162) (by decide +kernel) (by decide +kernel)⟩
theorem f_D_191 : FL "DoorRounds" 191 4 4 := ⟨_, _, cl_4, by decide, by decide, lw_in (i := 124) (by decide +kernel) (by decide +kernel)⟩
theorem f_D_208 : FL "DoorRounds" 208 5 1 := ⟨_, _, cl_5, by decide, by decide, lw_in (i := 52) (by decide +kernel) (by decide +kernel)⟩
theorem f_D_246 : FL "DoorRounds" 246 4 2 := ⟨_, _, cl_4, by decide, by decide, lw_in (i := 119) (by decide +kernel) (by decide +kernel)⟩
theorem f_D_252 : FL "DoorRounds" 252 2 0 := ⟨_, _, cl_2, by decide, by decide, lw_in (i := 159) (by decide +kernel) (by decide +kernel)⟩
theorem f_D_298 : FL "DoorRounds" 298 4 0 := ⟨_, _, cl_4, by decide, by decide, lw_in (i := 111) (by decide +kernel) (by decide +kernel)⟩
theorem f_D_347 : FL "DoorRounds" 347 4 3 := ⟨_, _, cl_4, by decide, by decide, lw_in (i := 122) (by decide +kernel) (by decide +kernel)⟩
theorem f_D_350 : FL "DoorRounds" 350 4 1 := ⟨_, _, cl_4, by decide, by decide, lw_in (i := 116) (by decide +kernel) (by decide +kernel)⟩
theorem f_Di_9 : FL "DoorRounds$Diary" 9 0 0 := ⟨_, _, cl_0, by decide, by decide, lw_in (i := 68) (by decide +kernel) (by decide +kernel)⟩
theorem f_Di_15 : FL "DoorRounds$Diary" 15 0 1 := ⟨_, _, cl_0, by decide, by decide, lw_in (i := 70) (by decide +kernel) (by decide +kernel)⟩
theorem f_Di_19 : FL "DoorRounds$Diary" 19 0 2 := ⟨_, _, cl_0, by decide, by decide, lw_in (i := 71) (by decide +kernel) (by decide +kernel)⟩
theorem f_Di_22 : FL "DoorRounds$Diary" 22 0 3 := ⟨_, _, cl_0, by decide, by decide, lw_in (i := 72) (by decide +kernel) (by decide +kernel)⟩
theorem f_Di_31 : FL "DoorRounds$Diary" 31 4 1 := ⟨_, _, cl_4, by decide, by decide, lw_in (i := 114) (by decide +kernel) (by decide +kernel)⟩
theorem f_Er_11 : FL "DoorRounds$Errands" 11 1 0 := ⟨_, _, cl_1, by decide, by decide, lw_in (i := 88) (by decide +kernel) (by decide +kernel)⟩
theorem f_Er_15 : FL "DoorRounds$Errands" 15 1 1 := ⟨_, _, cl_1, by decide, by decide, lw_in (i := 89) (by decide +kernel) (by decide +kernel)⟩
theorem f_Pl_9 : FL "DoorRounds$Plan" 9 2 0 := ⟨_, _, cl_2, by decide, by decide, lw_in (i := 157) (by decide +kernel) (by decide +kernel)⟩
theorem f_Pl_15 : FL "DoorRounds$Plan" 15 2 1 := ⟨_, _, cl_2, by decide, by decide, lw_in (i := 160) (by decide +kernel) (by decide +kernel)⟩
theorem f_Pl_20 : FL "DoorRounds$Plan" 20 2 2 := ⟨_, _, cl_2, by decide, by decide, lw_in (i := 163) (by decide +kernel) (by decide +kernel)⟩
theorem f_Pl_25 : FL "DoorRounds$Plan" 25 2 3 := ⟨_, _, cl_2, by decide, by decide, lw_in (i := 164) (by decide +kernel) (by decide +kernel)⟩
theorem f_Pl_29 : FL "DoorRounds$Plan" 29 2 4 := ⟨_, _, cl_2, by decide, by decide, lw_in (i := 165) (by decide +kernel) (by decide +kernel)⟩
theorem f_Pl_36 : FL "DoorRounds$Plan" 36 2 5 := ⟨_, _, cl_2, by decide, by decide, lw_in (i := 167) (by decide +kernel) (by decide +kernel)⟩
theorem f_Pl_72 : FL "DoorRounds$Plan" 72 4 1 := ⟨_, _, cl_4, by decide, by decide, lw_in (i := 115) (by decide +kernel) (by decide +kernel)⟩
theorem f_Pl_89 : FL "DoorRounds$Plan" 89 3 1 := ⟨_, _, cl_3, by decide, by decide, lw_in (i := 147) (by decide +kernel) (by decide +kernel)⟩
theorem f_Pl_92 : FL "DoorRounds$Plan" 92 3 2 := ⟨_, _, cl_3, by decide, by decide, lw_in (i := 149) (by decide +kernel) (by decide +kernel)⟩
theorem f_Pl_106 : FL "DoorRounds$Plan" 106 4 0 := ⟨_, _, cl_4, by decide, by decide, lw_in (i := 110) (by decide +kernel) (by decide +kernel)⟩
theorem f_Pl_115 : FL "DoorRounds$Plan" 115 4 2 := ⟨_, _, cl_4, by decide, by decide, lw_in (i := 118) (by decide +kernel) (by decide +kernel)⟩
theorem f_Pl_118 : FL "DoorRounds$Plan" 118 4 3 := ⟨_, _, cl_4, by decide, by decide, lw_in (i := 121) (by decide +kernel) (by decide +kernel)⟩
theorem f_Pl_121 : FL "DoorRounds$Plan" 121 4 4 := ⟨_, _, cl_4, by decide, by decide, lw_in (i := 125) (by decide +kernel) (by decide +kernel)⟩
theorem f_Rd_14 : FL "DoorRounds$Reader" 14 3 0 := ⟨_, _, cl_3, by decide, by decide, lw_in (i := 145) (by decide +kernel) (by decide +kernel)⟩
theorem f_Rd_20 : FL "DoorRounds$Reader" 20 3 1 := ⟨_, _, cl_3, by decide, by decide, lw_in (i := 146) (by decide +kernel) (by decide +kernel)⟩
theorem f_Rd_24 : FL "DoorRounds$Reader" 24 3 2 := ⟨_, _, cl_3, by decide, by decide, lw_in (i := 148) (by decide +kernel) (by decide +kernel)⟩
theorem f_Rd_27 : FL "DoorRounds$Reader" 27 6 1 := ⟨_, _, cl_6, by decide, by decide, lw_in (i := 35) (by decide +kernel) (by decide +kernel)⟩
theorem f_Sh_9 : FL "DoorRounds$Shop" 9 4 0 := ⟨_, _, cl_4, by decide, by decide, lw_in (i := 109) (by decide +kernel) (by decide +kernel)⟩
theorem f_Sh_15 : FL "DoorRounds$Shop" 15 4 1 := ⟨_, _, cl_4, by decide, by decide, lw_in (i := 112) (by decide +kernel) (by decide +kernel)⟩
theorem f_Sh_18 : FL "DoorRounds$Shop" 18 4 2 := ⟨_, _, cl_4, by decide, by decide, lw_in (i := 117) (by decide +kernel) (by decide +kernel)⟩
theorem f_Sh_21 : FL "DoorRounds$Shop" 21 4 3 := ⟨_, _, cl_4, by decide, by decide, lw_in (i := 120) (by decide +kernel) (by decide +kernel)⟩
theorem f_Sh_24 : FL "DoorRounds$Shop" 24 4 4 := ⟨_, _, cl_4, by decide, by decide, lw_in (i := 123) (by decide +kernel) (by decide +kernel)⟩
theorem f_Sn_9 : FL "DoorRounds$Standing" 9 5 0 := ⟨_, _, cl_5, by decide, by decide, lw_in (i := 49) (by decide +kernel) (by decide +kernel)⟩
theorem f_Sn_15 : FL "DoorRounds$Standing" 15 5 1 := ⟨_, _, cl_5, by decide, by decide, lw_in (i := 51) (by decide +kernel) (by decide +kernel)⟩
theorem f_Sn_18 : FL "DoorRounds$Standing" 18 5 2 := ⟨_, _, cl_5, by decide, by decide, lw_in (i := 53) (by decide +kernel) (by decide +kernel)⟩
theorem f_Sn_22 : FL "DoorRounds$Standing" 22 2 1 := ⟨_, _, cl_2, by decide, by decide, lw_in (i := 161) (by decide +kernel) (by decide +kernel)⟩
theorem f_Sn_31 : FL "DoorRounds$Standing" 31 4 1 := ⟨_, _, cl_4, by decide, by decide, lw_in (i := 113) (by decide +kernel) (by decide +kernel)⟩
theorem f_Sn_70 : FL "DoorRounds$Standing" 70 2 4 := ⟨_, _, cl_2, by decide, by decide, lw_in (i := 166) (by decide +kernel) (by decide +kernel)⟩
theorem f_Sn_73 : FL "DoorRounds$Standing" 73 2 0 := ⟨_, _, cl_2, by decide, by decide, lw_in (i := 158) (by decide +kernel) (by decide +kernel)⟩
theorem f_Sp_9 : FL "DoorRounds$Strip" 9 6 1 := ⟨_, _, cl_6, by decide, by decide, lw_in (i := 34) (by decide +kernel) (by decide +kernel)⟩
theorem f_Sp_21 : FL "DoorRounds$Strip" 21 6 0 := ⟨_, _, cl_6, by decide, by decide, lw_in (i := 32) (by decide +kernel) (by decide +kernel)⟩
theorem f_m_7 : FL "DoorRoundsModel" 7 8 1 := ⟨_, _, cl_8, by decide, by decide, lw_in (i := 834) (by decide +kernel) (by decide +kernel)⟩
theorem f_m_13 : FL "DoorRoundsModel" 13 8 4 := ⟨_, _, cl_8, by decide, by decide, lw_in (i := 837) (by decide +kernel) (by decide +kernel)⟩
theorem f_m_17 : FL "DoorRoundsModel" 17 8 5 := ⟨_, _, cl_8, by decide, by decide, lw_in (i := 838) (by decide +kernel) (by decide +kernel)⟩
theorem f_m_20 : FL "DoorRoundsModel" 20 8 6 := ⟨_, _, cl_8, by decide, by decide, lw_in (i := 839) (by decide +kernel) (by decide +kernel)⟩
theorem f_m_23 : FL "DoorRoundsModel" 23 8 7 := ⟨_, _, cl_8, by decide, by decide, lw_in (i := 840) (by decide +kernel) (by decide +kernel)⟩
theorem f_m_26 : FL "DoorRoundsModel" 26 8 8 := ⟨_, _, cl_8, by decide, by decide, lw_in (i := 841) (by decide +kernel) (by decide +kernel)⟩
theorem f_m_29 : FL "DoorRoundsModel" 29 8 9 := ⟨_, _, cl_8, by decide, by decide, lw_in (i := 842) (by decide +kernel) (by decide +kernel)⟩
theorem f_m_32 : FL "DoorRoundsModel" 32 8 12 := ⟨_, _, cl_8, by decide, by decide, lw_in (i := 845) (by decide +kernel) (by decide +kernel)⟩
theorem f_m_35 : FL "DoorRoundsModel" 35 8 17 := ⟨_, _, cl_8, by decide, by decide, lw_in (i := 850) (by decide +kernel) (by decide +kernel)⟩
theorem f_m_38 : FL "DoorRoundsModel" 38 8 20 := ⟨_, _, cl_8, by decide, by decide, lw_in (i := 853) (by decide +kernel) (by decide +kernel)⟩
theorem f_m_41 : FL "DoorRoundsModel" 41 8 21 := ⟨_, _, cl_8, by decide, by decide, lw_in (i := 854) (by decide +kernel) (by decide +kernel)⟩
theorem f_m_44 : FL "DoorRoundsModel" 44 8 22 := ⟨_, _, cl_8, by decide, by decide, lw_in (i := 855) (by decide +kernel) (by decide +kernel)⟩
theorem f_m_47 : FL "DoorRoundsModel" 47 8 23 := ⟨_, _, cl_8, by decide, by decide, lw_in (i := 856) (by decide +kernel) (by decide +kernel)⟩
theorem f_m_50 : FL "DoorRoundsModel" 50 8 24 := ⟨_, _, cl_8, by decide, by decide, lw_in (i := 857) (by decide +kernel) (by decide +kernel)⟩
theorem f_m_53 : FL "DoorRoundsModel" 53 8 25 := ⟨_, _, cl_8, by decide, by decide, lw_in (i := 858) (by decide +kernel) (by decide +kernel)⟩
theorem f_m_56 : FL "DoorRoundsModel" 56 8 26 := ⟨_, _, cl_8, by decide, by decide, lw_in (i := 859) (by decide +kernel) (by decide +kernel)⟩
theorem f_m_59 : FL "DoorRoundsModel" 59 8 27 := ⟨_, _, cl_8, by decide, by decide, lw_in (i := 860) (by decide +kernel) (by decide +kernel)⟩
theorem f_m_62 : FL "DoorRoundsModel" 62 8 29 := ⟨_, _, cl_8, by decide, by decide, lw_in (i := 862) (by decide +kernel) (by decide +kernel)⟩
theorem f_m_65 : FL "DoorRoundsModel" 65 8 30 := ⟨_, _, cl_8, by decide, by decide, lw_in (i := 863) (by decide +kernel) (by decide +kernel)⟩
theorem f_m_68 : FL "DoorRoundsModel" 68 8 0 := ⟨_, _, cl_8, by decide, by decide, lw_in (i := 833) (by decide +kernel) (by decide +kernel)⟩
theorem f_m_72 : FL "DoorRoundsModel" 72 8 2 := ⟨_, _, cl_8, by decide, by decide, lw_in (i := 835) (by decide +kernel) (by decide +kernel)⟩
theorem f_m_75 : FL "DoorRoundsModel" 75 8 3 := ⟨_, _, cl_8, by decide, by decide, lw_in (i := 836) (by decide +kernel) (by decide +kernel)⟩
theorem f_m_113 : FL "DoorRoundsModel" 113 8 13 := ⟨_, _, cl_8, by decide, by decide, lw_in (i := 846) (by decide +kernel) (by decide +kernel)⟩
theorem f_m_119 : FL "DoorRoundsModel" 119 8 14 := ⟨_, _, cl_8, by decide, by decide, lw_in (i := 847) (by decide +kernel) (by decide +kernel)⟩
theorem f_m_122 : FL "DoorRoundsModel" 122 8 16 := ⟨_, _, cl_8, by decide, by decide, lw_in (i := 849) (by decide +kernel) (by decide +kernel)⟩
theorem f_m_128 : FL "DoorRoundsModel" 128 8 15 := ⟨_, _, cl_8, by decide, by decide, lw_in (i := 848) (by decide +kernel) (by decide +kernel)⟩
theorem f_m_153 : FL "DoorRoundsModel" 153 8 10 := ⟨_, _, cl_8, by decide, by decide, lw_in (i := 843) (by decide +kernel) (by decide +kernel)⟩
theorem f_m_156 : FL "DoorRoundsModel" 156 8 11 := ⟨_, _, cl_8, by decide, by decide, lw_in (i := 844) (by decide +kernel) (by decide +kernel)⟩
theorem f_m_162 : FL "DoorRoundsModel" 162 8 18 := ⟨_, _, cl_8, by decide, by decide, lw_in (i := 851) (by decide +kernel) (by decide +kernel)⟩
theorem f_m_165 : FL "DoorRoundsModel" 165 8 19 := ⟨_, _, cl_8, by decide, by decide, lw_in (i := 852) (by decide +kernel) (by decide +kernel)⟩
theorem f_m_168 : FL "DoorRoundsModel" 168 8 28 := ⟨_, _, cl_8, by decide, by decide, lw_in (i := 861) (by decide +kernel) (by decide +kernel)⟩
theorem f_m_268 : FL "DoorRoundsModel" 268 8 31 := ⟨_, _, cl_8, by decide, by decide, lw_in (i := 864) (by decide +kernel) (by decide +kernel)⟩
theorem f_m_286 : FL "DoorRoundsModel" 286 8 32 := ⟨_, _, cl_8, by decide, by decide, lw_in (i := 865) (by decide +kernel) (by decide +kernel)⟩
theorem q_D_212 : Cond.constant "DoorRounds" 212 100000 ∈ lw_g := lw_in (i := 522) (by decide +kernel) (by decide +kernel)
theorem q_D_228 : Cond.constant "DoorRounds" 228 1000000000 ∈ lw_g := lw_in (i := 556) (by decide +kernel) (by decide +kernel)
theorem q_D_328 : Cond.constantLong "DoorRounds" 328 17 ∈ lw_g := lw_in (i := 815) (by decide +kernel) (by decide +kernel)
theorem q_D_330 : Cond.constantLong "DoorRounds" 330 31 ∈ lw_g := lw_in (i := 816) (by decide +kernel) (by decide +kernel)
theorem q_Di_44 : Cond.constantLong "DoorRounds$Diary" 44 31 ∈ lw_g := lw_in (i := 821) (by decide +kernel) (by decide +kernel)
theorem q_Er_18 : Cond.constantLong "DoorRounds$Errands" 18 1152921504606846976 ∈ lw_g := lw_in (i := 639) (by decide +kernel) (by decide +kernel)
theorem q_Sp_42 : Cond.constantLong "DoorRounds$Strip" 42 31 ∈ lw_g := lw_in (i := 826) (by decide +kernel) (by decide +kernel)
theorem q_m_204 : Cond.constant "DoorRoundsModel" 204 100000 ∈ lw_g := lw_in (i := 1101) (by decide +kernel) (by decide +kernel)
theorem q_m_215 : Cond.constantLong "DoorRoundsModel" 215 2 ∈ lw_g := lw_in (i := 1143) (by decide +kernel) (by decide +kernel)
theorem q_m_221 : Cond.constant "DoorRoundsModel" 221 1000000000 ∈ lw_g := lw_in (i := 1135) (by decide +kernel) (by decide +kernel)
theorem q_m_241 : Cond.constant "DoorRoundsModel" 241 16777216 ∈ lw_g := lw_in (i := 1204) (by decide +kernel) (by decide +kernel)
theorem q_m_284 : Cond.constantLong "DoorRoundsModel" 284 31 ∈ lw_g := lw_in (i := 1345) (by decide +kernel) (by decide +kernel)
theorem q_m_292 : Cond.constantLong "DoorRoundsModel" 292 17 ∈ lw_g := lw_in (i := 1340) (by decide +kernel) (by decide +kernel)
theorem q_ji_265 : Cond.constant "java/lang/Integer" 265 1431655765 ∈ lw_g := lw_in (i := 507) (by decide +kernel) (by decide +kernel)
theorem q_ji_266 : Cond.constant "java/lang/Integer" 266 858993459 ∈ lw_g := lw_in (i := 508) (by decide +kernel) (by decide +kernel)
theorem q_ji_267 : Cond.constant "java/lang/Integer" 267 252645135 ∈ lw_g := lw_in (i := 509) (by decide +kernel) (by decide +kernel)
theorem c_D_9 : Cond.classLink "DoorRounds" 9 "DoorRounds$Strip" ∈ lw_g := lw_in (i := 22) (by decide +kernel) (by decide +kernel)
theorem c_D_25 : Cond.classLink "DoorRounds" 25 "DoorRounds$Standing" ∈ lw_g := lw_in (i := 43) (by decide +kernel) (by decide +kernel)
theorem c_D_42 : Cond.classLink "DoorRounds" 42 "DoorRounds$Diary" ∈ lw_g := lw_in (i := 62) (by decide +kernel) (by decide +kernel)
theorem c_D_49 : Cond.classLink "DoorRounds" 49 "DoorRounds$Errands" ∈ lw_g := lw_in (i := 82) (by decide +kernel) (by decide +kernel)
theorem c_D_60 : Cond.classLink "DoorRounds" 60 "DoorRounds$Plan" ∈ lw_g := lw_in (i := 96) (by decide +kernel) (by decide +kernel)
theorem c_Pl_18 : Cond.classLink "DoorRounds$Plan" 18 "DoorRounds$Shop" ∈ lw_g := lw_in (i := 102) (by decide +kernel) (by decide +kernel)
theorem c_Pl_33 : Cond.classLink "DoorRounds$Plan" 33 "DoorRounds$Reader" ∈ lw_g := lw_in (i := 137) (by decide +kernel) (by decide +kernel)
theorem c_Rd_9 : Cond.classLink "DoorRounds$Reader" 9 "DoorRounds$Strip" ∈ lw_g := lw_in (i := 143) (by decide +kernel) (by decide +kernel)
theorem c_L_7 : Cond.classLink "DoorRoundsLaw" 7 "DoorRounds" ∈ lw_g := lw_in (i := 14) (by decide +kernel) (by decide +kernel)
theorem c_L_10 : Cond.classLink "DoorRoundsLaw" 10 "DoorRoundsModel" ∈ lw_g := lw_in (i := 827) (by decide +kernel) (by decide +kernel)
theorem n_0 : Cond.instantiable "DoorRounds$Diary" 4 ∈ lw_g := lw_in (i := 63) (by decide +kernel) (by decide +kernel)
theorem nf_0_0 : ∀ r ty, clOK 0 r ty → (r.2.1 0).2.2.2 = false := fun r ty h => by have e := h.1; cases e; exact rfl
theorem nf_0_1 : ∀ r ty, clOK 0 r ty → ((r.2.1 1).2.2.2 = true ∧ r.1 = "DoorRounds$Diary") := fun r ty h => by have e := h.1; cases e; exact ⟨rfl, rfl⟩
theorem nf_0_2 : ∀ r ty, clOK 0 r ty → ((r.2.1 2).2.2.2 = true ∧ r.1 = "DoorRounds$Diary") := fun r ty h => by have e := h.1; cases e; exact ⟨rfl, rfl⟩
theorem nf_0_3 : ∀ r ty, clOK 0 r ty → ((r.2.1 3).2.2.2 = true ∧ r.1 = "DoorRounds$Diary") := fun r ty h => by have e := h.1; cases e; exact ⟨rfl, rfl⟩
theorem n_1 : Cond.instantiable "DoorRounds$Errands" 2 ∈ lw_g := lw_in (i := 83) (by decide +kernel) (by decide +kernel)
theorem nf_1_0 : ∀ r ty, clOK 1 r ty → ((r.2.1 0).2.2.2 = true ∧ r.1 = "DoorRounds$Errands") := fun r ty h => by have e := h.1; cases e; exact ⟨rfl, rfl⟩
theorem nf_1_1 : ∀ r ty, clOK 1 r ty → ((r.2.1 1).2.2.2 = true ∧ r.1 = "DoorRounds$Errands") := fun r ty h => by have e := h.1; cases e; exact ⟨rfl, rfl⟩
theorem n_2 : Cond.instantiable "DoorRounds$Plan" 6 ∈ lw_g := lw_in (i := 97) (by decide +kernel) (by decide +kernel)
theorem nf_2_0 : ∀ r ty, clOK 2 r ty → (r.2.1 0).2.2.2 = false := fun r ty h => by have e := h.1; cases e; exact rfl
theorem nf_2_1 : ∀ r ty, clOK 2 r ty → (r.2.1 1).2.2.2 = false := fun r ty h => by have e := h.1; cases e; exact rfl
theorem nf_2_2 : ∀ r ty, clOK 2 r ty → ((r.2.1 2).2.2.2 = true ∧ r.1 = "DoorRounds$Plan") := fun r ty h => by have e := h.1; cases e; exact ⟨rfl, rfl⟩
theorem nf_2_3 : ∀ r ty, clOK 2 r ty → ((r.2.1 3).2.2.2 = true ∧ r.1 = "DoorRounds$Plan") := fun r ty h => by have e := h.1; cases e; exact ⟨rfl, rfl⟩
theorem nf_2_4 : ∀ r ty, clOK 2 r ty → ((r.2.1 4).2.2.2 = true ∧ r.1 = "DoorRounds$Plan") := fun r ty h => by have e := h.1; cases e; exact ⟨rfl, rfl⟩
theorem nf_2_5 : ∀ r ty, clOK 2 r ty → ((r.2.1 5).2.2.2 = true ∧ r.1 = "DoorRounds$Plan") := fun r ty h => by have e := h.1; cases e; exact ⟨rfl, rfl⟩
theorem n_3 : Cond.instantiable "DoorRounds$Reader" 3 ∈ lw_g := lw_in (i := 138) (by decide +kernel) (by decide +kernel)
theorem nf_3_0 : ∀ r ty, clOK 3 r ty → (r.2.1 0).2.2.2 = false := fun r ty h => by have e := h.1; cases e; exact rfl
theorem nf_3_1 : ∀ r ty, clOK 3 r ty → (r.2.1 1).2.2.2 = false := fun r ty h => by have e := h.1; cases e; exact rfl
theorem nf_3_2 : ∀ r ty, clOK 3 r ty → (r.2.1 2).2.2.2 = false := fun r ty h => by have e := h.1; cases e; exact rfl
theorem n_4 : Cond.instantiable "DoorRounds$Shop" 5 ∈ lw_g := lw_in (i := 104) (by decide +kernel) (by decide +kernel)
theorem nf_4_0 : ∀ r ty, clOK 4 r ty → (r.2.1 0).2.2.2 = false := fun r ty h => by have e := h.1; cases e; exact rfl
theorem nf_4_1 : ∀ r ty, clOK 4 r ty → (r.2.1 1).2.2.2 = false := fun r ty h => by have e := h.1; cases e; exact rfl
theorem nf_4_2 : ∀ r ty, clOK 4 r ty → (r.2.1 2).2.2.2 = false := fun r ty h => by have e := h.1; cases e; exact rfl
theorem nf_4_3 : ∀ r ty, clOK 4 r ty → (r.2.1 3).2.2.2 = false := fun r ty h => by have e := h.1; cases e; exact rfl
theorem nf_4_4 : ∀ r ty, clOK 4 r ty → (r.2.1 4).2.2.2 = false := fun r ty h => by have e := h.1; cases e; exact rfl
theorem n_5 : Cond.instantiable "DoorRounds$Standing" 3 ∈ lw_g := lw_in (i := 44) (by decide +kernel) (by decide +kernel)
theorem nf_5_0 : ∀ r ty, clOK 5 r ty → (r.2.1 0).2.2.2 = false := fun r ty h => by have e := h.1; cases e; exact rfl
theorem nf_5_1 : ∀ r ty, clOK 5 r ty → (r.2.1 1).2.2.2 = false := fun r ty h => by have e := h.1; cases e; exact rfl
theorem nf_5_2 : ∀ r ty, clOK 5 r ty → ((r.2.1 2).2.2.2 = true ∧ r.1 = "DoorRounds$Standing") := fun r ty h => by have e := h.1; cases e; exact ⟨rfl, rfl⟩
theorem n_6 : Cond.instantiable "DoorRounds$Strip" 2 ∈ lw_g := lw_in (i := 24) (by decide +kernel) (by decide +kernel)
theorem nf_6_0 : ∀ r ty, clOK 6 r ty → ((r.2.1 0).2.2.2 = true ∧ r.1 = "DoorRounds$Strip") := fun r ty h => by have e := h.1; cases e; exact ⟨rfl, rfl⟩
theorem nf_6_1 : ∀ r ty, clOK 6 r ty → (r.2.1 1).2.2.2 = false := fun r ty h => by have e := h.1; cases e; exact rfl
theorem n_7 : Cond.instantiable "DoorRounds" 16 ∈ lw_g := lw_in (i := 15) (by decide +kernel) (by decide +kernel)
theorem nf_7_0 : ∀ r ty, clOK 7 r ty → ((r.2.1 0).2.2.2 = true ∧ r.1 = "DoorRounds") := fun r ty h => by have e := h.1; cases e; exact ⟨rfl, rfl⟩
theorem nf_7_1 : ∀ r ty, clOK 7 r ty → ((r.2.1 1).2.2.2 = true ∧ r.1 = "DoorRounds") := fun r ty h => by have e := h.1; cases e; exact ⟨rfl, rfl⟩
theorem nf_7_2 : ∀ r ty, clOK 7 r ty → ((r.2.1 2).2.2.2 = true ∧ r.1 = "DoorRounds") := fun r ty h => by have e := h.1; cases e; exact ⟨rfl, rfl⟩
theorem nf_7_3 : ∀ r ty, clOK 7 r ty → ((r.2.1 3).2.2.2 = true ∧ r.1 = "DoorRounds") := fun r ty h => by have e := h.1; cases e; exact ⟨rfl, rfl⟩
theorem nf_7_4 : ∀ r ty, clOK 7 r ty → ((r.2.1 4).2.2.2 = true ∧ r.1 = "DoorRounds") := fun r ty h => by have e := h.1; cases e; exact ⟨rfl, rfl⟩
theorem nf_7_5 : ∀ r ty, clOK 7 r ty → ((r.2.1 5).2.2.2 = true ∧ r.1 = "DoorRounds") := fun r ty h => by have e := h.1; cases e; exact ⟨rfl, rfl⟩
theorem nf_7_6 : ∀ r ty, clOK 7 r ty → ((r.2.1 6).2.2.2 = true ∧ r.1 = "DoorRounds") := fun r ty h => by have e := h.1; cases e; exact ⟨rfl, rfl⟩
theorem nf_7_7 : ∀ r ty, clOK 7 r ty → ((r.2.1 7).2.2.2 = true ∧ r.1 = "DoorRounds") := fun r ty h => by have e := h.1; cases e; exact ⟨rfl, rfl⟩
theorem nf_7_8 : ∀ r ty, clOK 7 r ty → ((r.2.1 8).2.2.2 = true ∧ r.1 = "DoorRounds") := fun r ty h => by have e := h.1; cases e; exact ⟨rfl, rfl⟩
theorem nf_7_9 : ∀ r ty, clOK 7 r ty → ((r.2.1 9).2.2.2 = true ∧ r.1 = "DoorRounds") := fun r ty h => by have e := h.1; cases e; exact ⟨rfl, rfl⟩
theorem nf_7_10 : ∀ r ty, clOK 7 r ty → (r.2.1 10).2.2.2 = false := fun r ty h => by have e := h.1; cases e; exact rfl
theorem nf_7_11 : ∀ r ty, clOK 7 r ty → (r.2.1 11).2.2.2 = false := fun r ty h => by have e := h.1; cases e; exact rfl
theorem nf_7_12 : ∀ r ty, clOK 7 r ty → (r.2.1 12).2.2.2 = false := fun r ty h => by have e := h.1; cases e; exact rfl
theorem nf_7_13 : ∀ r ty, clOK 7 r ty → (r.2.1 13).2.2.2 = false := fun r ty h => by have e := h.1; cases e; exact rfl
theorem nf_7_14 : ∀ r ty, clOK 7 r ty → (r.2.1 14).2.2.2 = false := fun r ty h => by have e := h.1; cases e; exact rfl
theorem nf_7_15 : ∀ r ty, clOK 7 r ty → (r.2.1 15).2.2.2 = false := fun r ty h => by have e := h.1; cases e; exact rfl
theorem n_8 : Cond.instantiable "DoorRoundsModel" 33 ∈ lw_g := lw_in (i := 828) (by decide +kernel) (by decide +kernel)
theorem nf_8_0 : ∀ r ty, clOK 8 r ty → (r.2.1 0).2.2.2 = false := fun r ty h => by have e := h.1; cases e; exact rfl
theorem nf_8_1 : ∀ r ty, clOK 8 r ty → ((r.2.1 1).2.2.2 = true ∧ r.1 = "DoorRoundsModel") := fun r ty h => by have e := h.1; cases e; exact ⟨rfl, rfl⟩
theorem nf_8_2 : ∀ r ty, clOK 8 r ty → (r.2.1 2).2.2.2 = false := fun r ty h => by have e := h.1; cases e; exact rfl
theorem nf_8_3 : ∀ r ty, clOK 8 r ty → (r.2.1 3).2.2.2 = false := fun r ty h => by have e := h.1; cases e; exact rfl
theorem nf_8_4 : ∀ r ty, clOK 8 r ty → (r.2.1 4).2.2.2 = false := fun r ty h => by have e := h.1; cases e; exact rfl
theorem nf_8_5 : ∀ r ty, clOK 8 r ty → ((r.2.1 5).2.2.2 = true ∧ r.1 = "DoorRoundsModel") := fun r ty h => by have e := h.1; cases e; exact ⟨rfl, rfl⟩
theorem nf_8_6 : ∀ r ty, clOK 8 r ty → ((r.2.1 6).2.2.2 = true ∧ r.1 = "DoorRoundsModel") := fun r ty h => by have e := h.1; cases e; exact ⟨rfl, rfl⟩
theorem nf_8_7 : ∀ r ty, clOK 8 r ty → ((r.2.1 7).2.2.2 = true ∧ r.1 = "DoorRoundsModel") := fun r ty h => by have e := h.1; cases e; exact ⟨rfl, rfl⟩
theorem nf_8_8 : ∀ r ty, clOK 8 r ty → ((r.2.1 8).2.2.2 = true ∧ r.1 = "DoorRoundsModel") := fun r ty h => by have e := h.1; cases e; exact ⟨rfl, rfl⟩
theorem nf_8_9 : ∀ r ty, clOK 8 r ty → ((r.2.1 9).2.2.2 = true ∧ r.1 = "DoorRoundsModel") := fun r ty h => by have e := h.1; cases e; exact ⟨rfl, rfl⟩
theorem nf_8_10 : ∀ r ty, clOK 8 r ty → (r.2.1 10).2.2.2 = false := fun r ty h => by have e := h.1; cases e; exact rfl
theorem nf_8_11 : ∀ r ty, clOK 8 r ty → (r.2.1 11).2.2.2 = false := fun r ty h => by have e := h.1; cases e; exact rfl
theorem nf_8_12 : ∀ r ty, clOK 8 r ty → ((r.2.1 12).2.2.2 = true ∧ r.1 = "DoorRoundsModel") := fun r ty h => by have e := h.1; cases e; exact ⟨rfl, rfl⟩
theorem nf_8_13 : ∀ r ty, clOK 8 r ty → (r.2.1 13).2.2.2 = false := fun r ty h => by have e := h.1; cases e; exact rfl
theorem nf_8_14 : ∀ r ty, clOK 8 r ty → (r.2.1 14).2.2.2 = false := fun r ty h => by have e := h.1; cases e; exact rfl
theorem nf_8_15 : ∀ r ty, clOK 8 r ty → (r.2.1 15).2.2.2 = false := fun r ty h => by have e := h.1; cases e; exact rfl
theorem nf_8_16 : ∀ r ty, clOK 8 r ty → (r.2.1 16).2.2.2 = false := fun r ty h => by have e := h.1; cases e; exact rfl
theorem nf_8_17 : ∀ r ty, clOK 8 r ty → ((r.2.1 17).2.2.2 = true ∧ r.1 = "DoorRoundsModel") := fun r ty h => by have e := h.1; cases e; exact ⟨rfl, rfl⟩
theorem nf_8_18 : ∀ r ty, clOK 8 r ty → (r.2.1 18).2.2.2 = false := fun r ty h => by have e := h.1; cases e; exact rfl
theorem nf_8_19 : ∀ r ty, clOK 8 r ty → (r.2.1 19).2.2.2 = false := fun r ty h => by have e := h.1; cases e; exact rfl
theorem nf_8_20 : ∀ r ty, clOK 8 r ty → ((r.2.1 20).2.2.2 = true ∧ r.1 = "DoorRoundsModel") := fun r ty h => by have e := h.1; cases e; exact ⟨rfl, rfl⟩
theorem nf_8_21 : ∀ r ty, clOK 8 r ty → ((r.2.1 21).2.2.2 = true ∧ r.1 = "DoorRoundsModel") := fun r ty h => by have e := h.1; cases e; exact ⟨rfl, rfl⟩
theorem nf_8_22 : ∀ r ty, clOK 8 r ty → ((r.2.1 22).2.2.2 = true ∧ r.1 = "DoorRoundsModel") := fun r ty h => by have e := h.1; cases e; exact ⟨rfl, rfl⟩
theorem nf_8_23 : ∀ r ty, clOK 8 r ty → ((r.2.1 23).2.2.2 = true ∧ r.1 = "DoorRoundsModel") := fun r ty h => by have e := h.1; cases e; exact ⟨rfl, rfl⟩
theorem nf_8_24 : ∀ r ty, clOK 8 r ty → ((r.2.1 24).2.2.2 = true ∧ r.1 = "DoorRoundsModel") := fun r ty h => by have e := h.1; cases e; exact ⟨rfl, rfl⟩
theorem nf_8_25 : ∀ r ty, clOK 8 r ty → ((r.2.1 25).2.2.2 = true ∧ r.1 = "DoorRoundsModel") := fun r ty h => by have e := h.1; cases e; exact ⟨rfl, rfl⟩
theorem nf_8_26 : ∀ r ty, clOK 8 r ty → ((r.2.1 26).2.2.2 = true ∧ r.1 = "DoorRoundsModel") := fun r ty h => by have e := h.1; cases e; exact ⟨rfl, rfl⟩
theorem nf_8_27 : ∀ r ty, clOK 8 r ty → ((r.2.1 27).2.2.2 = true ∧ r.1 = "DoorRoundsModel") := fun r ty h => by have e := h.1; cases e; exact ⟨rfl, rfl⟩
theorem nf_8_28 : ∀ r ty, clOK 8 r ty → (r.2.1 28).2.2.2 = false := fun r ty h => by have e := h.1; cases e; exact rfl
theorem nf_8_29 : ∀ r ty, clOK 8 r ty → ((r.2.1 29).2.2.2 = true ∧ r.1 = "DoorRoundsModel") := fun r ty h => by have e := h.1; cases e; exact ⟨rfl, rfl⟩
theorem nf_8_30 : ∀ r ty, clOK 8 r ty → ((r.2.1 30).2.2.2 = true ∧ r.1 = "DoorRoundsModel") := fun r ty h => by have e := h.1; cases e; exact ⟨rfl, rfl⟩
theorem nf_8_31 : ∀ r ty, clOK 8 r ty → (r.2.1 31).2.2.2 = false := fun r ty h => by have e := h.1; cases e; exact rfl
theorem nf_8_32 : ∀ r ty, clOK 8 r ty → (r.2.1 32).2.2.2 = false := fun r ty h => by have e := h.1; cases e; exact rfl
theorem ar_I : Cond.arrayClass .int ∈ lw_g := lw_in (i := 42) (by decide +kernel) (by decide +kernel)
theorem ar_J : Cond.arrayClass .long ∈ lw_g := lw_in (i := 95) (by decide +kernel) (by decide +kernel)
