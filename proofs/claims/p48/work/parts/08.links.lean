noncomputable def lqL_0 : List (Nat × Cond) := [(19, Cond.methodLink "DoorRounds" 1 Lib.objectInit), (25, Cond.methodLink "DoorRounds" 18 Sp_init.1), (98, Cond.methodLink "DoorRounds" 62 Pl_init.1), (234, Cond.methodLink "DoorRounds" 87 D_isRow.1), (237, Cond.methodLink "DoorRounds" 91 D_found.1), (241, Cond.methodLink "DoorRounds" 95 D_rowOf.1), (245, Cond.methodLink "DoorRounds" 99 Sp_renew.1), (259, Cond.methodLink "DoorRounds" 103 D_placeFinding.1), (270, Cond.methodLink "DoorRounds" 107 Sp_get.1), (275, Cond.methodLink "DoorRounds" 110 Sp_set.1), (279, Cond.methodLink "DoorRounds" 113 D_tell.1), (262, Cond.methodLink "DoorRounds" 117 Sp_isThere.1), (295, Cond.methodLink "DoorRounds" 124 Sp_holds.1), (299, Cond.methodLink "DoorRounds" 131 arraycopyName), (306, Cond.methodLink "DoorRounds" 137 Sp_sum.1), (315, Cond.methodLink "DoorRounds" 141 D_isText.1), (318, Cond.methodLink "DoorRounds" 144 D_textOf.1), (330, Cond.methodLink "DoorRounds" 147 Pl_read.1), (391, Cond.methodLink "DoorRounds" 151 Pl_rank.1), (399, Cond.methodLink "DoorRounds" 154 Sn_begin.1), (408, Cond.methodLink "DoorRounds" 159 D_keptOf.1), (419, Cond.methodLink "DoorRounds" 164 Pl_hasShop.1), (420, Cond.methodLink "DoorRounds" 167 D_trait.1), (424, Cond.methodLink "DoorRounds" 170 Pl_shopOf.1), (433, Cond.methodLink "DoorRounds" 174 Sh_isOf.1), (437, Cond.methodLink "DoorRounds" 179 D_neighbours.1), (453, Cond.methodLink "DoorRounds" 182 D_rivals.1), (470, Cond.methodLink "DoorRounds" 185 Sh_weeksToSleep.1), (474, Cond.methodLink "DoorRounds" 188 Sh_weeksToTurn.1), (478, Cond.methodLink "DoorRounds" 194 Sh_way.1), (489, Cond.methodLink "DoorRounds" 198 Pl_hasDoor.1), (493, Cond.methodLink "DoorRounds" 201 Sn_isShut.1), (500, Cond.methodLink "DoorRounds" 204 Sn_shutCount.1), (518, Cond.methodLink "DoorRounds" 211 Pl_isThere.1), (523, Cond.methodLink "DoorRounds" 213 Sn_pass.1), (425, Cond.methodLink "DoorRounds" 217 Sn_doorOf.1), (543, Cond.methodLink "DoorRounds" 220 Sn_become.1), (457, Cond.methodLink "DoorRounds" 224 Sn_wanted.1), (557, Cond.methodLink "DoorRounds" 229 Pl_wrapped.1), (562, Cond.methodLink "DoorRounds" 233 Sn_differing.1), (412, Cond.methodLink "DoorRounds" 237 D_isKeptPlace.1), (578, Cond.methodLink "DoorRounds" 240 D_areTwo.1), (441, Cond.methodLink "DoorRounds" 243 Pl_walking.1), (590, Cond.methodLink "DoorRounds" 249 Pl_commonWith.1), (604, Cond.methodLink "DoorRounds" 255 Pl_canMeet.1), (617, Cond.methodLink "DoorRounds" 258 Pl_hasSet.1), (621, Cond.methodLink "DoorRounds" 261 Sn_roundOf.1), (635, Cond.methodLink "DoorRounds" 265 Er_begin.1), (643, Cond.methodLink "DoorRounds" 267 Er_look.1), (658, Cond.methodLink "DoorRounds" 271 Er_share.1), (666, Cond.methodLink "DoorRounds" 274 ji_bitCount.1), (667, Cond.methodLink "DoorRounds" 279 D_isIn.1), (668, Cond.methodLink "DoorRounds" 282 Er_weekFor.1), (672, Cond.methodLink "DoorRounds" 285 Er_walkingFor.1), (684, Cond.methodLink "DoorRounds" 288 D_metBy.1), (692, Cond.methodLink "DoorRounds" 291 D_pairCode.1), (703, Cond.methodLink "DoorRounds" 294 Di_write.1), (715, Cond.methodLink "DoorRounds" 301 Di_fits.1), (730, Cond.methodLink "DoorRounds" 305 D_isLook.1), (733, Cond.methodLink "DoorRounds" 308 D_passersFinding.1)]
theorem lq_0 : lqL_0.all lw_ck = true := by decide +kernel
noncomputable def lqL_1 : List (Nat × Cond) := [(737, Cond.methodLink "DoorRounds" 311 D_rentOf.1), (745, Cond.methodLink "DoorRounds" 315 D_tellFraction.1), (766, Cond.methodLink "DoorRounds" 319 D_imageFinding.1), (774, Cond.methodLink "DoorRounds" 322 Sn_setDoor.1), (791, Cond.methodLink "DoorRounds" 325 D_countOf.1), (817, Cond.methodLink "DoorRounds" 332 Di_mixedInto.1), (822, Cond.methodLink "DoorRounds" 336 Sp_mixedInto.1), (749, Cond.methodLink "DoorRounds" 337 D_greatestCommon.1), (266, Cond.methodLink "DoorRounds" 341 Sp_has.1), (770, Cond.methodLink "DoorRounds" 344 Pl_hasDoorSet.1), (795, Cond.methodLink "DoorRounds" 353 Pl_sleepers.1), (800, Cond.methodLink "DoorRounds" 356 D_countThere.1), (597, Cond.methodLink "DoorRounds" 360 Lib.MathLoose.abs_long.x), (67, Cond.methodLink "DoorRounds$Diary" 3 Lib.objectInit), (719, Cond.methodLink "DoorRounds$Diary" 25 Pl_shopOf.1), (720, Cond.methodLink "DoorRounds$Diary" 36 Sh_wayOf.1), (721, Cond.methodLink "DoorRounds$Diary" 40 Pl_wrapped.1), (87, Cond.methodLink "DoorRounds$Errands" 5 Lib.objectInit), (640, Cond.methodLink "DoorRounds$Errands" 20 ja_fillJ.1), (647, Cond.methodLink "DoorRounds$Errands" 26 Sn_roundOf.1), (648, Cond.methodLink "DoorRounds$Errands" 32 Er_weeksCode.1), (655, Cond.methodLink "DoorRounds$Errands" 36 Lib.MathLoose.min_long.x), (652, Cond.methodLink "DoorRounds$Errands" 46 Er_shiftOf.1), (662, Cond.methodLink "DoorRounds$Errands" 50 Er_leastOf.1), (101, Cond.methodLink "DoorRounds$Plan" 3 Lib.objectInit), (378, Cond.methodLink "DoorRounds$Plan" 40 Pl_hasShop.1), (374, Cond.methodLink "DoorRounds$Plan" 44 Pl_shopOf.1), (799, Cond.methodLink "DoorRounds$Plan" 48 Sh_isOf.1), (449, Cond.methodLink "DoorRounds$Plan" 51 fm_x), (445, Cond.methodLink "DoorRounds$Plan" 57 Pl_wrapped.1), (452, Cond.methodLink "DoorRounds$Plan" 61 Lib.Math.min.name), (608, Cond.methodLink "DoorRounds$Plan" 68 Pl_commonWith.1), (334, Cond.methodLink "DoorRounds$Plan" 75 Rd_begin.1), (338, Cond.methodLink "DoorRounds$Plan" 79 Rd_skipBlanks.1), (343, Cond.methodLink "DoorRounds$Plan" 82 Rd_passes.1), (351, Cond.methodLink "DoorRounds$Plan" 85 Rd_readNumber.1), (358, Cond.methodLink "DoorRounds$Plan" 95 Rd_isAtEnd.1), (359, Cond.methodLink "DoorRounds$Plan" 99 Pl_readShop.1), (363, Cond.methodLink "DoorRounds$Plan" 103 Rd_readKind.1), (370, Cond.methodLink "DoorRounds$Plan" 109 Pl_isFirstDoor.1), (382, Cond.methodLink "DoorRounds$Plan" 112 Rd_readStep.1), (395, Cond.methodLink "DoorRounds$Plan" 124 Pl_isAhead.1), (142, Cond.methodLink "DoorRounds$Reader" 3 Lib.objectInit), (144, Cond.methodLink "DoorRounds$Reader" 11 Sp_init.1), (342, Cond.methodLink "DoorRounds$Reader" 30 Sp_get.1), (347, Cond.methodLink "DoorRounds$Reader" 34 Rd_isAtEnd.1), (355, Cond.methodLink "DoorRounds$Reader" 38 Rd_isFigure.1), (369, Cond.methodLink "DoorRounds$Reader" 46 Rd_passes.1), (386, Cond.methodLink "DoorRounds$Reader" 49 Rd_readNumber.1), (108, Cond.methodLink "DoorRounds$Shop" 3 Lib.objectInit), (466, Cond.methodLink "DoorRounds$Shop" 27 Sh_going.1), (482, Cond.methodLink "DoorRounds$Shop" 31 Sh_wayOf.1), (48, Cond.methodLink "DoorRounds$Standing" 3 Lib.objectInit), (403, Cond.methodLink "DoorRounds$Standing" 27 Pl_shopOf.1), (404, Cond.methodLink "DoorRounds$Standing" 36 Sn_setDoor.1), (547, Cond.methodLink "DoorRounds$Standing" 40 arraycopyName), (504, Cond.methodLink "DoorRounds$Standing" 50 ji_bitCount.1), (461, Cond.methodLink "DoorRounds$Standing" 56 Sn_doorOf.1), (462, Cond.methodLink "DoorRounds$Standing" 59 Sh_goingIn.1), (469, Cond.methodLink "DoorRounds$Standing" 62 Pl_wrapped.1)]
theorem lq_1 : lqL_1.all lw_ck = true := by decide +kernel
noncomputable def lqL_2 : List (Nat × Cond) := [(527, Cond.methodLink "DoorRounds$Standing" 66 Sn_passOne.1), (625, Cond.methodLink "DoorRounds$Standing" 75 Lib.Math.max.name), (626, Cond.methodLink "DoorRounds$Standing" 81 Lib.Math.min.name), (28, Cond.methodLink "DoorRounds$Strip" 3 Lib.objectInit), (29, Cond.methodLink "DoorRounds$Strip" 15 Lib.Math.max.name), (274, Cond.methodLink "DoorRounds$Strip" 25 Sp_has.1), (249, Cond.methodLink "DoorRounds$Strip" 29 Lib.Math.min.name), (252, Cond.methodLink "DoorRounds$Strip" 32 ja_fill.1), (310, Cond.methodLink "DoorRounds$Strip" 38 Sp_get.1), (16, Cond.methodLink "DoorRoundsLaw" 9 D_init.1), (829, Cond.methodLink "DoorRoundsLaw" 12 m_init.1), (230, Cond.methodLink "DoorRoundsLaw" 13 D_row.1), (933, Cond.methodLink "DoorRoundsLaw" 17 m_row.1), (255, Cond.methodLink "DoorRoundsLaw" 18 D_lay.1), (967, Cond.methodLink "DoorRoundsLaw" 22 m_lay.1), (283, Cond.methodLink "DoorRoundsLaw" 23 D_at.1), (951, Cond.methodLink "DoorRoundsLaw" 26 m_at.1), (287, Cond.methodLink "DoorRoundsLaw" 27 D_tear.1), (972, Cond.methodLink "DoorRoundsLaw" 31 m_tear.1), (291, Cond.methodLink "DoorRoundsLaw" 32 D_copy.1), (976, Cond.methodLink "DoorRoundsLaw" 36 m_copy.1), (302, Cond.methodLink "DoorRoundsLaw" 37 D_mean.1), (980, Cond.methodLink "DoorRoundsLaw" 40 m_mean.1), (311, Cond.methodLink "DoorRoundsLaw" 41 D_text.1), (984, Cond.methodLink "DoorRoundsLaw" 44 m_text.1), (322, Cond.methodLink "DoorRoundsLaw" 45 D_put.1), (991, Cond.methodLink "DoorRoundsLaw" 48 m_put.1), (326, Cond.methodLink "DoorRoundsLaw" 49 D_fault.1), (999, Cond.methodLink "DoorRoundsLaw" 52 m_fault.1), (387, Cond.methodLink "DoorRoundsLaw" 53 D_square.1), (1038, Cond.methodLink "DoorRoundsLaw" 56 m_square.1), (415, Cond.methodLink "DoorRoundsLaw" 57 D_about.1), (1046, Cond.methodLink "DoorRoundsLaw" 60 m_about.1), (429, Cond.methodLink "DoorRoundsLaw" 61 D_mark.1), (1058, Cond.methodLink "DoorRoundsLaw" 64 m_mark.1), (485, Cond.methodLink "DoorRoundsLaw" 65 D_shut.1), (1081, Cond.methodLink "DoorRoundsLaw" 68 m_shut.1), (510, Cond.methodLink "DoorRoundsLaw" 69 D_open.1), (1093, Cond.methodLink "DoorRoundsLaw" 72 m_open.1), (514, Cond.methodLink "DoorRoundsLaw" 73 D_go.1), (1097, Cond.methodLink "DoorRoundsLaw" 76 m_go.1), (531, Cond.methodLink "DoorRoundsLaw" 77 D_doors.1), (1114, Cond.methodLink "DoorRoundsLaw" 80 m_doors.1), (535, Cond.methodLink "DoorRoundsLaw" 81 D_who.1), (1119, Cond.methodLink "DoorRoundsLaw" 84 m_who.1), (539, Cond.methodLink "DoorRoundsLaw" 85 D_wants.1), (1123, Cond.methodLink "DoorRoundsLaw" 88 m_wants.1), (548, Cond.methodLink "DoorRoundsLaw" 89 D_where.1), (1127, Cond.methodLink "DoorRoundsLaw" 92 m_where.1), (552, Cond.methodLink "DoorRoundsLaw" 93 D_plainly.1), (1131, Cond.methodLink "DoorRoundsLaw" 96 m_plainly.1), (558, Cond.methodLink "DoorRoundsLaw" 97 D_again.1), (1144, Cond.methodLink "DoorRoundsLaw" 101 m_again.1), (566, Cond.methodLink "DoorRoundsLaw" 102 D_keep.1), (1148, Cond.methodLink "DoorRoundsLaw" 105 m_keep.1), (570, Cond.methodLink "DoorRoundsLaw" 106 D_on.1), (1152, Cond.methodLink "DoorRoundsLaw" 109 m_on.1), (574, Cond.methodLink "DoorRoundsLaw" 110 D_beside.1), (1156, Cond.methodLink "DoorRoundsLaw" 113 m_beside.1), (582, Cond.methodLink "DoorRoundsLaw" 114 D_comes.1)]
theorem lq_2 : lqL_2.all lw_ck = true := by decide +kernel
noncomputable def lqL_3 : List (Nat × Cond) := [(1160, Cond.methodLink "DoorRoundsLaw" 117 m_comes.1), (586, Cond.methodLink "DoorRoundsLaw" 118 D_meets.1), (1164, Cond.methodLink "DoorRoundsLaw" 121 m_meets.1), (600, Cond.methodLink "DoorRoundsLaw" 122 D_never.1), (1176, Cond.methodLink "DoorRoundsLaw" 125 m_never.1), (609, Cond.methodLink "DoorRoundsLaw" 126 D_walk.1), (1180, Cond.methodLink "DoorRoundsLaw" 129 m_walk.1), (613, Cond.methodLink "DoorRoundsLaw" 130 D_round.1), (1188, Cond.methodLink "DoorRoundsLaw" 133 m_round.1), (627, Cond.methodLink "DoorRoundsLaw" 134 D_best.1), (1200, Cond.methodLink "DoorRoundsLaw" 137 m_best.1), (631, Cond.methodLink "DoorRoundsLaw" 138 D_errands.1), (1205, Cond.methodLink "DoorRoundsLaw" 142 m_errands.1), (676, Cond.methodLink "DoorRoundsLaw" 143 D_agree.1), (1217, Cond.methodLink "DoorRoundsLaw" 146 m_agree.1), (680, Cond.methodLink "DoorRoundsLaw" 147 D_joins.1), (1221, Cond.methodLink "DoorRoundsLaw" 150 m_joins.1), (688, Cond.methodLink "DoorRoundsLaw" 151 D_quiet.1), (1229, Cond.methodLink "DoorRoundsLaw" 154 m_quiet.1), (695, Cond.methodLink "DoorRoundsLaw" 155 D_busy.1), (1233, Cond.methodLink "DoorRoundsLaw" 158 m_busy.1), (699, Cond.methodLink "DoorRoundsLaw" 159 D_note.1), (1240, Cond.methodLink "DoorRoundsLaw" 162 m_note.1), (707, Cond.methodLink "DoorRoundsLaw" 163 D_back.1), (1244, Cond.methodLink "DoorRoundsLaw" 166 m_back.1), (711, Cond.methodLink "DoorRoundsLaw" 167 D_steps.1), (1248, Cond.methodLink "DoorRoundsLaw" 170 m_steps.1), (722, Cond.methodLink "DoorRoundsLaw" 171 D_kinds.1), (1256, Cond.methodLink "DoorRoundsLaw" 174 m_kinds.1), (726, Cond.methodLink "DoorRoundsLaw" 175 D_rent.1), (1260, Cond.methodLink "DoorRoundsLaw" 178 m_rent.1), (741, Cond.methodLink "DoorRoundsLaw" 179 D_dearest.1), (1272, Cond.methodLink "DoorRoundsLaw" 182 m_dearest.1), (750, Cond.methodLink "DoorRoundsLaw" 183 D_mends.1), (1280, Cond.methodLink "DoorRoundsLaw" 186 m_mends.1), (754, Cond.methodLink "DoorRoundsLaw" 187 D_worst.1), (1292, Cond.methodLink "DoorRoundsLaw" 190 m_worst.1), (758, Cond.methodLink "DoorRoundsLaw" 191 D_image.1), (1296, Cond.methodLink "DoorRoundsLaw" 194 m_image.1), (762, Cond.methodLink "DoorRoundsLaw" 195 D_gone.1), (1300, Cond.methodLink "DoorRoundsLaw" 198 m_gone.1), (775, Cond.methodLink "DoorRoundsLaw" 199 D_asked.1), (1308, Cond.methodLink "DoorRoundsLaw" 202 m_asked.1), (779, Cond.methodLink "DoorRoundsLaw" 203 D_upper.1), (1312, Cond.methodLink "DoorRoundsLaw" 207 m_upper.1), (783, Cond.methodLink "DoorRoundsLaw" 208 D_lower.1), (1316, Cond.methodLink "DoorRoundsLaw" 211 m_lower.1), (787, Cond.methodLink "DoorRoundsLaw" 212 D_count.1), (1320, Cond.methodLink "DoorRoundsLaw" 215 m_count.1), (803, Cond.methodLink "DoorRoundsLaw" 216 D_finding.1), (1328, Cond.methodLink "DoorRoundsLaw" 219 m_finding.1), (807, Cond.methodLink "DoorRoundsLaw" 220 D_findings.1), (1332, Cond.methodLink "DoorRoundsLaw" 223 m_findings.1), (811, Cond.methodLink "DoorRoundsLaw" 224 D_digest.1), (1336, Cond.methodLink "DoorRoundsLaw" 227 m_digest.1), (832, Cond.methodLink "DoorRoundsModel" 1 Lib.objectInit), (940, Cond.methodLink "DoorRoundsModel" 78 m_in.1), (937, Cond.methodLink "DoorRoundsModel" 82 m_isRow.1), (943, Cond.methodLink "DoorRoundsModel" 86 m_meet.1), (988, Cond.methodLink "DoorRoundsModel" 90 m_isText.1)]
theorem lq_3 : lqL_3.all lw_ck = true := by decide +kernel
noncomputable def lqL_4 : List (Nat × Cond) := [(947, Cond.methodLink "DoorRoundsModel" 93 m_setRow.1), (955, Cond.methodLink "DoorRoundsModel" 97 m_askedRow.1), (959, Cond.methodLink "DoorRoundsModel" 100 m_rowAt.1), (963, Cond.methodLink "DoorRoundsModel" 104 m_ask.1), (971, Cond.methodLink "DoorRoundsModel" 107 m_at.1), (995, Cond.methodLink "DoorRoundsModel" 110 m_askedText.1), (1007, Cond.methodLink "DoorRoundsModel" 116 m_here.1), (1027, Cond.methodLink "DoorRoundsModel" 125 m_kindOf.1), (1019, Cond.methodLink "DoorRoundsModel" 131 m_readsNumber.1), (1030, Cond.methodLink "DoorRoundsModel" 134 m_isTold.1), (1015, Cond.methodLink "DoorRoundsModel" 137 m_sees.1), (1034, Cond.methodLink "DoorRoundsModel" 141 m_readsFigure.1), (1011, Cond.methodLink "DoorRoundsModel" 144 m_readsDoors.1), (1023, Cond.methodLink "DoorRoundsModel" 147 m_readsShop.1), (1003, Cond.methodLink "DoorRoundsModel" 150 m_goesOn.1), (1042, Cond.methodLink "DoorRoundsModel" 159 m_tell.1), (1050, Cond.methodLink "DoorRoundsModel" 171 m_isShop.1), (1054, Cond.methodLink "DoorRoundsModel" 174 m_aboutOf.1), (1078, Cond.methodLink "DoorRoundsModel" 177 m_goingBy.1), (1070, Cond.methodLink "DoorRoundsModel" 181 m_doorAt.1), (1062, Cond.methodLink "DoorRoundsModel" 185 m_isSleeper.1), (1066, Cond.methodLink "DoorRoundsModel" 188 m_areBeside.1), (1074, Cond.methodLink "DoorRoundsModel" 191 m_going.1), (1085, Cond.methodLink "DoorRoundsModel" 194 m_isDoor.1), (1089, Cond.methodLink "DoorRoundsModel" 197 m_shutMany.1), (1110, Cond.methodLink "DoorRoundsModel" 201 m_taker.1), (1102, Cond.methodLink "DoorRoundsModel" 205 m_fromNow.1), (1106, Cond.methodLink "DoorRoundsModel" 208 m_passOne.1), (1118, Cond.methodLink "DoorRoundsModel" 212 m_row.1), (1140, Cond.methodLink "DoorRoundsModel" 217 m_ways.1), (1136, Cond.methodLink "DoorRoundsModel" 222 m_plainBy.1), (1168, Cond.methodLink "DoorRoundsModel" 226 m_isPair.1), (1172, Cond.methodLink "DoorRoundsModel" 229 m_divisor.1), (1184, Cond.methodLink "DoorRoundsModel" 232 m_walkOf.1), (1192, Cond.methodLink "DoorRoundsModel" 235 m_isSet.1), (1196, Cond.methodLink "DoorRoundsModel" 238 m_roundOf.1), (1213, Cond.methodLink "DoorRoundsModel" 242 m_mayIn.1), (1209, Cond.methodLink "DoorRoundsModel" 245 m_leastFor.1), (1225, Cond.methodLink "DoorRoundsModel" 248 m_joinsOf.1), (1237, Cond.methodLink "DoorRoundsModel" 251 m_sizeOf.1), (1252, Cond.methodLink "DoorRoundsModel" 254 m_fits.1), (1264, Cond.methodLink "DoorRoundsModel" 258 m_askedRents.1), (1268, Cond.methodLink "DoorRoundsModel" 261 m_setRents.1), (1276, Cond.methodLink "DoorRoundsModel" 264 m_part.1), (1284, Cond.methodLink "DoorRoundsModel" 271 m_setPlans.1), (1288, Cond.methodLink "DoorRoundsModel" 275 m_othersBy.1), (1304, Cond.methodLink "DoorRoundsModel" 278 m_isImage.1), (1324, Cond.methodLink "DoorRoundsModel" 281 m_counts.1), (1341, Cond.methodLink "DoorRoundsModel" 289 m_mix.1), (1346, Cond.methodLink "DoorRoundsModel" 294 m_mixSquare.1), (181, Cond.fieldLink "DoorRounds" 11 "DoorRounds" "rows" "[LDoorRounds$Strip;"), (182, Cond.fieldLink "DoorRounds" 15 "DoorRounds" "texts" "[LDoorRounds$Strip;"), (183, Cond.fieldLink "DoorRounds" 21 "DoorRounds" "noStrip" "LDoorRounds$Strip;"), (184, Cond.fieldLink "DoorRounds" 28 "DoorRounds" "now" "LDoorRounds$Standing;"), (185, Cond.fieldLink "DoorRounds" 32 "DoorRounds" "kept" "[LDoorRounds$Standing;"), (186, Cond.fieldLink "DoorRounds" 36 "DoorRounds" "ahead" "LDoorRounds$Standing;"), (187, Cond.fieldLink "DoorRounds" 39 "DoorRounds" "mended" "LDoorRounds$Standing;"), (188, Cond.fieldLink "DoorRounds" 45 "DoorRounds" "diary" "LDoorRounds$Diary;"), (189, Cond.fieldLink "DoorRounds" 52 "DoorRounds" "trips" "LDoorRounds$Errands;"), (190, Cond.fieldLink "DoorRounds" 56 "DoorRounds" "findingCounts" "[I")]
theorem lq_4 : lqL_4.all lw_ck = true := by decide +kernel
noncomputable def lqL_5 : List (Nat × Cond) := [(191, Cond.fieldLink "DoorRounds" 63 "DoorRounds" "plan" "LDoorRounds$Plan;"), (192, Cond.fieldLink "DoorRounds" 67 "DoorRounds" "draft" "LDoorRounds$Plan;"), (193, Cond.fieldLink "DoorRounds" 70 "DoorRounds" "asked" "I"), (194, Cond.fieldLink "DoorRounds" 74 "DoorRounds" "upper" "J"), (195, Cond.fieldLink "DoorRounds" 78 "DoorRounds" "lower" "J"), (196, Cond.fieldLink "DoorRounds" 81 "DoorRounds" "finding" "I"), (50, Cond.fieldLink "DoorRounds" 84 "DoorRounds$Standing" "week" "I"), (36, Cond.fieldLink "DoorRounds" 121 "DoorRounds$Strip" "size" "I"), (33, Cond.fieldLink "DoorRounds" 128 "DoorRounds$Strip" "places" "[I"), (69, Cond.fieldLink "DoorRounds" 158 "DoorRounds$Diary" "size" "I"), (162, Cond.fieldLink "DoorRounds" 163 "DoorRounds$Plan" "size" "I"), (124, Cond.fieldLink "DoorRounds" 191 "DoorRounds$Shop" "k" "I"), (52, Cond.fieldLink "DoorRounds" 208 "DoorRounds$Standing" "shut" "I"), (119, Cond.fieldLink "DoorRounds" 246 "DoorRounds$Shop" "step" "I"), (159, Cond.fieldLink "DoorRounds" 252 "DoorRounds$Plan" "doors" "I"), (111, Cond.fieldLink "DoorRounds" 298 "DoorRounds$Shop" "kind" "I"), (122, Cond.fieldLink "DoorRounds" 347 "DoorRounds$Shop" "age" "I"), (116, Cond.fieldLink "DoorRounds" 350 "DoorRounds$Shop" "firstDoor" "I"), (68, Cond.fieldLink "DoorRounds$Diary" 9 "DoorRounds$Diary" "size" "I"), (70, Cond.fieldLink "DoorRounds$Diary" 15 "DoorRounds$Diary" "weeks" "[I"), (71, Cond.fieldLink "DoorRounds$Diary" 19 "DoorRounds$Diary" "shops" "[I"), (72, Cond.fieldLink "DoorRounds$Diary" 22 "DoorRounds$Diary" "doors" "[I"), (114, Cond.fieldLink "DoorRounds$Diary" 31 "DoorRounds$Shop" "firstDoor" "I"), (88, Cond.fieldLink "DoorRounds$Errands" 11 "DoorRounds$Errands" "together" "[J"), (89, Cond.fieldLink "DoorRounds$Errands" 15 "DoorRounds$Errands" "shared" "[J"), (157, Cond.fieldLink "DoorRounds$Plan" 9 "DoorRounds$Plan" "doors" "I"), (160, Cond.fieldLink "DoorRounds$Plan" 15 "DoorRounds$Plan" "size" "I"), (163, Cond.fieldLink "DoorRounds$Plan" 20 "DoorRounds$Plan" "shops" "[LDoorRounds$Shop;"), (164, Cond.fieldLink "DoorRounds$Plan" 25 "DoorRounds$Plan" "noShop" "LDoorRounds$Shop;"), (165, Cond.fieldLink "DoorRounds$Plan" 29 "DoorRounds$Plan" "order" "[I"), (167, Cond.fieldLink "DoorRounds$Plan" 36 "DoorRounds$Plan" "reader" "LDoorRounds$Reader;"), (115, Cond.fieldLink "DoorRounds$Plan" 72 "DoorRounds$Shop" "firstDoor" "I"), (147, Cond.fieldLink "DoorRounds$Plan" 89 "DoorRounds$Reader" "place" "I"), (149, Cond.fieldLink "DoorRounds$Plan" 92 "DoorRounds$Reader" "number" "I"), (110, Cond.fieldLink "DoorRounds$Plan" 106 "DoorRounds$Shop" "kind" "I"), (118, Cond.fieldLink "DoorRounds$Plan" 115 "DoorRounds$Shop" "step" "I"), (121, Cond.fieldLink "DoorRounds$Plan" 118 "DoorRounds$Shop" "age" "I"), (125, Cond.fieldLink "DoorRounds$Plan" 121 "DoorRounds$Shop" "k" "I"), (145, Cond.fieldLink "DoorRounds$Reader" 14 "DoorRounds$Reader" "text" "LDoorRounds$Strip;"), (146, Cond.fieldLink "DoorRounds$Reader" 20 "DoorRounds$Reader" "place" "I"), (148, Cond.fieldLink "DoorRounds$Reader" 24 "DoorRounds$Reader" "number" "I"), (35, Cond.fieldLink "DoorRounds$Reader" 27 "DoorRounds$Strip" "size" "I"), (109, Cond.fieldLink "DoorRounds$Shop" 9 "DoorRounds$Shop" "kind" "I"), (112, Cond.fieldLink "DoorRounds$Shop" 15 "DoorRounds$Shop" "firstDoor" "I"), (117, Cond.fieldLink "DoorRounds$Shop" 18 "DoorRounds$Shop" "step" "I"), (120, Cond.fieldLink "DoorRounds$Shop" 21 "DoorRounds$Shop" "age" "I"), (123, Cond.fieldLink "DoorRounds$Shop" 24 "DoorRounds$Shop" "k" "I"), (49, Cond.fieldLink "DoorRounds$Standing" 9 "DoorRounds$Standing" "week" "I"), (51, Cond.fieldLink "DoorRounds$Standing" 15 "DoorRounds$Standing" "shut" "I"), (53, Cond.fieldLink "DoorRounds$Standing" 18 "DoorRounds$Standing" "doors" "[I"), (161, Cond.fieldLink "DoorRounds$Standing" 22 "DoorRounds$Plan" "size" "I"), (113, Cond.fieldLink "DoorRounds$Standing" 31 "DoorRounds$Shop" "firstDoor" "I"), (166, Cond.fieldLink "DoorRounds$Standing" 70 "DoorRounds$Plan" "order" "[I"), (158, Cond.fieldLink "DoorRounds$Standing" 73 "DoorRounds$Plan" "doors" "I"), (34, Cond.fieldLink "DoorRounds$Strip" 9 "DoorRounds$Strip" "size" "I"), (32, Cond.fieldLink "DoorRounds$Strip" 21 "DoorRounds$Strip" "places" "[I"), (834, Cond.fieldLink "DoorRoundsModel" 7 "DoorRoundsModel" "findings" "[I"), (837, Cond.fieldLink "DoorRoundsModel" 13 "DoorRoundsModel" "lower" "J"), (838, Cond.fieldLink "DoorRoundsModel" 17 "DoorRoundsModel" "sizes" "[I"), (839, Cond.fieldLink "DoorRoundsModel" 20 "DoorRoundsModel" "rows" "[I")]
theorem lq_5 : lqL_5.all lw_ck = true := by decide +kernel
noncomputable def lqL_6 : List (Nat × Cond) := [(840, Cond.fieldLink "DoorRoundsModel" 23 "DoorRoundsModel" "moving" "[I"), (841, Cond.fieldLink "DoorRoundsModel" 26 "DoorRoundsModel" "lengths" "[I"), (842, Cond.fieldLink "DoorRoundsModel" 29 "DoorRoundsModel" "texts" "[I"), (845, Cond.fieldLink "DoorRoundsModel" 32 "DoorRoundsModel" "shops" "[I"), (850, Cond.fieldLink "DoorRoundsModel" 35 "DoorRoundsModel" "doors" "[I"), (853, Cond.fieldLink "DoorRoundsModel" 38 "DoorRoundsModel" "went" "[I"), (854, Cond.fieldLink "DoorRoundsModel" 41 "DoorRoundsModel" "before" "[I"), (855, Cond.fieldLink "DoorRoundsModel" 44 "DoorRoundsModel" "kept" "[I"), (856, Cond.fieldLink "DoorRoundsModel" 47 "DoorRoundsModel" "rounds" "[I"), (857, Cond.fieldLink "DoorRoundsModel" 50 "DoorRoundsModel" "leasts" "[I"), (858, Cond.fieldLink "DoorRoundsModel" 53 "DoorRoundsModel" "next" "[I"), (859, Cond.fieldLink "DoorRoundsModel" 56 "DoorRoundsModel" "fixedWeeks" "[I"), (860, Cond.fieldLink "DoorRoundsModel" 59 "DoorRoundsModel" "notes" "[I"), (862, Cond.fieldLink "DoorRoundsModel" 62 "DoorRoundsModel" "rents" "[I"), (863, Cond.fieldLink "DoorRoundsModel" 65 "DoorRoundsModel" "plans" "[I"), (833, Cond.fieldLink "DoorRoundsModel" 68 "DoorRoundsModel" "finding" "I"), (835, Cond.fieldLink "DoorRoundsModel" 72 "DoorRoundsModel" "asked" "I"), (836, Cond.fieldLink "DoorRoundsModel" 75 "DoorRoundsModel" "upper" "J"), (846, Cond.fieldLink "DoorRoundsModel" 113 "DoorRoundsModel" "readAt" "I"), (847, Cond.fieldLink "DoorRoundsModel" 119 "DoorRoundsModel" "readNumber" "I"), (849, Cond.fieldLink "DoorRoundsModel" 122 "DoorRoundsModel" "readMany" "I"), (848, Cond.fieldLink "DoorRoundsModel" 128 "DoorRoundsModel" "readDoors" "I"), (843, Cond.fieldLink "DoorRoundsModel" 153 "DoorRoundsModel" "n" "I"), (844, Cond.fieldLink "DoorRoundsModel" 156 "DoorRoundsModel" "many" "I"), (851, Cond.fieldLink "DoorRoundsModel" 162 "DoorRoundsModel" "week" "I"), (852, Cond.fieldLink "DoorRoundsModel" 165 "DoorRoundsModel" "shut" "I"), (861, Cond.fieldLink "DoorRoundsModel" 168 "DoorRoundsModel" "noteMany" "I"), (864, Cond.fieldLink "DoorRoundsModel" 268 "DoorRoundsModel" "firstOther" "I"), (865, Cond.fieldLink "DoorRoundsModel" 286 "DoorRoundsModel" "h0" "J"), (522, Cond.constant "DoorRounds" 212 100000), (556, Cond.constant "DoorRounds" 228 1000000000), (815, Cond.constantLong "DoorRounds" 328 17), (816, Cond.constantLong "DoorRounds" 330 31), (821, Cond.constantLong "DoorRounds$Diary" 44 31), (639, Cond.constantLong "DoorRounds$Errands" 18 1152921504606846976), (826, Cond.constantLong "DoorRounds$Strip" 42 31), (1101, Cond.constant "DoorRoundsModel" 204 100000), (1143, Cond.constantLong "DoorRoundsModel" 215 2), (1135, Cond.constant "DoorRoundsModel" 221 1000000000), (1204, Cond.constant "DoorRoundsModel" 241 16777216), (1345, Cond.constantLong "DoorRoundsModel" 284 31), (1340, Cond.constantLong "DoorRoundsModel" 292 17), (507, Cond.constant "java/lang/Integer" 265 1431655765), (508, Cond.constant "java/lang/Integer" 266 858993459), (509, Cond.constant "java/lang/Integer" 267 252645135), (22, Cond.classLink "DoorRounds" 9 "DoorRounds$Strip"), (43, Cond.classLink "DoorRounds" 25 "DoorRounds$Standing"), (62, Cond.classLink "DoorRounds" 42 "DoorRounds$Diary"), (82, Cond.classLink "DoorRounds" 49 "DoorRounds$Errands"), (96, Cond.classLink "DoorRounds" 60 "DoorRounds$Plan"), (102, Cond.classLink "DoorRounds$Plan" 18 "DoorRounds$Shop"), (137, Cond.classLink "DoorRounds$Plan" 33 "DoorRounds$Reader"), (143, Cond.classLink "DoorRounds$Reader" 9 "DoorRounds$Strip"), (14, Cond.classLink "DoorRoundsLaw" 7 "DoorRounds"), (827, Cond.classLink "DoorRoundsLaw" 10 "DoorRoundsModel"), (63, Cond.instantiable "DoorRounds$Diary" 4), (83, Cond.instantiable "DoorRounds$Errands" 2), (97, Cond.instantiable "DoorRounds$Plan" 6), (138, Cond.instantiable "DoorRounds$Reader" 3), (104, Cond.instantiable "DoorRounds$Shop" 5)]
theorem lq_6 : lqL_6.all lw_ck = true := by decide +kernel
noncomputable def lqL_7 : List (Nat × Cond) := [(44, Cond.instantiable "DoorRounds$Standing" 3), (24, Cond.instantiable "DoorRounds$Strip" 2), (15, Cond.instantiable "DoorRounds" 16), (828, Cond.instantiable "DoorRoundsModel" 33)]
theorem lq_7 : lqL_7.all lw_ck = true := by decide +kernel
theorem ko_D_1 : Cond.methodLink "DoorRounds" 1 Lib.objectInit ∈ lw_g := lw_bt lq_0 (j := 0) (i := 19) rfl
theorem k_D_18 : LK "DoorRounds" 18 Sp_init := Or.inl (lw_bt lq_0 (j := 1) (i := 25) rfl)
theorem k_D_27 : LK "DoorRounds" 27 Sn_init := Or.inr ⟨"DoorRounds", by decide +kernel⟩
theorem k_D_44 : LK "DoorRounds" 44 Di_init := Or.inr ⟨"DoorRounds", by decide +kernel⟩
theorem k_D_51 : LK "DoorRounds" 51 Er_init := Or.inr ⟨"DoorRounds", by decide +kernel⟩
theorem k_D_62 : LK "DoorRounds" 62 Pl_init := Or.inl (lw_bt lq_0 (j := 2) (i := 98) rfl)
theorem k_D_87 : LK "DoorRounds" 87 D_isRow := Or.inl (lw_bt lq_0 (j := 3) (i := 234) rfl)
theorem k_D_91 : LK "DoorRounds" 91 D_found := Or.inl (lw_bt lq_0 (j := 4) (i := 237) rfl)
theorem k_D_95 : LK "DoorRounds" 95 D_rowOf := Or.inl (lw_bt lq_0 (j := 5) (i := 241) rfl)
theorem k_D_99 : LK "DoorRounds" 99 Sp_renew := Or.inl (lw_bt lq_0 (j := 6) (i := 245) rfl)
theorem k_D_103 : LK "DoorRounds" 103 D_placeFinding := Or.inl (lw_bt lq_0 (j := 7) (i := 259) rfl)
theorem k_D_107 : LK "DoorRounds" 107 Sp_get := Or.inl (lw_bt lq_0 (j := 8) (i := 270) rfl)
theorem k_D_110 : LK "DoorRounds" 110 Sp_set := Or.inl (lw_bt lq_0 (j := 9) (i := 275) rfl)
theorem k_D_113 : LK "DoorRounds" 113 D_tell := Or.inl (lw_bt lq_0 (j := 10) (i := 279) rfl)
theorem k_D_117 : LK "DoorRounds" 117 Sp_isThere := Or.inl (lw_bt lq_0 (j := 11) (i := 262) rfl)
theorem k_D_124 : LK "DoorRounds" 124 Sp_holds := Or.inl (lw_bt lq_0 (j := 12) (i := 295) rfl)
theorem kc_D_131 : Cond.methodLink "DoorRounds" 131 arraycopyName ∈ lw_g := lw_bt lq_0 (j := 13) (i := 299) rfl
theorem k_D_137 : LK "DoorRounds" 137 Sp_sum := Or.inl (lw_bt lq_0 (j := 14) (i := 306) rfl)
theorem k_D_141 : LK "DoorRounds" 141 D_isText := Or.inl (lw_bt lq_0 (j := 15) (i := 315) rfl)
theorem k_D_144 : LK "DoorRounds" 144 D_textOf := Or.inl (lw_bt lq_0 (j := 16) (i := 318) rfl)
theorem k_D_147 : LK "DoorRounds" 147 Pl_read := Or.inl (lw_bt lq_0 (j := 17) (i := 330) rfl)
theorem k_D_151 : LK "DoorRounds" 151 Pl_rank := Or.inl (lw_bt lq_0 (j := 18) (i := 391) rfl)
theorem k_D_154 : LK "DoorRounds" 154 Sn_begin := Or.inl (lw_bt lq_0 (j := 19) (i := 399) rfl)
theorem k_D_159 : LK "DoorRounds" 159 D_keptOf := Or.inl (lw_bt lq_0 (j := 20) (i := 408) rfl)
theorem k_D_164 : LK "DoorRounds" 164 Pl_hasShop := Or.inl (lw_bt lq_0 (j := 21) (i := 419) rfl)
theorem k_D_167 : LK "DoorRounds" 167 D_trait := Or.inl (lw_bt lq_0 (j := 22) (i := 420) rfl)
theorem k_D_170 : LK "DoorRounds" 170 Pl_shopOf := Or.inl (lw_bt lq_0 (j := 23) (i := 424) rfl)
theorem k_D_174 : LK "DoorRounds" 174 Sh_isOf := Or.inl (lw_bt lq_0 (j := 24) (i := 433) rfl)
theorem k_D_179 : LK "DoorRounds" 179 D_neighbours := Or.inl (lw_bt lq_0 (j := 25) (i := 437) rfl)
theorem k_D_182 : LK "DoorRounds" 182 D_rivals := Or.inl (lw_bt lq_0 (j := 26) (i := 453) rfl)
theorem k_D_185 : LK "DoorRounds" 185 Sh_weeksToSleep := Or.inl (lw_bt lq_0 (j := 27) (i := 470) rfl)
theorem k_D_188 : LK "DoorRounds" 188 Sh_weeksToTurn := Or.inl (lw_bt lq_0 (j := 28) (i := 474) rfl)
theorem k_D_194 : LK "DoorRounds" 194 Sh_way := Or.inl (lw_bt lq_0 (j := 29) (i := 478) rfl)
theorem k_D_198 : LK "DoorRounds" 198 Pl_hasDoor := Or.inl (lw_bt lq_0 (j := 30) (i := 489) rfl)
theorem k_D_201 : LK "DoorRounds" 201 Sn_isShut := Or.inl (lw_bt lq_0 (j := 31) (i := 493) rfl)
theorem k_D_204 : LK "DoorRounds" 204 Sn_shutCount := Or.inl (lw_bt lq_0 (j := 32) (i := 500) rfl)
theorem k_D_211 : LK "DoorRounds" 211 Pl_isThere := Or.inl (lw_bt lq_0 (j := 33) (i := 518) rfl)
theorem k_D_213 : LK "DoorRounds" 213 Sn_pass := Or.inl (lw_bt lq_0 (j := 34) (i := 523) rfl)
theorem k_D_217 : LK "DoorRounds" 217 Sn_doorOf := Or.inl (lw_bt lq_0 (j := 35) (i := 425) rfl)
theorem k_D_220 : LK "DoorRounds" 220 Sn_become := Or.inl (lw_bt lq_0 (j := 36) (i := 543) rfl)
theorem k_D_224 : LK "DoorRounds" 224 Sn_wanted := Or.inl (lw_bt lq_0 (j := 37) (i := 457) rfl)
theorem k_D_229 : LK "DoorRounds" 229 Pl_wrapped := Or.inl (lw_bt lq_0 (j := 38) (i := 557) rfl)
theorem k_D_233 : LK "DoorRounds" 233 Sn_differing := Or.inl (lw_bt lq_0 (j := 39) (i := 562) rfl)
theorem k_D_237 : LK "DoorRounds" 237 D_isKeptPlace := Or.inl (lw_bt lq_0 (j := 40) (i := 412) rfl)
theorem k_D_240 : LK "DoorRounds" 240 D_areTwo := Or.inl (lw_bt lq_0 (j := 41) (i := 578) rfl)
theorem k_D_243 : LK "DoorRounds" 243 Pl_walking := Or.inl (lw_bt lq_0 (j := 42) (i := 441) rfl)
theorem k_D_249 : LK "DoorRounds" 249 Pl_commonWith := Or.inl (lw_bt lq_0 (j := 43) (i := 590) rfl)
theorem k_D_255 : LK "DoorRounds" 255 Pl_canMeet := Or.inl (lw_bt lq_0 (j := 44) (i := 604) rfl)
theorem k_D_258 : LK "DoorRounds" 258 Pl_hasSet := Or.inl (lw_bt lq_0 (j := 45) (i := 617) rfl)
theorem k_D_261 : LK "DoorRounds" 261 Sn_roundOf := Or.inl (lw_bt lq_0 (j := 46) (i := 621) rfl)
theorem k_D_265 : LK "DoorRounds" 265 Er_begin := Or.inl (lw_bt lq_0 (j := 47) (i := 635) rfl)
theorem k_D_267 : LK "DoorRounds" 267 Er_look := Or.inl (lw_bt lq_0 (j := 48) (i := 643) rfl)
theorem k_D_271 : LK "DoorRounds" 271 Er_share := Or.inl (lw_bt lq_0 (j := 49) (i := 658) rfl)
theorem k_D_274 : LK "DoorRounds" 274 ji_bitCount := Or.inl (lw_bt lq_0 (j := 50) (i := 666) rfl)
theorem k_D_279 : LK "DoorRounds" 279 D_isIn := Or.inl (lw_bt lq_0 (j := 51) (i := 667) rfl)
theorem k_D_282 : LK "DoorRounds" 282 Er_weekFor := Or.inl (lw_bt lq_0 (j := 52) (i := 668) rfl)
theorem k_D_285 : LK "DoorRounds" 285 Er_walkingFor := Or.inl (lw_bt lq_0 (j := 53) (i := 672) rfl)
theorem k_D_288 : LK "DoorRounds" 288 D_metBy := Or.inl (lw_bt lq_0 (j := 54) (i := 684) rfl)
theorem k_D_291 : LK "DoorRounds" 291 D_pairCode := Or.inl (lw_bt lq_0 (j := 55) (i := 692) rfl)
theorem k_D_294 : LK "DoorRounds" 294 Di_write := Or.inl (lw_bt lq_0 (j := 56) (i := 703) rfl)
theorem k_D_301 : LK "DoorRounds" 301 Di_fits := Or.inl (lw_bt lq_0 (j := 57) (i := 715) rfl)
theorem k_D_305 : LK "DoorRounds" 305 D_isLook := Or.inl (lw_bt lq_0 (j := 58) (i := 730) rfl)
theorem k_D_308 : LK "DoorRounds" 308 D_passersFinding := Or.inl (lw_bt lq_0 (j := 59) (i := 733) rfl)
theorem k_D_311 : LK "DoorRounds" 311 D_rentOf := Or.inl (lw_bt lq_1 (j := 0) (i := 737) rfl)
theorem k_D_315 : LK "DoorRounds" 315 D_tellFraction := Or.inl (lw_bt lq_1 (j := 1) (i := 745) rfl)
theorem k_D_319 : LK "DoorRounds" 319 D_imageFinding := Or.inl (lw_bt lq_1 (j := 2) (i := 766) rfl)
theorem k_D_322 : LK "DoorRounds" 322 Sn_setDoor := Or.inl (lw_bt lq_1 (j := 3) (i := 774) rfl)
theorem k_D_325 : LK "DoorRounds" 325 D_countOf := Or.inl (lw_bt lq_1 (j := 4) (i := 791) rfl)
theorem k_D_332 : LK "DoorRounds" 332 Di_mixedInto := Or.inl (lw_bt lq_1 (j := 5) (i := 817) rfl)
theorem k_D_336 : LK "DoorRounds" 336 Sp_mixedInto := Or.inl (lw_bt lq_1 (j := 6) (i := 822) rfl)
theorem k_D_337 : LK "DoorRounds" 337 D_greatestCommon := Or.inl (lw_bt lq_1 (j := 7) (i := 749) rfl)
theorem k_D_341 : LK "DoorRounds" 341 Sp_has := Or.inl (lw_bt lq_1 (j := 8) (i := 266) rfl)
theorem k_D_344 : LK "DoorRounds" 344 Pl_hasDoorSet := Or.inl (lw_bt lq_1 (j := 9) (i := 770) rfl)
theorem k_D_353 : LK "DoorRounds" 353 Pl_sleepers := Or.inl (lw_bt lq_1 (j := 10) (i := 795) rfl)
theorem k_D_356 : LK "DoorRounds" 356 D_countThere := Or.inl (lw_bt lq_1 (j := 11) (i := 800) rfl)
theorem km_D_360 : Cond.methodLink "DoorRounds" 360 Lib.MathLoose.abs_long.x ∈ lw_g := lw_bt lq_1 (j := 12) (i := 597) rfl
theorem ko_Di_3 : Cond.methodLink "DoorRounds$Diary" 3 Lib.objectInit ∈ lw_g := lw_bt lq_1 (j := 13) (i := 67) rfl
theorem k_Di_25 : LK "DoorRounds$Diary" 25 Pl_shopOf := Or.inl (lw_bt lq_1 (j := 14) (i := 719) rfl)
theorem k_Di_36 : LK "DoorRounds$Diary" 36 Sh_wayOf := Or.inl (lw_bt lq_1 (j := 15) (i := 720) rfl)
theorem k_Di_40 : LK "DoorRounds$Diary" 40 Pl_wrapped := Or.inl (lw_bt lq_1 (j := 16) (i := 721) rfl)
theorem ko_Er_5 : Cond.methodLink "DoorRounds$Errands" 5 Lib.objectInit ∈ lw_g := lw_bt lq_1 (j := 17) (i := 87) rfl
theorem k_Er_20 : LK "DoorRounds$Errands" 20 ja_fillJ := Or.inl (lw_bt lq_1 (j := 18) (i := 640) rfl)
theorem k_Er_26 : LK "DoorRounds$Errands" 26 Sn_roundOf := Or.inl (lw_bt lq_1 (j := 19) (i := 647) rfl)
theorem k_Er_32 : LK "DoorRounds$Errands" 32 Er_weeksCode := Or.inl (lw_bt lq_1 (j := 20) (i := 648) rfl)
theorem km_Er_36 : Cond.methodLink "DoorRounds$Errands" 36 Lib.MathLoose.min_long.x ∈ lw_g := lw_bt lq_1 (j := 21) (i := 655) rfl
theorem k_Er_42 : LK "DoorRounds$Errands" 42 D_isIn := Or.inr ⟨"DoorRounds", by decide +kernel⟩
theorem k_Er_46 : LK "DoorRounds$Errands" 46 Er_shiftOf := Or.inl (lw_bt lq_1 (j := 22) (i := 652) rfl)
theorem k_Er_50 : LK "DoorRounds$Errands" 50 Er_leastOf := Or.inl (lw_bt lq_1 (j := 23) (i := 662) rfl)
theorem ko_Pl_3 : Cond.methodLink "DoorRounds$Plan" 3 Lib.objectInit ∈ lw_g := lw_bt lq_1 (j := 24) (i := 101) rfl
theorem k_Pl_24 : LK "DoorRounds$Plan" 24 Sh_init := Or.inr ⟨"DoorRounds", by decide +kernel⟩
theorem k_Pl_35 : LK "DoorRounds$Plan" 35 Rd_init := Or.inr ⟨"DoorRounds", by decide +kernel⟩
theorem k_Pl_40 : LK "DoorRounds$Plan" 40 Pl_hasShop := Or.inl (lw_bt lq_1 (j := 25) (i := 378) rfl)
theorem k_Pl_44 : LK "DoorRounds$Plan" 44 Pl_shopOf := Or.inl (lw_bt lq_1 (j := 26) (i := 374) rfl)
theorem k_Pl_48 : LK "DoorRounds$Plan" 48 Sh_isOf := Or.inl (lw_bt lq_1 (j := 27) (i := 799) rfl)
theorem km_Pl_51 : Cond.methodLink "DoorRounds$Plan" 51 fm_x ∈ lw_g := lw_bt lq_1 (j := 28) (i := 449) rfl
theorem k_Pl_57 : LK "DoorRounds$Plan" 57 Pl_wrapped := Or.inl (lw_bt lq_1 (j := 29) (i := 445) rfl)
theorem km_Pl_61 : Cond.methodLink "DoorRounds$Plan" 61 Lib.Math.min.name ∈ lw_g := lw_bt lq_1 (j := 30) (i := 452) rfl
theorem k_Pl_65 : LK "DoorRounds$Plan" 65 D_greatestCommon := Or.inr ⟨"DoorRounds", by decide +kernel⟩
theorem k_Pl_68 : LK "DoorRounds$Plan" 68 Pl_commonWith := Or.inl (lw_bt lq_1 (j := 31) (i := 608) rfl)
theorem k_Pl_75 : LK "DoorRounds$Plan" 75 Rd_begin := Or.inl (lw_bt lq_1 (j := 32) (i := 334) rfl)
theorem k_Pl_79 : LK "DoorRounds$Plan" 79 Rd_skipBlanks := Or.inl (lw_bt lq_1 (j := 33) (i := 338) rfl)
theorem k_Pl_82 : LK "DoorRounds$Plan" 82 Rd_passes := Or.inl (lw_bt lq_1 (j := 34) (i := 343) rfl)
theorem k_Pl_85 : LK "DoorRounds$Plan" 85 Rd_readNumber := Or.inl (lw_bt lq_1 (j := 35) (i := 351) rfl)
theorem k_Pl_95 : LK "DoorRounds$Plan" 95 Rd_isAtEnd := Or.inl (lw_bt lq_1 (j := 36) (i := 358) rfl)
theorem k_Pl_99 : LK "DoorRounds$Plan" 99 Pl_readShop := Or.inl (lw_bt lq_1 (j := 37) (i := 359) rfl)
theorem k_Pl_103 : LK "DoorRounds$Plan" 103 Rd_readKind := Or.inl (lw_bt lq_1 (j := 38) (i := 363) rfl)
theorem k_Pl_109 : LK "DoorRounds$Plan" 109 Pl_isFirstDoor := Or.inl (lw_bt lq_1 (j := 39) (i := 370) rfl)
theorem k_Pl_112 : LK "DoorRounds$Plan" 112 Rd_readStep := Or.inl (lw_bt lq_1 (j := 40) (i := 382) rfl)
theorem k_Pl_124 : LK "DoorRounds$Plan" 124 Pl_isAhead := Or.inl (lw_bt lq_1 (j := 41) (i := 395) rfl)
theorem ko_Rd_3 : Cond.methodLink "DoorRounds$Reader" 3 Lib.objectInit ∈ lw_g := lw_bt lq_1 (j := 42) (i := 142) rfl
theorem k_Rd_11 : LK "DoorRounds$Reader" 11 Sp_init := Or.inl (lw_bt lq_1 (j := 43) (i := 144) rfl)
theorem k_Rd_30 : LK "DoorRounds$Reader" 30 Sp_get := Or.inl (lw_bt lq_1 (j := 44) (i := 342) rfl)
theorem k_Rd_34 : LK "DoorRounds$Reader" 34 Rd_isAtEnd := Or.inl (lw_bt lq_1 (j := 45) (i := 347) rfl)
theorem k_Rd_38 : LK "DoorRounds$Reader" 38 Rd_isFigure := Or.inl (lw_bt lq_1 (j := 46) (i := 355) rfl)
theorem k_Rd_46 : LK "DoorRounds$Reader" 46 Rd_passes := Or.inl (lw_bt lq_1 (j := 47) (i := 369) rfl)
theorem k_Rd_49 : LK "DoorRounds$Reader" 49 Rd_readNumber := Or.inl (lw_bt lq_1 (j := 48) (i := 386) rfl)
theorem ko_Sh_3 : Cond.methodLink "DoorRounds$Shop" 3 Lib.objectInit ∈ lw_g := lw_bt lq_1 (j := 49) (i := 108) rfl
theorem k_Sh_27 : LK "DoorRounds$Shop" 27 Sh_going := Or.inl (lw_bt lq_1 (j := 50) (i := 466) rfl)
theorem k_Sh_31 : LK "DoorRounds$Shop" 31 Sh_wayOf := Or.inl (lw_bt lq_1 (j := 51) (i := 482) rfl)
theorem ko_Sn_3 : Cond.methodLink "DoorRounds$Standing" 3 Lib.objectInit ∈ lw_g := lw_bt lq_1 (j := 52) (i := 48) rfl
theorem k_Sn_27 : LK "DoorRounds$Standing" 27 Pl_shopOf := Or.inl (lw_bt lq_1 (j := 53) (i := 403) rfl)
theorem k_Sn_36 : LK "DoorRounds$Standing" 36 Sn_setDoor := Or.inl (lw_bt lq_1 (j := 54) (i := 404) rfl)
theorem kc_Sn_40 : Cond.methodLink "DoorRounds$Standing" 40 arraycopyName ∈ lw_g := lw_bt lq_1 (j := 55) (i := 547) rfl
theorem k_Sn_46 : LK "DoorRounds$Standing" 46 D_isIn := Or.inr ⟨"DoorRounds", by decide +kernel⟩
theorem k_Sn_50 : LK "DoorRounds$Standing" 50 ji_bitCount := Or.inl (lw_bt lq_1 (j := 56) (i := 504) rfl)
theorem k_Sn_56 : LK "DoorRounds$Standing" 56 Sn_doorOf := Or.inl (lw_bt lq_1 (j := 57) (i := 461) rfl)
theorem k_Sn_59 : LK "DoorRounds$Standing" 59 Sh_goingIn := Or.inl (lw_bt lq_1 (j := 58) (i := 462) rfl)
theorem k_Sn_62 : LK "DoorRounds$Standing" 62 Pl_wrapped := Or.inl (lw_bt lq_1 (j := 59) (i := 469) rfl)
theorem k_Sn_66 : LK "DoorRounds$Standing" 66 Sn_passOne := Or.inl (lw_bt lq_2 (j := 0) (i := 527) rfl)
theorem km_Sn_75 : Cond.methodLink "DoorRounds$Standing" 75 Lib.Math.max.name ∈ lw_g := lw_bt lq_2 (j := 1) (i := 625) rfl
theorem km_Sn_81 : Cond.methodLink "DoorRounds$Standing" 81 Lib.Math.min.name ∈ lw_g := lw_bt lq_2 (j := 2) (i := 626) rfl
theorem ko_Sp_3 : Cond.methodLink "DoorRounds$Strip" 3 Lib.objectInit ∈ lw_g := lw_bt lq_2 (j := 3) (i := 28) rfl
theorem km_Sp_15 : Cond.methodLink "DoorRounds$Strip" 15 Lib.Math.max.name ∈ lw_g := lw_bt lq_2 (j := 4) (i := 29) rfl
theorem k_Sp_25 : LK "DoorRounds$Strip" 25 Sp_has := Or.inl (lw_bt lq_2 (j := 5) (i := 274) rfl)
theorem km_Sp_29 : Cond.methodLink "DoorRounds$Strip" 29 Lib.Math.min.name ∈ lw_g := lw_bt lq_2 (j := 6) (i := 249) rfl
theorem k_Sp_32 : LK "DoorRounds$Strip" 32 ja_fill := Or.inl (lw_bt lq_2 (j := 7) (i := 252) rfl)
theorem k_Sp_38 : LK "DoorRounds$Strip" 38 Sp_get := Or.inl (lw_bt lq_2 (j := 8) (i := 310) rfl)
theorem k_L_9 : LK "DoorRoundsLaw" 9 D_init := Or.inl (lw_bt lq_2 (j := 9) (i := 16) rfl)
theorem k_L_12 : LK "DoorRoundsLaw" 12 m_init := Or.inl (lw_bt lq_2 (j := 10) (i := 829) rfl)
theorem k_L_13 : LK "DoorRoundsLaw" 13 D_row := Or.inl (lw_bt lq_2 (j := 11) (i := 230) rfl)
theorem k_L_17 : LK "DoorRoundsLaw" 17 m_row := Or.inl (lw_bt lq_2 (j := 12) (i := 933) rfl)
theorem k_L_18 : LK "DoorRoundsLaw" 18 D_lay := Or.inl (lw_bt lq_2 (j := 13) (i := 255) rfl)
theorem k_L_22 : LK "DoorRoundsLaw" 22 m_lay := Or.inl (lw_bt lq_2 (j := 14) (i := 967) rfl)
theorem k_L_23 : LK "DoorRoundsLaw" 23 D_at := Or.inl (lw_bt lq_2 (j := 15) (i := 283) rfl)
theorem k_L_26 : LK "DoorRoundsLaw" 26 m_at := Or.inl (lw_bt lq_2 (j := 16) (i := 951) rfl)
theorem k_L_27 : LK "DoorRoundsLaw" 27 D_tear := Or.inl (lw_bt lq_2 (j := 17) (i := 287) rfl)
theorem k_L_31 : LK "DoorRoundsLaw" 31 m_tear := Or.inl (lw_bt lq_2 (j := 18) (i := 972) rfl)
theorem k_L_32 : LK "DoorRoundsLaw" 32 D_copy := Or.inl (lw_bt lq_2 (j := 19) (i := 291) rfl)
theorem k_L_36 : LK "DoorRoundsLaw" 36 m_copy := Or.inl (lw_bt lq_2 (j := 20) (i := 976) rfl)
theorem k_L_37 : LK "DoorRoundsLaw" 37 D_mean := Or.inl (lw_bt lq_2 (j := 21) (i := 302) rfl)
theorem k_L_40 : LK "DoorRoundsLaw" 40 m_mean := Or.inl (lw_bt lq_2 (j := 22) (i := 980) rfl)
theorem k_L_41 : LK "DoorRoundsLaw" 41 D_text := Or.inl (lw_bt lq_2 (j := 23) (i := 311) rfl)
theorem k_L_44 : LK "DoorRoundsLaw" 44 m_text := Or.inl (lw_bt lq_2 (j := 24) (i := 984) rfl)
theorem k_L_45 : LK "DoorRoundsLaw" 45 D_put := Or.inl (lw_bt lq_2 (j := 25) (i := 322) rfl)
theorem k_L_48 : LK "DoorRoundsLaw" 48 m_put := Or.inl (lw_bt lq_2 (j := 26) (i := 991) rfl)
theorem k_L_49 : LK "DoorRoundsLaw" 49 D_fault := Or.inl (lw_bt lq_2 (j := 27) (i := 326) rfl)
theorem k_L_52 : LK "DoorRoundsLaw" 52 m_fault := Or.inl (lw_bt lq_2 (j := 28) (i := 999) rfl)
theorem k_L_53 : LK "DoorRoundsLaw" 53 D_square := Or.inl (lw_bt lq_2 (j := 29) (i := 387) rfl)
theorem k_L_56 : LK "DoorRoundsLaw" 56 m_square := Or.inl (lw_bt lq_2 (j := 30) (i := 1038) rfl)
theorem k_L_57 : LK "DoorRoundsLaw" 57 D_about := Or.inl (lw_bt lq_2 (j := 31) (i := 415) rfl)
theorem k_L_60 : LK "DoorRoundsLaw" 60 m_about := Or.inl (lw_bt lq_2 (j := 32) (i := 1046) rfl)
theorem k_L_61 : LK "DoorRoundsLaw" 61 D_mark := Or.inl (lw_bt lq_2 (j := 33) (i := 429) rfl)
theorem k_L_64 : LK "DoorRoundsLaw" 64 m_mark := Or.inl (lw_bt lq_2 (j := 34) (i := 1058) rfl)
theorem k_L_65 : LK "DoorRoundsLaw" 65 D_shut := Or.inl (lw_bt lq_2 (j := 35) (i := 485) rfl)
theorem k_L_68 : LK "DoorRoundsLaw" 68 m_shut := Or.inl (lw_bt lq_2 (j := 36) (i := 1081) rfl)
theorem k_L_69 : LK "DoorRoundsLaw" 69 D_open := Or.inl (lw_bt lq_2 (j := 37) (i := 510) rfl)
theorem k_L_72 : LK "DoorRoundsLaw" 72 m_open := Or.inl (lw_bt lq_2 (j := 38) (i := 1093) rfl)
theorem k_L_73 : LK "DoorRoundsLaw" 73 D_go := Or.inl (lw_bt lq_2 (j := 39) (i := 514) rfl)
theorem k_L_76 : LK "DoorRoundsLaw" 76 m_go := Or.inl (lw_bt lq_2 (j := 40) (i := 1097) rfl)
theorem k_L_77 : LK "DoorRoundsLaw" 77 D_doors := Or.inl (lw_bt lq_2 (j := 41) (i := 531) rfl)
theorem k_L_80 : LK "DoorRoundsLaw" 80 m_doors := Or.inl (lw_bt lq_2 (j := 42) (i := 1114) rfl)
theorem k_L_81 : LK "DoorRoundsLaw" 81 D_who := Or.inl (lw_bt lq_2 (j := 43) (i := 535) rfl)
theorem k_L_84 : LK "DoorRoundsLaw" 84 m_who := Or.inl (lw_bt lq_2 (j := 44) (i := 1119) rfl)
theorem k_L_85 : LK "DoorRoundsLaw" 85 D_wants := Or.inl (lw_bt lq_2 (j := 45) (i := 539) rfl)
theorem k_L_88 : LK "DoorRoundsLaw" 88 m_wants := Or.inl (lw_bt lq_2 (j := 46) (i := 1123) rfl)
theorem k_L_89 : LK "DoorRoundsLaw" 89 D_where := Or.inl (lw_bt lq_2 (j := 47) (i := 548) rfl)
theorem k_L_92 : LK "DoorRoundsLaw" 92 m_where := Or.inl (lw_bt lq_2 (j := 48) (i := 1127) rfl)
theorem k_L_93 : LK "DoorRoundsLaw" 93 D_plainly := Or.inl (lw_bt lq_2 (j := 49) (i := 552) rfl)
theorem k_L_96 : LK "DoorRoundsLaw" 96 m_plainly := Or.inl (lw_bt lq_2 (j := 50) (i := 1131) rfl)
theorem k_L_97 : LK "DoorRoundsLaw" 97 D_again := Or.inl (lw_bt lq_2 (j := 51) (i := 558) rfl)
theorem k_L_101 : LK "DoorRoundsLaw" 101 m_again := Or.inl (lw_bt lq_2 (j := 52) (i := 1144) rfl)
theorem k_L_102 : LK "DoorRoundsLaw" 102 D_keep := Or.inl (lw_bt lq_2 (j := 53) (i := 566) rfl)
theorem k_L_105 : LK "DoorRoundsLaw" 105 m_keep := Or.inl (lw_bt lq_2 (j := 54) (i := 1148) rfl)
theorem k_L_106 : LK "DoorRoundsLaw" 106 D_on := Or.inl (lw_bt lq_2 (j := 55) (i := 570) rfl)
theorem k_L_109 : LK "DoorRoundsLaw" 109 m_on := Or.inl (lw_bt lq_2 (j := 56) (i := 1152) rfl)
theorem k_L_110 : LK "DoorRoundsLaw" 110 D_beside := Or.inl (lw_bt lq_2 (j := 57) (i := 574) rfl)
theorem k_L_113 : LK "DoorRoundsLaw" 113 m_beside := Or.inl (lw_bt lq_2 (j := 58) (i := 1156) rfl)
theorem k_L_114 : LK "DoorRoundsLaw" 114 D_comes := Or.inl (lw_bt lq_2 (j := 59) (i := 582) rfl)
theorem k_L_117 : LK "DoorRoundsLaw" 117 m_comes := Or.inl (lw_bt lq_3 (j := 0) (i := 1160) rfl)
theorem k_L_118 : LK "DoorRoundsLaw" 118 D_meets := Or.inl (lw_bt lq_3 (j := 1) (i := 586) rfl)
theorem k_L_121 : LK "DoorRoundsLaw" 121 m_meets := Or.inl (lw_bt lq_3 (j := 2) (i := 1164) rfl)
theorem k_L_122 : LK "DoorRoundsLaw" 122 D_never := Or.inl (lw_bt lq_3 (j := 3) (i := 600) rfl)
theorem k_L_125 : LK "DoorRoundsLaw" 125 m_never := Or.inl (lw_bt lq_3 (j := 4) (i := 1176) rfl)
theorem k_L_126 : LK "DoorRoundsLaw" 126 D_walk := Or.inl (lw_bt lq_3 (j := 5) (i := 609) rfl)
theorem k_L_129 : LK "DoorRoundsLaw" 129 m_walk := Or.inl (lw_bt lq_3 (j := 6) (i := 1180) rfl)
theorem k_L_130 : LK "DoorRoundsLaw" 130 D_round := Or.inl (lw_bt lq_3 (j := 7) (i := 613) rfl)
theorem k_L_133 : LK "DoorRoundsLaw" 133 m_round := Or.inl (lw_bt lq_3 (j := 8) (i := 1188) rfl)
theorem k_L_134 : LK "DoorRoundsLaw" 134 D_best := Or.inl (lw_bt lq_3 (j := 9) (i := 627) rfl)
theorem k_L_137 : LK "DoorRoundsLaw" 137 m_best := Or.inl (lw_bt lq_3 (j := 10) (i := 1200) rfl)
theorem k_L_138 : LK "DoorRoundsLaw" 138 D_errands := Or.inl (lw_bt lq_3 (j := 11) (i := 631) rfl)
theorem k_L_142 : LK "DoorRoundsLaw" 142 m_errands := Or.inl (lw_bt lq_3 (j := 12) (i := 1205) rfl)
theorem k_L_143 : LK "DoorRoundsLaw" 143 D_agree := Or.inl (lw_bt lq_3 (j := 13) (i := 676) rfl)
theorem k_L_146 : LK "DoorRoundsLaw" 146 m_agree := Or.inl (lw_bt lq_3 (j := 14) (i := 1217) rfl)
theorem k_L_147 : LK "DoorRoundsLaw" 147 D_joins := Or.inl (lw_bt lq_3 (j := 15) (i := 680) rfl)
theorem k_L_150 : LK "DoorRoundsLaw" 150 m_joins := Or.inl (lw_bt lq_3 (j := 16) (i := 1221) rfl)
theorem k_L_151 : LK "DoorRoundsLaw" 151 D_quiet := Or.inl (lw_bt lq_3 (j := 17) (i := 688) rfl)
theorem k_L_154 : LK "DoorRoundsLaw" 154 m_quiet := Or.inl (lw_bt lq_3 (j := 18) (i := 1229) rfl)
theorem k_L_155 : LK "DoorRoundsLaw" 155 D_busy := Or.inl (lw_bt lq_3 (j := 19) (i := 695) rfl)
theorem k_L_158 : LK "DoorRoundsLaw" 158 m_busy := Or.inl (lw_bt lq_3 (j := 20) (i := 1233) rfl)
theorem k_L_159 : LK "DoorRoundsLaw" 159 D_note := Or.inl (lw_bt lq_3 (j := 21) (i := 699) rfl)
theorem k_L_162 : LK "DoorRoundsLaw" 162 m_note := Or.inl (lw_bt lq_3 (j := 22) (i := 1240) rfl)
theorem k_L_163 : LK "DoorRoundsLaw" 163 D_back := Or.inl (lw_bt lq_3 (j := 23) (i := 707) rfl)
theorem k_L_166 : LK "DoorRoundsLaw" 166 m_back := Or.inl (lw_bt lq_3 (j := 24) (i := 1244) rfl)
theorem k_L_167 : LK "DoorRoundsLaw" 167 D_steps := Or.inl (lw_bt lq_3 (j := 25) (i := 711) rfl)
theorem k_L_170 : LK "DoorRoundsLaw" 170 m_steps := Or.inl (lw_bt lq_3 (j := 26) (i := 1248) rfl)
theorem k_L_171 : LK "DoorRoundsLaw" 171 D_kinds := Or.inl (lw_bt lq_3 (j := 27) (i := 722) rfl)
theorem k_L_174 : LK "DoorRoundsLaw" 174 m_kinds := Or.inl (lw_bt lq_3 (j := 28) (i := 1256) rfl)
theorem k_L_175 : LK "DoorRoundsLaw" 175 D_rent := Or.inl (lw_bt lq_3 (j := 29) (i := 726) rfl)
theorem k_L_178 : LK "DoorRoundsLaw" 178 m_rent := Or.inl (lw_bt lq_3 (j := 30) (i := 1260) rfl)
theorem k_L_179 : LK "DoorRoundsLaw" 179 D_dearest := Or.inl (lw_bt lq_3 (j := 31) (i := 741) rfl)
theorem k_L_182 : LK "DoorRoundsLaw" 182 m_dearest := Or.inl (lw_bt lq_3 (j := 32) (i := 1272) rfl)
theorem k_L_183 : LK "DoorRoundsLaw" 183 D_mends := Or.inl (lw_bt lq_3 (j := 33) (i := 750) rfl)
theorem k_L_186 : LK "DoorRoundsLaw" 186 m_mends := Or.inl (lw_bt lq_3 (j := 34) (i := 1280) rfl)
theorem k_L_187 : LK "DoorRoundsLaw" 187 D_worst := Or.inl (lw_bt lq_3 (j := 35) (i := 754) rfl)
theorem k_L_190 : LK "DoorRoundsLaw" 190 m_worst := Or.inl (lw_bt lq_3 (j := 36) (i := 1292) rfl)
theorem k_L_191 : LK "DoorRoundsLaw" 191 D_image := Or.inl (lw_bt lq_3 (j := 37) (i := 758) rfl)
theorem k_L_194 : LK "DoorRoundsLaw" 194 m_image := Or.inl (lw_bt lq_3 (j := 38) (i := 1296) rfl)
theorem k_L_195 : LK "DoorRoundsLaw" 195 D_gone := Or.inl (lw_bt lq_3 (j := 39) (i := 762) rfl)
theorem k_L_198 : LK "DoorRoundsLaw" 198 m_gone := Or.inl (lw_bt lq_3 (j := 40) (i := 1300) rfl)
theorem k_L_199 : LK "DoorRoundsLaw" 199 D_asked := Or.inl (lw_bt lq_3 (j := 41) (i := 775) rfl)
theorem k_L_202 : LK "DoorRoundsLaw" 202 m_asked := Or.inl (lw_bt lq_3 (j := 42) (i := 1308) rfl)
theorem k_L_203 : LK "DoorRoundsLaw" 203 D_upper := Or.inl (lw_bt lq_3 (j := 43) (i := 779) rfl)
theorem k_L_207 : LK "DoorRoundsLaw" 207 m_upper := Or.inl (lw_bt lq_3 (j := 44) (i := 1312) rfl)
theorem k_L_208 : LK "DoorRoundsLaw" 208 D_lower := Or.inl (lw_bt lq_3 (j := 45) (i := 783) rfl)
theorem k_L_211 : LK "DoorRoundsLaw" 211 m_lower := Or.inl (lw_bt lq_3 (j := 46) (i := 1316) rfl)
theorem k_L_212 : LK "DoorRoundsLaw" 212 D_count := Or.inl (lw_bt lq_3 (j := 47) (i := 787) rfl)
theorem k_L_215 : LK "DoorRoundsLaw" 215 m_count := Or.inl (lw_bt lq_3 (j := 48) (i := 1320) rfl)
theorem k_L_216 : LK "DoorRoundsLaw" 216 D_finding := Or.inl (lw_bt lq_3 (j := 49) (i := 803) rfl)
theorem k_L_219 : LK "DoorRoundsLaw" 219 m_finding := Or.inl (lw_bt lq_3 (j := 50) (i := 1328) rfl)
theorem k_L_220 : LK "DoorRoundsLaw" 220 D_findings := Or.inl (lw_bt lq_3 (j := 51) (i := 807) rfl)
theorem k_L_223 : LK "DoorRoundsLaw" 223 m_findings := Or.inl (lw_bt lq_3 (j := 52) (i := 1332) rfl)
theorem k_L_224 : LK "DoorRoundsLaw" 224 D_digest := Or.inl (lw_bt lq_3 (j := 53) (i := 811) rfl)
theorem k_L_227 : LK "DoorRoundsLaw" 227 m_digest := Or.inl (lw_bt lq_3 (j := 54) (i := 1336) rfl)
theorem ko_m_1 : Cond.methodLink "DoorRoundsModel" 1 Lib.objectInit ∈ lw_g := lw_bt lq_3 (j := 55) (i := 832) rfl
theorem k_m_78 : LK "DoorRoundsModel" 78 m_in := Or.inl (lw_bt lq_3 (j := 56) (i := 940) rfl)
theorem k_m_82 : LK "DoorRoundsModel" 82 m_isRow := Or.inl (lw_bt lq_3 (j := 57) (i := 937) rfl)
theorem k_m_86 : LK "DoorRoundsModel" 86 m_meet := Or.inl (lw_bt lq_3 (j := 58) (i := 943) rfl)
theorem k_m_90 : LK "DoorRoundsModel" 90 m_isText := Or.inl (lw_bt lq_3 (j := 59) (i := 988) rfl)
theorem k_m_93 : LK "DoorRoundsModel" 93 m_setRow := Or.inl (lw_bt lq_4 (j := 0) (i := 947) rfl)
theorem k_m_97 : LK "DoorRoundsModel" 97 m_askedRow := Or.inl (lw_bt lq_4 (j := 1) (i := 955) rfl)
theorem k_m_100 : LK "DoorRoundsModel" 100 m_rowAt := Or.inl (lw_bt lq_4 (j := 2) (i := 959) rfl)
theorem k_m_104 : LK "DoorRoundsModel" 104 m_ask := Or.inl (lw_bt lq_4 (j := 3) (i := 963) rfl)
theorem k_m_107 : LK "DoorRoundsModel" 107 m_at := Or.inl (lw_bt lq_4 (j := 4) (i := 971) rfl)
theorem k_m_110 : LK "DoorRoundsModel" 110 m_askedText := Or.inl (lw_bt lq_4 (j := 5) (i := 995) rfl)
theorem k_m_116 : LK "DoorRoundsModel" 116 m_here := Or.inl (lw_bt lq_4 (j := 6) (i := 1007) rfl)
theorem k_m_125 : LK "DoorRoundsModel" 125 m_kindOf := Or.inl (lw_bt lq_4 (j := 7) (i := 1027) rfl)
theorem k_m_131 : LK "DoorRoundsModel" 131 m_readsNumber := Or.inl (lw_bt lq_4 (j := 8) (i := 1019) rfl)
theorem k_m_134 : LK "DoorRoundsModel" 134 m_isTold := Or.inl (lw_bt lq_4 (j := 9) (i := 1030) rfl)
theorem k_m_137 : LK "DoorRoundsModel" 137 m_sees := Or.inl (lw_bt lq_4 (j := 10) (i := 1015) rfl)
theorem k_m_141 : LK "DoorRoundsModel" 141 m_readsFigure := Or.inl (lw_bt lq_4 (j := 11) (i := 1034) rfl)
theorem k_m_144 : LK "DoorRoundsModel" 144 m_readsDoors := Or.inl (lw_bt lq_4 (j := 12) (i := 1011) rfl)
theorem k_m_147 : LK "DoorRoundsModel" 147 m_readsShop := Or.inl (lw_bt lq_4 (j := 13) (i := 1023) rfl)
theorem k_m_150 : LK "DoorRoundsModel" 150 m_goesOn := Or.inl (lw_bt lq_4 (j := 14) (i := 1003) rfl)
theorem k_m_159 : LK "DoorRoundsModel" 159 m_tell := Or.inl (lw_bt lq_4 (j := 15) (i := 1042) rfl)
theorem k_m_171 : LK "DoorRoundsModel" 171 m_isShop := Or.inl (lw_bt lq_4 (j := 16) (i := 1050) rfl)
theorem k_m_174 : LK "DoorRoundsModel" 174 m_aboutOf := Or.inl (lw_bt lq_4 (j := 17) (i := 1054) rfl)
theorem k_m_177 : LK "DoorRoundsModel" 177 m_goingBy := Or.inl (lw_bt lq_4 (j := 18) (i := 1078) rfl)
theorem k_m_181 : LK "DoorRoundsModel" 181 m_doorAt := Or.inl (lw_bt lq_4 (j := 19) (i := 1070) rfl)
theorem k_m_185 : LK "DoorRoundsModel" 185 m_isSleeper := Or.inl (lw_bt lq_4 (j := 20) (i := 1062) rfl)
theorem k_m_188 : LK "DoorRoundsModel" 188 m_areBeside := Or.inl (lw_bt lq_4 (j := 21) (i := 1066) rfl)
theorem k_m_191 : LK "DoorRoundsModel" 191 m_going := Or.inl (lw_bt lq_4 (j := 22) (i := 1074) rfl)
theorem k_m_194 : LK "DoorRoundsModel" 194 m_isDoor := Or.inl (lw_bt lq_4 (j := 23) (i := 1085) rfl)
theorem k_m_197 : LK "DoorRoundsModel" 197 m_shutMany := Or.inl (lw_bt lq_4 (j := 24) (i := 1089) rfl)
theorem k_m_201 : LK "DoorRoundsModel" 201 m_taker := Or.inl (lw_bt lq_4 (j := 25) (i := 1110) rfl)
theorem k_m_205 : LK "DoorRoundsModel" 205 m_fromNow := Or.inl (lw_bt lq_4 (j := 26) (i := 1102) rfl)
theorem k_m_208 : LK "DoorRoundsModel" 208 m_passOne := Or.inl (lw_bt lq_4 (j := 27) (i := 1106) rfl)
theorem k_m_212 : LK "DoorRoundsModel" 212 m_row := Or.inl (lw_bt lq_4 (j := 28) (i := 1118) rfl)
theorem k_m_217 : LK "DoorRoundsModel" 217 m_ways := Or.inl (lw_bt lq_4 (j := 29) (i := 1140) rfl)
theorem k_m_222 : LK "DoorRoundsModel" 222 m_plainBy := Or.inl (lw_bt lq_4 (j := 30) (i := 1136) rfl)
theorem k_m_226 : LK "DoorRoundsModel" 226 m_isPair := Or.inl (lw_bt lq_4 (j := 31) (i := 1168) rfl)
theorem k_m_229 : LK "DoorRoundsModel" 229 m_divisor := Or.inl (lw_bt lq_4 (j := 32) (i := 1172) rfl)
theorem k_m_232 : LK "DoorRoundsModel" 232 m_walkOf := Or.inl (lw_bt lq_4 (j := 33) (i := 1184) rfl)
theorem k_m_235 : LK "DoorRoundsModel" 235 m_isSet := Or.inl (lw_bt lq_4 (j := 34) (i := 1192) rfl)
theorem k_m_238 : LK "DoorRoundsModel" 238 m_roundOf := Or.inl (lw_bt lq_4 (j := 35) (i := 1196) rfl)
theorem k_m_242 : LK "DoorRoundsModel" 242 m_mayIn := Or.inl (lw_bt lq_4 (j := 36) (i := 1213) rfl)
theorem k_m_245 : LK "DoorRoundsModel" 245 m_leastFor := Or.inl (lw_bt lq_4 (j := 37) (i := 1209) rfl)
theorem k_m_248 : LK "DoorRoundsModel" 248 m_joinsOf := Or.inl (lw_bt lq_4 (j := 38) (i := 1225) rfl)
theorem k_m_251 : LK "DoorRoundsModel" 251 m_sizeOf := Or.inl (lw_bt lq_4 (j := 39) (i := 1237) rfl)
theorem k_m_254 : LK "DoorRoundsModel" 254 m_fits := Or.inl (lw_bt lq_4 (j := 40) (i := 1252) rfl)
theorem k_m_258 : LK "DoorRoundsModel" 258 m_askedRents := Or.inl (lw_bt lq_4 (j := 41) (i := 1264) rfl)
theorem k_m_261 : LK "DoorRoundsModel" 261 m_setRents := Or.inl (lw_bt lq_4 (j := 42) (i := 1268) rfl)
theorem k_m_264 : LK "DoorRoundsModel" 264 m_part := Or.inl (lw_bt lq_4 (j := 43) (i := 1276) rfl)
theorem k_m_271 : LK "DoorRoundsModel" 271 m_setPlans := Or.inl (lw_bt lq_4 (j := 44) (i := 1284) rfl)
theorem k_m_275 : LK "DoorRoundsModel" 275 m_othersBy := Or.inl (lw_bt lq_4 (j := 45) (i := 1288) rfl)
theorem k_m_278 : LK "DoorRoundsModel" 278 m_isImage := Or.inl (lw_bt lq_4 (j := 46) (i := 1304) rfl)
theorem k_m_281 : LK "DoorRoundsModel" 281 m_counts := Or.inl (lw_bt lq_4 (j := 47) (i := 1324) rfl)
theorem k_m_289 : LK "DoorRoundsModel" 289 m_mix := Or.inl (lw_bt lq_4 (j := 48) (i := 1341) rfl)
theorem k_m_294 : LK "DoorRoundsModel" 294 m_mixSquare := Or.inl (lw_bt lq_4 (j := 49) (i := 1346) rfl)
theorem kc_n : Cond.native arraycopyName ∈ lw_g := lw_in (i := 301) (by decide +kernel) (by decide +kernel)
theorem kc_s : Cond.static arraycopyName ∈ lw_g := lw_in (i := 300) (by decide +kernel) (by decide +kernel)
theorem kc_i : Cond.initialized "java/lang/System" ∈ lw_g := lw_in (i := 12) (by decide +kernel) (by decide +kernel)
theorem ko_i : Cond.instanceMethod Lib.objectInit ∈ lw_g := lw_in (i := 20) (by decide +kernel) (by decide +kernel)
theorem ko_c : Cond.code Lib.objectInit ⟨#[0xb1]⟩ 1 none ∈ lw_g := lw_in (i := 21) (by decide +kernel) (by decide +kernel)
theorem ms_maxI : Cond.static Lib.Math.max.name ∈ lw_g := lw_in (i := 30) (by decide +kernel) (by decide +kernel)
theorem mc_maxI : Cond.code Lib.Math.max.name Lib.Math.max.code 2 (some .int) ∈ lw_g := lw_in (i := 31) (by decide +kernel) (by decide +kernel)
theorem ms_minI : Cond.static Lib.Math.min.name ∈ lw_g := lw_in (i := 250) (by decide +kernel) (by decide +kernel)
theorem mc_minI : Cond.code Lib.Math.min.name Lib.Math.min.code 2 (some .int) ∈ lw_g := lw_in (i := 251) (by decide +kernel) (by decide +kernel)
theorem ms_minJ : Cond.static Lib.MathLoose.min_long.x ∈ lw_g := lw_in (i := 656) (by decide +kernel) (by decide +kernel)
theorem mc_minJ : Cond.code Lib.MathLoose.min_long.x Lib.MathLoose.min_long.code 4 (some .long) ∈ lw_g := lw_in (i := 657) (by decide +kernel) (by decide +kernel)
theorem ms_absJ : Cond.static Lib.MathLoose.abs_long.x ∈ lw_g := lw_in (i := 598) (by decide +kernel) (by decide +kernel)
theorem mc_absJ : Cond.code Lib.MathLoose.abs_long.x Lib.MathLoose.abs_long.code 2 (some .long) ∈ lw_g := lw_in (i := 599) (by decide +kernel) (by decide +kernel)
theorem ms_fm : Cond.static fm_x ∈ lw_g := lw_in (i := 450) (by decide +kernel) (by decide +kernel)
theorem mc_fm : Cond.code fm_x fm_c 6 (some .long) ∈ lw_g := lw_in (i := 451) (by decide +kernel) (by decide +kernel)
theorem f_D_11 : FL "DoorRounds" 11 7 0 := ⟨_, _, cl_7, by decide, by decide, lw_bt lq_4 (j := 50) (i := 181) rfl⟩
theorem f_D_15 : FL "DoorRounds" 15 7 1 := ⟨_, _, cl_7, by decide, by decide, lw_bt lq_4 (j := 51) (i := 182) rfl⟩
theorem f_D_21 : FL "DoorRounds" 21 7 2 := ⟨_, _, cl_7, by decide, by decide, lw_bt lq_4 (j := 52) (i := 183) rfl⟩
theorem f_D_28 : FL "DoorRounds" 28 7 3 := ⟨_, _, cl_7, by decide, by decide, lw_bt lq_4 (j := 53) (i := 184) rfl⟩
theorem f_D_32 : FL "DoorRounds" 32 7 4 := ⟨_, _, cl_7, by decide, by decide, lw_bt lq_4 (j := 54) (i := 185) rfl⟩
theorem f_D_36 : FL "DoorRounds" 36 7 5 := ⟨_, _, cl_7, by decide, by decide, lw_bt lq_4 (j := 55) (i := 186) rfl⟩
theorem f_D_39 : FL "DoorRounds" 39 7 6 := ⟨_, _, cl_7, by decide, by decide, lw_bt lq_4 (j := 56) (i := 187) rfl⟩
theorem f_D_45 : FL "DoorRounds" 45 7 7 := ⟨_, _, cl_7, by decide, by decide, lw_bt lq_4 (j := 57) (i := 188) rfl⟩
theorem f_D_52 : FL "DoorRounds" 52 7 8 := ⟨_, _, cl_7, by decide, by decide, lw_bt lq_4 (j := 58) (i := 189) rfl⟩
theorem f_D_56 : FL "DoorRounds" 56 7 9 := ⟨_, _, cl_7, by decide, by decide, lw_bt lq_4 (j := 59) (i := 190) rfl⟩
theorem f_D_63 : FL "DoorRounds" 63 7 10 := ⟨_, _, cl_7, by decide, by decide, lw_bt lq_5 (j := 0) (i := 191) rfl⟩
theorem f_D_67 : FL "DoorRounds" 67 7 11 := ⟨_, _, cl_7, by decide, by decide, lw_bt lq_5 (j := 1) (i := 192) rfl⟩
theorem f_D_70 : FL "DoorRounds" 70 7 12 := ⟨_, _, cl_7, by decide, by decide, lw_bt lq_5 (j := 2) (i := 193) rfl⟩
theorem f_D_74 : FL "DoorRounds" 74 7 13 := ⟨_, _, cl_7, by decide, by decide, lw_bt lq_5 (j := 3) (i := 194) rfl⟩
theorem f_D_78 : FL "DoorRounds" 78 7 14 := ⟨_, _, cl_7, by decide, by decide, lw_bt lq_5 (j := 4) (i := 195) rfl⟩
theorem f_D_81 : FL "DoorRounds" 81 7 15 := ⟨_, _, cl_7, by decide, by decide, lw_bt lq_5 (j := 5) (i := 196) rfl⟩
theorem f_D_84 : FL "DoorRounds" 84 5 0 := ⟨_, _, cl_5, by decide, by decide, lw_bt lq_5 (j := 6) (i := 50) rfl⟩
theorem f_D_121 : FL "DoorRounds" 121 6 1 := ⟨_, _, cl_6, by decide, by decide, lw_bt lq_5 (j := 7) (i := 36) rfl⟩
theorem f_D_128 : FL "DoorRounds" 128 6 0 := ⟨_, _, cl_6, by decide, by decide, lw_bt lq_5 (j := 8) (i := 33) rfl⟩
theorem f_D_158 : FL "DoorRounds" 158 0 0 := ⟨_, _, cl_0, by decide, by decide, lw_bt lq_5 (j := 9) (i := 69) rfl⟩
theorem f_D_163 : FL "DoorRounds" 163 2 1 := ⟨_, _, cl_2, by decide, by decide, lw_bt lq_5 (j := 10) (i := 162) rfl⟩
theorem f_D_191 : FL "DoorRounds" 191 4 4 := ⟨_, _, cl_4, by decide, by decide, lw_bt lq_5 (j := 11) (i := 124) rfl⟩
theorem f_D_208 : FL "DoorRounds" 208 5 1 := ⟨_, _, cl_5, by decide, by decide, lw_bt lq_5 (j := 12) (i := 52) rfl⟩
theorem f_D_246 : FL "DoorRounds" 246 4 2 := ⟨_, _, cl_4, by decide, by decide, lw_bt lq_5 (j := 13) (i := 119) rfl⟩
theorem f_D_252 : FL "DoorRounds" 252 2 0 := ⟨_, _, cl_2, by decide, by decide, lw_bt lq_5 (j := 14) (i := 159) rfl⟩
theorem f_D_298 : FL "DoorRounds" 298 4 0 := ⟨_, _, cl_4, by decide, by decide, lw_bt lq_5 (j := 15) (i := 111) rfl⟩
theorem f_D_347 : FL "DoorRounds" 347 4 3 := ⟨_, _, cl_4, by decide, by decide, lw_bt lq_5 (j := 16) (i := 122) rfl⟩
theorem f_D_350 : FL "DoorRounds" 350 4 1 := ⟨_, _, cl_4, by decide, by decide, lw_bt lq_5 (j := 17) (i := 116) rfl⟩
theorem f_Di_9 : FL "DoorRounds$Diary" 9 0 0 := ⟨_, _, cl_0, by decide, by decide, lw_bt lq_5 (j := 18) (i := 68) rfl⟩
theorem f_Di_15 : FL "DoorRounds$Diary" 15 0 1 := ⟨_, _, cl_0, by decide, by decide, lw_bt lq_5 (j := 19) (i := 70) rfl⟩
theorem f_Di_19 : FL "DoorRounds$Diary" 19 0 2 := ⟨_, _, cl_0, by decide, by decide, lw_bt lq_5 (j := 20) (i := 71) rfl⟩
theorem f_Di_22 : FL "DoorRounds$Diary" 22 0 3 := ⟨_, _, cl_0, by decide, by decide, lw_bt lq_5 (j := 21) (i := 72) rfl⟩
theorem f_Di_31 : FL "DoorRounds$Diary" 31 4 1 := ⟨_, _, cl_4, by decide, by decide, lw_bt lq_5 (j := 22) (i := 114) rfl⟩
theorem f_Er_11 : FL "DoorRounds$Errands" 11 1 0 := ⟨_, _, cl_1, by decide, by decide, lw_bt lq_5 (j := 23) (i := 88) rfl⟩
theorem f_Er_15 : FL "DoorRounds$Errands" 15 1 1 := ⟨_, _, cl_1, by decide, by decide, lw_bt lq_5 (j := 24) (i := 89) rfl⟩
theorem f_Pl_9 : FL "DoorRounds$Plan" 9 2 0 := ⟨_, _, cl_2, by decide, by decide, lw_bt lq_5 (j := 25) (i := 157) rfl⟩
theorem f_Pl_15 : FL "DoorRounds$Plan" 15 2 1 := ⟨_, _, cl_2, by decide, by decide, lw_bt lq_5 (j := 26) (i := 160) rfl⟩
theorem f_Pl_20 : FL "DoorRounds$Plan" 20 2 2 := ⟨_, _, cl_2, by decide, by decide, lw_bt lq_5 (j := 27) (i := 163) rfl⟩
theorem f_Pl_25 : FL "DoorRounds$Plan" 25 2 3 := ⟨_, _, cl_2, by decide, by decide, lw_bt lq_5 (j := 28) (i := 164) rfl⟩
theorem f_Pl_29 : FL "DoorRounds$Plan" 29 2 4 := ⟨_, _, cl_2, by decide, by decide, lw_bt lq_5 (j := 29) (i := 165) rfl⟩
theorem f_Pl_36 : FL "DoorRounds$Plan" 36 2 5 := ⟨_, _, cl_2, by decide, by decide, lw_bt lq_5 (j := 30) (i := 167) rfl⟩
theorem f_Pl_72 : FL "DoorRounds$Plan" 72 4 1 := ⟨_, _, cl_4, by decide, by decide, lw_bt lq_5 (j := 31) (i := 115) rfl⟩
theorem f_Pl_89 : FL "DoorRounds$Plan" 89 3 1 := ⟨_, _, cl_3, by decide, by decide, lw_bt lq_5 (j := 32) (i := 147) rfl⟩
theorem f_Pl_92 : FL "DoorRounds$Plan" 92 3 2 := ⟨_, _, cl_3, by decide, by decide, lw_bt lq_5 (j := 33) (i := 149) rfl⟩
theorem f_Pl_106 : FL "DoorRounds$Plan" 106 4 0 := ⟨_, _, cl_4, by decide, by decide, lw_bt lq_5 (j := 34) (i := 110) rfl⟩
theorem f_Pl_115 : FL "DoorRounds$Plan" 115 4 2 := ⟨_, _, cl_4, by decide, by decide, lw_bt lq_5 (j := 35) (i := 118) rfl⟩
theorem f_Pl_118 : FL "DoorRounds$Plan" 118 4 3 := ⟨_, _, cl_4, by decide, by decide, lw_bt lq_5 (j := 36) (i := 121) rfl⟩
theorem f_Pl_121 : FL "DoorRounds$Plan" 121 4 4 := ⟨_, _, cl_4, by decide, by decide, lw_bt lq_5 (j := 37) (i := 125) rfl⟩
theorem f_Rd_14 : FL "DoorRounds$Reader" 14 3 0 := ⟨_, _, cl_3, by decide, by decide, lw_bt lq_5 (j := 38) (i := 145) rfl⟩
theorem f_Rd_20 : FL "DoorRounds$Reader" 20 3 1 := ⟨_, _, cl_3, by decide, by decide, lw_bt lq_5 (j := 39) (i := 146) rfl⟩
theorem f_Rd_24 : FL "DoorRounds$Reader" 24 3 2 := ⟨_, _, cl_3, by decide, by decide, lw_bt lq_5 (j := 40) (i := 148) rfl⟩
theorem f_Rd_27 : FL "DoorRounds$Reader" 27 6 1 := ⟨_, _, cl_6, by decide, by decide, lw_bt lq_5 (j := 41) (i := 35) rfl⟩
theorem f_Sh_9 : FL "DoorRounds$Shop" 9 4 0 := ⟨_, _, cl_4, by decide, by decide, lw_bt lq_5 (j := 42) (i := 109) rfl⟩
theorem f_Sh_15 : FL "DoorRounds$Shop" 15 4 1 := ⟨_, _, cl_4, by decide, by decide, lw_bt lq_5 (j := 43) (i := 112) rfl⟩
theorem f_Sh_18 : FL "DoorRounds$Shop" 18 4 2 := ⟨_, _, cl_4, by decide, by decide, lw_bt lq_5 (j := 44) (i := 117) rfl⟩
theorem f_Sh_21 : FL "DoorRounds$Shop" 21 4 3 := ⟨_, _, cl_4, by decide, by decide, lw_bt lq_5 (j := 45) (i := 120) rfl⟩
theorem f_Sh_24 : FL "DoorRounds$Shop" 24 4 4 := ⟨_, _, cl_4, by decide, by decide, lw_bt lq_5 (j := 46) (i := 123) rfl⟩
theorem f_Sn_9 : FL "DoorRounds$Standing" 9 5 0 := ⟨_, _, cl_5, by decide, by decide, lw_bt lq_5 (j := 47) (i := 49) rfl⟩
theorem f_Sn_15 : FL "DoorRounds$Standing" 15 5 1 := ⟨_, _, cl_5, by decide, by decide, lw_bt lq_5 (j := 48) (i := 51) rfl⟩
theorem f_Sn_18 : FL "DoorRounds$Standing" 18 5 2 := ⟨_, _, cl_5, by decide, by decide, lw_bt lq_5 (j := 49) (i := 53) rfl⟩
theorem f_Sn_22 : FL "DoorRounds$Standing" 22 2 1 := ⟨_, _, cl_2, by decide, by decide, lw_bt lq_5 (j := 50) (i := 161) rfl⟩
theorem f_Sn_31 : FL "DoorRounds$Standing" 31 4 1 := ⟨_, _, cl_4, by decide, by decide, lw_bt lq_5 (j := 51) (i := 113) rfl⟩
theorem f_Sn_70 : FL "DoorRounds$Standing" 70 2 4 := ⟨_, _, cl_2, by decide, by decide, lw_bt lq_5 (j := 52) (i := 166) rfl⟩
theorem f_Sn_73 : FL "DoorRounds$Standing" 73 2 0 := ⟨_, _, cl_2, by decide, by decide, lw_bt lq_5 (j := 53) (i := 158) rfl⟩
theorem f_Sp_9 : FL "DoorRounds$Strip" 9 6 1 := ⟨_, _, cl_6, by decide, by decide, lw_bt lq_5 (j := 54) (i := 34) rfl⟩
theorem f_Sp_21 : FL "DoorRounds$Strip" 21 6 0 := ⟨_, _, cl_6, by decide, by decide, lw_bt lq_5 (j := 55) (i := 32) rfl⟩
theorem f_m_7 : FL "DoorRoundsModel" 7 8 1 := ⟨_, _, cl_8, by decide, by decide, lw_bt lq_5 (j := 56) (i := 834) rfl⟩
theorem f_m_13 : FL "DoorRoundsModel" 13 8 4 := ⟨_, _, cl_8, by decide, by decide, lw_bt lq_5 (j := 57) (i := 837) rfl⟩
theorem f_m_17 : FL "DoorRoundsModel" 17 8 5 := ⟨_, _, cl_8, by decide, by decide, lw_bt lq_5 (j := 58) (i := 838) rfl⟩
theorem f_m_20 : FL "DoorRoundsModel" 20 8 6 := ⟨_, _, cl_8, by decide, by decide, lw_bt lq_5 (j := 59) (i := 839) rfl⟩
theorem f_m_23 : FL "DoorRoundsModel" 23 8 7 := ⟨_, _, cl_8, by decide, by decide, lw_bt lq_6 (j := 0) (i := 840) rfl⟩
theorem f_m_26 : FL "DoorRoundsModel" 26 8 8 := ⟨_, _, cl_8, by decide, by decide, lw_bt lq_6 (j := 1) (i := 841) rfl⟩
theorem f_m_29 : FL "DoorRoundsModel" 29 8 9 := ⟨_, _, cl_8, by decide, by decide, lw_bt lq_6 (j := 2) (i := 842) rfl⟩
theorem f_m_32 : FL "DoorRoundsModel" 32 8 12 := ⟨_, _, cl_8, by decide, by decide, lw_bt lq_6 (j := 3) (i := 845) rfl⟩
theorem f_m_35 : FL "DoorRoundsModel" 35 8 17 := ⟨_, _, cl_8, by decide, by decide, lw_bt lq_6 (j := 4) (i := 850) rfl⟩
theorem f_m_38 : FL "DoorRoundsModel" 38 8 20 := ⟨_, _, cl_8, by decide, by decide, lw_bt lq_6 (j := 5) (i := 853) rfl⟩
theorem f_m_41 : FL "DoorRoundsModel" 41 8 21 := ⟨_, _, cl_8, by decide, by decide, lw_bt lq_6 (j := 6) (i := 854) rfl⟩
theorem f_m_44 : FL "DoorRoundsModel" 44 8 22 := ⟨_, _, cl_8, by decide, by decide, lw_bt lq_6 (j := 7) (i := 855) rfl⟩
theorem f_m_47 : FL "DoorRoundsModel" 47 8 23 := ⟨_, _, cl_8, by decide, by decide, lw_bt lq_6 (j := 8) (i := 856) rfl⟩
theorem f_m_50 : FL "DoorRoundsModel" 50 8 24 := ⟨_, _, cl_8, by decide, by decide, lw_bt lq_6 (j := 9) (i := 857) rfl⟩
theorem f_m_53 : FL "DoorRoundsModel" 53 8 25 := ⟨_, _, cl_8, by decide, by decide, lw_bt lq_6 (j := 10) (i := 858) rfl⟩
theorem f_m_56 : FL "DoorRoundsModel" 56 8 26 := ⟨_, _, cl_8, by decide, by decide, lw_bt lq_6 (j := 11) (i := 859) rfl⟩
theorem f_m_59 : FL "DoorRoundsModel" 59 8 27 := ⟨_, _, cl_8, by decide, by decide, lw_bt lq_6 (j := 12) (i := 860) rfl⟩
theorem f_m_62 : FL "DoorRoundsModel" 62 8 29 := ⟨_, _, cl_8, by decide, by decide, lw_bt lq_6 (j := 13) (i := 862) rfl⟩
theorem f_m_65 : FL "DoorRoundsModel" 65 8 30 := ⟨_, _, cl_8, by decide, by decide, lw_bt lq_6 (j := 14) (i := 863) rfl⟩
theorem f_m_68 : FL "DoorRoundsModel" 68 8 0 := ⟨_, _, cl_8, by decide, by decide, lw_bt lq_6 (j := 15) (i := 833) rfl⟩
theorem f_m_72 : FL "DoorRoundsModel" 72 8 2 := ⟨_, _, cl_8, by decide, by decide, lw_bt lq_6 (j := 16) (i := 835) rfl⟩
theorem f_m_75 : FL "DoorRoundsModel" 75 8 3 := ⟨_, _, cl_8, by decide, by decide, lw_bt lq_6 (j := 17) (i := 836) rfl⟩
theorem f_m_113 : FL "DoorRoundsModel" 113 8 13 := ⟨_, _, cl_8, by decide, by decide, lw_bt lq_6 (j := 18) (i := 846) rfl⟩
theorem f_m_119 : FL "DoorRoundsModel" 119 8 14 := ⟨_, _, cl_8, by decide, by decide, lw_bt lq_6 (j := 19) (i := 847) rfl⟩
theorem f_m_122 : FL "DoorRoundsModel" 122 8 16 := ⟨_, _, cl_8, by decide, by decide, lw_bt lq_6 (j := 20) (i := 849) rfl⟩
theorem f_m_128 : FL "DoorRoundsModel" 128 8 15 := ⟨_, _, cl_8, by decide, by decide, lw_bt lq_6 (j := 21) (i := 848) rfl⟩
theorem f_m_153 : FL "DoorRoundsModel" 153 8 10 := ⟨_, _, cl_8, by decide, by decide, lw_bt lq_6 (j := 22) (i := 843) rfl⟩
theorem f_m_156 : FL "DoorRoundsModel" 156 8 11 := ⟨_, _, cl_8, by decide, by decide, lw_bt lq_6 (j := 23) (i := 844) rfl⟩
theorem f_m_162 : FL "DoorRoundsModel" 162 8 18 := ⟨_, _, cl_8, by decide, by decide, lw_bt lq_6 (j := 24) (i := 851) rfl⟩
theorem f_m_165 : FL "DoorRoundsModel" 165 8 19 := ⟨_, _, cl_8, by decide, by decide, lw_bt lq_6 (j := 25) (i := 852) rfl⟩
theorem f_m_168 : FL "DoorRoundsModel" 168 8 28 := ⟨_, _, cl_8, by decide, by decide, lw_bt lq_6 (j := 26) (i := 861) rfl⟩
theorem f_m_268 : FL "DoorRoundsModel" 268 8 31 := ⟨_, _, cl_8, by decide, by decide, lw_bt lq_6 (j := 27) (i := 864) rfl⟩
theorem f_m_286 : FL "DoorRoundsModel" 286 8 32 := ⟨_, _, cl_8, by decide, by decide, lw_bt lq_6 (j := 28) (i := 865) rfl⟩
theorem q_D_212 : Cond.constant "DoorRounds" 212 100000 ∈ lw_g := lw_bt lq_6 (j := 29) (i := 522) rfl
theorem q_D_228 : Cond.constant "DoorRounds" 228 1000000000 ∈ lw_g := lw_bt lq_6 (j := 30) (i := 556) rfl
theorem q_D_328 : Cond.constantLong "DoorRounds" 328 17 ∈ lw_g := lw_bt lq_6 (j := 31) (i := 815) rfl
theorem q_D_330 : Cond.constantLong "DoorRounds" 330 31 ∈ lw_g := lw_bt lq_6 (j := 32) (i := 816) rfl
theorem q_Di_44 : Cond.constantLong "DoorRounds$Diary" 44 31 ∈ lw_g := lw_bt lq_6 (j := 33) (i := 821) rfl
theorem q_Er_18 : Cond.constantLong "DoorRounds$Errands" 18 1152921504606846976 ∈ lw_g := lw_bt lq_6 (j := 34) (i := 639) rfl
theorem q_Sp_42 : Cond.constantLong "DoorRounds$Strip" 42 31 ∈ lw_g := lw_bt lq_6 (j := 35) (i := 826) rfl
theorem q_m_204 : Cond.constant "DoorRoundsModel" 204 100000 ∈ lw_g := lw_bt lq_6 (j := 36) (i := 1101) rfl
theorem q_m_215 : Cond.constantLong "DoorRoundsModel" 215 2 ∈ lw_g := lw_bt lq_6 (j := 37) (i := 1143) rfl
theorem q_m_221 : Cond.constant "DoorRoundsModel" 221 1000000000 ∈ lw_g := lw_bt lq_6 (j := 38) (i := 1135) rfl
theorem q_m_241 : Cond.constant "DoorRoundsModel" 241 16777216 ∈ lw_g := lw_bt lq_6 (j := 39) (i := 1204) rfl
theorem q_m_284 : Cond.constantLong "DoorRoundsModel" 284 31 ∈ lw_g := lw_bt lq_6 (j := 40) (i := 1345) rfl
theorem q_m_292 : Cond.constantLong "DoorRoundsModel" 292 17 ∈ lw_g := lw_bt lq_6 (j := 41) (i := 1340) rfl
theorem q_ji_265 : Cond.constant "java/lang/Integer" 265 1431655765 ∈ lw_g := lw_bt lq_6 (j := 42) (i := 507) rfl
theorem q_ji_266 : Cond.constant "java/lang/Integer" 266 858993459 ∈ lw_g := lw_bt lq_6 (j := 43) (i := 508) rfl
theorem q_ji_267 : Cond.constant "java/lang/Integer" 267 252645135 ∈ lw_g := lw_bt lq_6 (j := 44) (i := 509) rfl
theorem c_D_9 : Cond.classLink "DoorRounds" 9 "DoorRounds$Strip" ∈ lw_g := lw_bt lq_6 (j := 45) (i := 22) rfl
theorem c_D_25 : Cond.classLink "DoorRounds" 25 "DoorRounds$Standing" ∈ lw_g := lw_bt lq_6 (j := 46) (i := 43) rfl
theorem c_D_42 : Cond.classLink "DoorRounds" 42 "DoorRounds$Diary" ∈ lw_g := lw_bt lq_6 (j := 47) (i := 62) rfl
theorem c_D_49 : Cond.classLink "DoorRounds" 49 "DoorRounds$Errands" ∈ lw_g := lw_bt lq_6 (j := 48) (i := 82) rfl
theorem c_D_60 : Cond.classLink "DoorRounds" 60 "DoorRounds$Plan" ∈ lw_g := lw_bt lq_6 (j := 49) (i := 96) rfl
theorem c_Pl_18 : Cond.classLink "DoorRounds$Plan" 18 "DoorRounds$Shop" ∈ lw_g := lw_bt lq_6 (j := 50) (i := 102) rfl
theorem c_Pl_33 : Cond.classLink "DoorRounds$Plan" 33 "DoorRounds$Reader" ∈ lw_g := lw_bt lq_6 (j := 51) (i := 137) rfl
theorem c_Rd_9 : Cond.classLink "DoorRounds$Reader" 9 "DoorRounds$Strip" ∈ lw_g := lw_bt lq_6 (j := 52) (i := 143) rfl
theorem c_L_7 : Cond.classLink "DoorRoundsLaw" 7 "DoorRounds" ∈ lw_g := lw_bt lq_6 (j := 53) (i := 14) rfl
theorem c_L_10 : Cond.classLink "DoorRoundsLaw" 10 "DoorRoundsModel" ∈ lw_g := lw_bt lq_6 (j := 54) (i := 827) rfl
theorem n_0 : Cond.instantiable "DoorRounds$Diary" 4 ∈ lw_g := lw_bt lq_6 (j := 55) (i := 63) rfl
theorem nf_0_0 : ∀ r ty, clOK 0 r ty → (r.2.1 0).2.2.2 = false := fun r ty h => by have e := h.1; cases e; exact rfl
theorem nf_0_1 : ∀ r ty, clOK 0 r ty → ((r.2.1 1).2.2.2 = true ∧ r.1 = "DoorRounds$Diary") := fun r ty h => by have e := h.1; cases e; exact ⟨rfl, rfl⟩
theorem nf_0_2 : ∀ r ty, clOK 0 r ty → ((r.2.1 2).2.2.2 = true ∧ r.1 = "DoorRounds$Diary") := fun r ty h => by have e := h.1; cases e; exact ⟨rfl, rfl⟩
theorem nf_0_3 : ∀ r ty, clOK 0 r ty → ((r.2.1 3).2.2.2 = true ∧ r.1 = "DoorRounds$Diary") := fun r ty h => by have e := h.1; cases e; exact ⟨rfl, rfl⟩
theorem n_1 : Cond.instantiable "DoorRounds$Errands" 2 ∈ lw_g := lw_bt lq_6 (j := 56) (i := 83) rfl
theorem nf_1_0 : ∀ r ty, clOK 1 r ty → ((r.2.1 0).2.2.2 = true ∧ r.1 = "DoorRounds$Errands") := fun r ty h => by have e := h.1; cases e; exact ⟨rfl, rfl⟩
theorem nf_1_1 : ∀ r ty, clOK 1 r ty → ((r.2.1 1).2.2.2 = true ∧ r.1 = "DoorRounds$Errands") := fun r ty h => by have e := h.1; cases e; exact ⟨rfl, rfl⟩
theorem n_2 : Cond.instantiable "DoorRounds$Plan" 6 ∈ lw_g := lw_bt lq_6 (j := 57) (i := 97) rfl
theorem nf_2_0 : ∀ r ty, clOK 2 r ty → (r.2.1 0).2.2.2 = false := fun r ty h => by have e := h.1; cases e; exact rfl
theorem nf_2_1 : ∀ r ty, clOK 2 r ty → (r.2.1 1).2.2.2 = false := fun r ty h => by have e := h.1; cases e; exact rfl
theorem nf_2_2 : ∀ r ty, clOK 2 r ty → ((r.2.1 2).2.2.2 = true ∧ r.1 = "DoorRounds$Plan") := fun r ty h => by have e := h.1; cases e; exact ⟨rfl, rfl⟩
theorem nf_2_3 : ∀ r ty, clOK 2 r ty → ((r.2.1 3).2.2.2 = true ∧ r.1 = "DoorRounds$Plan") := fun r ty h => by have e := h.1; cases e; exact ⟨rfl, rfl⟩
theorem nf_2_4 : ∀ r ty, clOK 2 r ty → ((r.2.1 4).2.2.2 = true ∧ r.1 = "DoorRounds$Plan") := fun r ty h => by have e := h.1; cases e; exact ⟨rfl, rfl⟩
theorem nf_2_5 : ∀ r ty, clOK 2 r ty → ((r.2.1 5).2.2.2 = true ∧ r.1 = "DoorRounds$Plan") := fun r ty h => by have e := h.1; cases e; exact ⟨rfl, rfl⟩
theorem n_3 : Cond.instantiable "DoorRounds$Reader" 3 ∈ lw_g := lw_bt lq_6 (j := 58) (i := 138) rfl
theorem nf_3_0 : ∀ r ty, clOK 3 r ty → (r.2.1 0).2.2.2 = false := fun r ty h => by have e := h.1; cases e; exact rfl
theorem nf_3_1 : ∀ r ty, clOK 3 r ty → (r.2.1 1).2.2.2 = false := fun r ty h => by have e := h.1; cases e; exact rfl
theorem nf_3_2 : ∀ r ty, clOK 3 r ty → (r.2.1 2).2.2.2 = false := fun r ty h => by have e := h.1; cases e; exact rfl
theorem n_4 : Cond.instantiable "DoorRounds$Shop" 5 ∈ lw_g := lw_bt lq_6 (j := 59) (i := 104) rfl
theorem nf_4_0 : ∀ r ty, clOK 4 r ty → (r.2.1 0).2.2.2 = false := fun r ty h => by have e := h.1; cases e; exact rfl
theorem nf_4_1 : ∀ r ty, clOK 4 r ty → (r.2.1 1).2.2.2 = false := fun r ty h => by have e := h.1; cases e; exact rfl
theorem nf_4_2 : ∀ r ty, clOK 4 r ty → (r.2.1 2).2.2.2 = false := fun r ty h => by have e := h.1; cases e; exact rfl
theorem nf_4_3 : ∀ r ty, clOK 4 r ty → (r.2.1 3).2.2.2 = false := fun r ty h => by have e := h.1; cases e; exact rfl
theorem nf_4_4 : ∀ r ty, clOK 4 r ty → (r.2.1 4).2.2.2 = false := fun r ty h => by have e := h.1; cases e; exact rfl
theorem n_5 : Cond.instantiable "DoorRounds$Standing" 3 ∈ lw_g := lw_bt lq_7 (j := 0) (i := 44) rfl
theorem nf_5_0 : ∀ r ty, clOK 5 r ty → (r.2.1 0).2.2.2 = false := fun r ty h => by have e := h.1; cases e; exact rfl
theorem nf_5_1 : ∀ r ty, clOK 5 r ty → (r.2.1 1).2.2.2 = false := fun r ty h => by have e := h.1; cases e; exact rfl
theorem nf_5_2 : ∀ r ty, clOK 5 r ty → ((r.2.1 2).2.2.2 = true ∧ r.1 = "DoorRounds$Standing") := fun r ty h => by have e := h.1; cases e; exact ⟨rfl, rfl⟩
theorem n_6 : Cond.instantiable "DoorRounds$Strip" 2 ∈ lw_g := lw_bt lq_7 (j := 1) (i := 24) rfl
theorem nf_6_0 : ∀ r ty, clOK 6 r ty → ((r.2.1 0).2.2.2 = true ∧ r.1 = "DoorRounds$Strip") := fun r ty h => by have e := h.1; cases e; exact ⟨rfl, rfl⟩
theorem nf_6_1 : ∀ r ty, clOK 6 r ty → (r.2.1 1).2.2.2 = false := fun r ty h => by have e := h.1; cases e; exact rfl
theorem n_7 : Cond.instantiable "DoorRounds" 16 ∈ lw_g := lw_bt lq_7 (j := 2) (i := 15) rfl
theorem nf_7_0 : ∀ r ty, clOK 7 r ty → ((r.2.1 0).2.2.2 = true ∧ r.1 = "DoorRounds") := fun r ty h => by have e := h.1; cases e; exact ⟨rfl, rfl⟩
theorem nf_7_1 : ∀ r ty, clOK 7 r ty → ((r.2.1 1).2.2.2 = true ∧ r.1 = "DoorRounds") := fun r ty h => by have e := h.1; cases e; exact ⟨rfl, rfl⟩
theorem nf_7_2 : ∀ r ty, clOK 7 r ty → ((r.2.1 2).2.2.2 = true ∧ r.1 = "DoorRounds") := fun r ty h => by have e := h.1; cases e; exact ⟨rfl, rfl⟩
theorem nf_7_3 : ∀ r ty, clOK 7 r ty → ((r.2.1 3).2.2.2 = true ∧ r.1 = "DoorRounds") := fun r ty h => by have e := h.1; cases e; exact ⟨rfl, rfl⟩
theorem nf_7_4 : ∀ r ty, clOK 7 r ty → ((r.2.1 4).2.2.2 = true ∧ r.1 = "DoorRounds") := fun r ty h => by have e := h.1; cases e; exact ⟨rfl, rfl⟩
theorem nf_7_5 : ∀ r ty, clOK 7 r ty → ((r.2.1 5).2.2.2 = true ∧ r.1 = "DoorRounds") := fun r ty h => by have e := h.1; cases e; exact ⟨rfl, rfl⟩
theorem nf_7_6 : ∀ r ty, clOK 7 r ty → ((r.2.1 6).2.2.2 = true ∧ r.1 = "DoorRounds") := fun r ty h => by have e := h.1; cases e; exact ⟨rfl, rfl⟩
theorem nf_7_7 : ∀ r ty, clOK 7 r ty → ((r.2.1 7).2.2.2 = true ∧ r.1 = "DoorRounds") := fun r ty h => by have e := h.1; cases e; exact ⟨rfl, rfl⟩
theorem nf_7_8 : ∀ r ty, clOK 7 r ty → ((r.2.1 8).2.2.2 = true ∧ r.1 = "DoorRounds") := fun r ty h => by have e := h.1; cases e; exact ⟨rfl, rfl⟩
theorem nf_7_9 : ∀ r ty, clOK 7 r ty → ((r.2.1 9).2.2.2 = true ∧ r.1 = "DoorRounds") := fun r ty h => by have e := h.1; cases e; exact ⟨rfl, rfl⟩
theorem nf_7_10 : ∀ r ty, clOK 7 r ty → (r.2.1 10).2.2.2 = false := fun r ty h => by have e := h.1; cases e; exact rfl
theorem nf_7_11 : ∀ r ty, clOK 7 r ty → (r.2.1 11).2.2.2 = false := fun r ty h => by have e := h.1; cases e; exact rfl
theorem nf_7_12 : ∀ r ty, clOK 7 r ty → (r.2.1 12).2.2.2 = false := fun r ty h => by have e := h.1; cases e; exact rfl
theorem nf_7_13 : ∀ r ty, clOK 7 r ty → (r.2.1 13).2.2.2 = false := fun r ty h => by have e := h.1; cases e; exact rfl
theorem nf_7_14 : ∀ r ty, clOK 7 r ty → (r.2.1 14).2.2.2 = false := fun r ty h => by have e := h.1; cases e; exact rfl
theorem nf_7_15 : ∀ r ty, clOK 7 r ty → (r.2.1 15).2.2.2 = false := fun r ty h => by have e := h.1; cases e; exact rfl
theorem n_8 : Cond.instantiable "DoorRoundsModel" 33 ∈ lw_g := lw_bt lq_7 (j := 3) (i := 828) rfl
theorem nf_8_0 : ∀ r ty, clOK 8 r ty → (r.2.1 0).2.2.2 = false := fun r ty h => by have e := h.1; cases e; exact rfl
theorem nf_8_1 : ∀ r ty, clOK 8 r ty → ((r.2.1 1).2.2.2 = true ∧ r.1 = "DoorRoundsModel") := fun r ty h => by have e := h.1; cases e; exact ⟨rfl, rfl⟩
theorem nf_8_2 : ∀ r ty, clOK 8 r ty → (r.2.1 2).2.2.2 = false := fun r ty h => by have e := h.1; cases e; exact rfl
theorem nf_8_3 : ∀ r ty, clOK 8 r ty → (r.2.1 3).2.2.2 = false := fun r ty h => by have e := h.1; cases e; exact rfl
theorem nf_8_4 : ∀ r ty, clOK 8 r ty → (r.2.1 4).2.2.2 = false := fun r ty h => by have e := h.1; cases e; exact rfl
theorem nf_8_5 : ∀ r ty, clOK 8 r ty → ((r.2.1 5).2.2.2 = true ∧ r.1 = "DoorRoundsModel") := fun r ty h => by have e := h.1; cases e; exact ⟨rfl, rfl⟩
theorem nf_8_6 : ∀ r ty, clOK 8 r ty → ((r.2.1 6).2.2.2 = true ∧ r.1 = "DoorRoundsModel") := fun r ty h => by have e := h.1; cases e; exact ⟨rfl, rfl⟩
theorem nf_8_7 : ∀ r ty, clOK 8 r ty → ((r.2.1 7).2.2.2 = true ∧ r.1 = "DoorRoundsModel") := fun r ty h => by have e := h.1; cases e; exact ⟨rfl, rfl⟩
theorem nf_8_8 : ∀ r ty, clOK 8 r ty → ((r.2.1 8).2.2.2 = true ∧ r.1 = "DoorRoundsModel") := fun r ty h => by have e := h.1; cases e; exact ⟨rfl, rfl⟩
theorem nf_8_9 : ∀ r ty, clOK 8 r ty → ((r.2.1 9).2.2.2 = true ∧ r.1 = "DoorRoundsModel") := fun r ty h => by have e := h.1; cases e; exact ⟨rfl, rfl⟩
theorem nf_8_10 : ∀ r ty, clOK 8 r ty → (r.2.1 10).2.2.2 = false := fun r ty h => by have e := h.1; cases e; exact rfl
theorem nf_8_11 : ∀ r ty, clOK 8 r ty → (r.2.1 11).2.2.2 = false := fun r ty h => by have e := h.1; cases e; exact rfl
theorem nf_8_12 : ∀ r ty, clOK 8 r ty → ((r.2.1 12).2.2.2 = true ∧ r.1 = "DoorRoundsModel") := fun r ty h => by have e := h.1; cases e; exact ⟨rfl, rfl⟩
theorem nf_8_13 : ∀ r ty, clOK 8 r ty → (r.2.1 13).2.2.2 = false := fun r ty h => by have e := h.1; cases e; exact rfl
theorem nf_8_14 : ∀ r ty, clOK 8 r ty → (r.2.1 14).2.2.2 = false := fun r ty h => by have e := h.1; cases e; exact rfl
theorem nf_8_15 : ∀ r ty, clOK 8 r ty → (r.2.1 15).2.2.2 = false := fun r ty h => by have e := h.1; cases e; exact rfl
theorem nf_8_16 : ∀ r ty, clOK 8 r ty → (r.2.1 16).2.2.2 = false := fun r ty h => by have e := h.1; cases e; exact rfl
theorem nf_8_17 : ∀ r ty, clOK 8 r ty → ((r.2.1 17).2.2.2 = true ∧ r.1 = "DoorRoundsModel") := fun r ty h => by have e := h.1; cases e; exact ⟨rfl, rfl⟩
theorem nf_8_18 : ∀ r ty, clOK 8 r ty → (r.2.1 18).2.2.2 = false := fun r ty h => by have e := h.1; cases e; exact rfl
theorem nf_8_19 : ∀ r ty, clOK 8 r ty → (r.2.1 19).2.2.2 = false := fun r ty h => by have e := h.1; cases e; exact rfl
theorem nf_8_20 : ∀ r ty, clOK 8 r ty → ((r.2.1 20).2.2.2 = true ∧ r.1 = "DoorRoundsModel") := fun r ty h => by have e := h.1; cases e; exact ⟨rfl, rfl⟩
theorem nf_8_21 : ∀ r ty, clOK 8 r ty → ((r.2.1 21).2.2.2 = true ∧ r.1 = "DoorRoundsModel") := fun r ty h => by have e := h.1; cases e; exact ⟨rfl, rfl⟩
theorem nf_8_22 : ∀ r ty, clOK 8 r ty → ((r.2.1 22).2.2.2 = true ∧ r.1 = "DoorRoundsModel") := fun r ty h => by have e := h.1; cases e; exact ⟨rfl, rfl⟩
theorem nf_8_23 : ∀ r ty, clOK 8 r ty → ((r.2.1 23).2.2.2 = true ∧ r.1 = "DoorRoundsModel") := fun r ty h => by have e := h.1; cases e; exact ⟨rfl, rfl⟩
theorem nf_8_24 : ∀ r ty, clOK 8 r ty → ((r.2.1 24).2.2.2 = true ∧ r.1 = "DoorRoundsModel") := fun r ty h => by have e := h.1; cases e; exact ⟨rfl, rfl⟩
theorem nf_8_25 : ∀ r ty, clOK 8 r ty → ((r.2.1 25).2.2.2 = true ∧ r.1 = "DoorRoundsModel") := fun r ty h => by have e := h.1; cases e; exact ⟨rfl, rfl⟩
theorem nf_8_26 : ∀ r ty, clOK 8 r ty → ((r.2.1 26).2.2.2 = true ∧ r.1 = "DoorRoundsModel") := fun r ty h => by have e := h.1; cases e; exact ⟨rfl, rfl⟩
theorem nf_8_27 : ∀ r ty, clOK 8 r ty → ((r.2.1 27).2.2.2 = true ∧ r.1 = "DoorRoundsModel") := fun r ty h => by have e := h.1; cases e; exact ⟨rfl, rfl⟩
theorem nf_8_28 : ∀ r ty, clOK 8 r ty → (r.2.1 28).2.2.2 = false := fun r ty h => by have e := h.1; cases e; exact rfl
theorem nf_8_29 : ∀ r ty, clOK 8 r ty → ((r.2.1 29).2.2.2 = true ∧ r.1 = "DoorRoundsModel") := fun r ty h => by have e := h.1; cases e; exact ⟨rfl, rfl⟩
theorem nf_8_30 : ∀ r ty, clOK 8 r ty → ((r.2.1 30).2.2.2 = true ∧ r.1 = "DoorRoundsModel") := fun r ty h => by have e := h.1; cases e; exact ⟨rfl, rfl⟩
theorem nf_8_31 : ∀ r ty, clOK 8 r ty → (r.2.1 31).2.2.2 = false := fun r ty h => by have e := h.1; cases e; exact rfl
theorem nf_8_32 : ∀ r ty, clOK 8 r ty → (r.2.1 32).2.2.2 = false := fun r ty h => by have e := h.1; cases e; exact rfl
theorem ar_I : Cond.arrayClass .int ∈ lw_g := lw_in (i := 42) (by decide +kernel) (by decide +kernel)
theorem ar_J : Cond.arrayClass .long ∈ lw_g := lw_in (i := 95) (by decide +kernel) (by decide +kernel)
