abbrev L_law : pY := (x, code, 4, ret, 9, 310)
def t_L_law_0 : List (Nat × Instr × Nat) := [(0, .new 7, 3), (3, .dup, 1), (4, .invokespecial 9, 3), (7, .astore_n 1, 1), (8, .new 10, 3), (11, .dup, 1), (12, .invokespecial 12, 3), (15, .astore_n 2, 1)]
theorem d_L_law_0 : t_L_law_0.all (fun q => decide (decode code q.1 = .ok q.2)) = true := by decide +kernel
def t_L_law_1 : List (Nat × Instr × Nat) := [(16, .iconst 0, 1), (17, .istore_n 3, 1), (18, .iload_n 3, 1), (19, .aload_n 0, 1), (20, .arraylength, 1), (21, .bipush 6, 2), (23, .isub, 1), (24, .if_icmp .gt 1724, 3)]
theorem d_L_law_1 : t_L_law_1.all (fun q => decide (decode code q.1 = .ok q.2)) = true := by decide +kernel
def t_L_law_2 : List (Nat × Instr × Nat) := [(27, .aload_n 0, 1), (28, .iload_n 3, 1), (29, .iaload, 1), (30, .bipush 63, 2), (32, .iand, 1), (33, .tableswitch 1709 0 51 #[223, 256, 299, 332, 355, 418, 441, 474, 517, 540, 563, 596, 629, 652, 675, 698, 721, 744, 767, 800, 833, 846, 869, 892, 925, 958, 1001, 1044, 1077, 1110, 1153, 1206, 1249, 1282, 1295, 1308, 1351, 1374, 1397, 1420, 1463, 1496, 1529, 1552, 1575, 1598, 1611, 1624, 1637, 1660, 1673, 1696], 223), (256, .aload_n 1, 1), (257, .aload_n 0, 1)]
theorem d_L_law_2 : t_L_law_2.all (fun q => decide (decode code q.1 = .ok q.2)) = true := by decide +kernel
def t_L_law_3 : List (Nat × Instr × Nat) := [(258, .iload_n 3, 1), (259, .iconst 1, 1), (260, .iadd, 1), (261, .iaload, 1), (262, .aload_n 0, 1), (263, .iload_n 3, 1), (264, .iconst 2, 1), (265, .iadd, 1)]
theorem d_L_law_3 : t_L_law_3.all (fun q => decide (decode code q.1 = .ok q.2)) = true := by decide +kernel
def t_L_law_4 : List (Nat × Instr × Nat) := [(266, .iaload, 1), (267, .invokevirtual 13, 3), (270, .pop, 1), (271, .aload_n 2, 1), (272, .aload_n 0, 1), (273, .iload_n 3, 1), (274, .iconst 1, 1), (275, .iadd, 1)]
theorem d_L_law_4 : t_L_law_4.all (fun q => decide (decode code q.1 = .ok q.2)) = true := by decide +kernel
def t_L_law_5 : List (Nat × Instr × Nat) := [(276, .iaload, 1), (277, .aload_n 0, 1), (278, .iload_n 3, 1), (279, .iconst 2, 1), (280, .iadd, 1), (281, .iaload, 1), (282, .invokevirtual 17, 3), (285, .pop, 1)]
theorem d_L_law_5 : t_L_law_5.all (fun q => decide (decode code q.1 = .ok q.2)) = true := by decide +kernel
def t_L_law_6 : List (Nat × Instr × Nat) := [(286, .goto 1456, 3), (289, .aload_n 1, 1), (290, .aload_n 0, 1), (291, .iload_n 3, 1), (292, .iconst 1, 1), (293, .iadd, 1), (294, .iaload, 1), (295, .aload_n 0, 1)]
theorem d_L_law_6 : t_L_law_6.all (fun q => decide (decode code q.1 = .ok q.2)) = true := by decide +kernel
def t_L_law_7 : List (Nat × Instr × Nat) := [(296, .iload_n 3, 1), (297, .iconst 2, 1), (298, .iadd, 1), (299, .iaload, 1), (300, .aload_n 0, 1), (301, .iload_n 3, 1), (302, .iconst 3, 1), (303, .iadd, 1)]
theorem d_L_law_7 : t_L_law_7.all (fun q => decide (decode code q.1 = .ok q.2)) = true := by decide +kernel
def t_L_law_8 : List (Nat × Instr × Nat) := [(304, .iaload, 1), (305, .invokevirtual 18, 3), (308, .pop, 1), (309, .aload_n 2, 1), (310, .aload_n 0, 1), (311, .iload_n 3, 1), (312, .iconst 1, 1), (313, .iadd, 1)]
theorem d_L_law_8 : t_L_law_8.all (fun q => decide (decode code q.1 = .ok q.2)) = true := by decide +kernel
def t_L_law_9 : List (Nat × Instr × Nat) := [(314, .iaload, 1), (315, .aload_n 0, 1), (316, .iload_n 3, 1), (317, .iconst 2, 1), (318, .iadd, 1), (319, .iaload, 1), (320, .aload_n 0, 1), (321, .iload_n 3, 1)]
theorem d_L_law_9 : t_L_law_9.all (fun q => decide (decode code q.1 = .ok q.2)) = true := by decide +kernel
def t_L_law_10 : List (Nat × Instr × Nat) := [(322, .iconst 3, 1), (323, .iadd, 1), (324, .iaload, 1), (325, .invokevirtual 22, 3), (328, .pop, 1), (329, .goto 1413, 3), (332, .aload_n 1, 1), (333, .aload_n 0, 1)]
theorem d_L_law_10 : t_L_law_10.all (fun q => decide (decode code q.1 = .ok q.2)) = true := by decide +kernel
def t_L_law_11 : List (Nat × Instr × Nat) := [(334, .iload_n 3, 1), (335, .iconst 1, 1), (336, .iadd, 1), (337, .iaload, 1), (338, .aload_n 0, 1), (339, .iload_n 3, 1), (340, .iconst 2, 1), (341, .iadd, 1)]
theorem d_L_law_11 : t_L_law_11.all (fun q => decide (decode code q.1 = .ok q.2)) = true := by decide +kernel
def t_L_law_12 : List (Nat × Instr × Nat) := [(342, .iaload, 1), (343, .invokevirtual 23, 3), (346, .pop, 1), (347, .aload_n 2, 1), (348, .aload_n 0, 1), (349, .iload_n 3, 1), (350, .iconst 1, 1), (351, .iadd, 1)]
theorem d_L_law_12 : t_L_law_12.all (fun q => decide (decode code q.1 = .ok q.2)) = true := by decide +kernel
def t_L_law_13 : List (Nat × Instr × Nat) := [(352, .iaload, 1), (353, .aload_n 0, 1), (354, .iload_n 3, 1), (355, .iconst 2, 1), (356, .iadd, 1), (357, .iaload, 1), (358, .invokevirtual 26, 3), (361, .pop, 1)]
theorem d_L_law_13 : t_L_law_13.all (fun q => decide (decode code q.1 = .ok q.2)) = true := by decide +kernel
def t_L_law_14 : List (Nat × Instr × Nat) := [(362, .goto 1380, 3), (365, .aload_n 1, 1), (366, .aload_n 0, 1), (367, .iload_n 3, 1), (368, .iconst 1, 1), (369, .iadd, 1), (370, .iaload, 1), (371, .invokevirtual 27, 3)]
theorem d_L_law_14 : t_L_law_14.all (fun q => decide (decode code q.1 = .ok q.2)) = true := by decide +kernel
def t_L_law_15 : List (Nat × Instr × Nat) := [(374, .pop, 1), (375, .aload_n 2, 1), (376, .aload_n 0, 1), (377, .iload_n 3, 1), (378, .iconst 1, 1), (379, .iadd, 1), (380, .iaload, 1), (381, .invokevirtual 31, 3)]
theorem d_L_law_15 : t_L_law_15.all (fun q => decide (decode code q.1 = .ok q.2)) = true := by decide +kernel
def t_L_law_16 : List (Nat × Instr × Nat) := [(384, .pop, 1), (385, .goto 1357, 3), (388, .aload_n 1, 1), (389, .aload_n 0, 1), (390, .iload_n 3, 1), (391, .iconst 1, 1), (392, .iadd, 1), (393, .iaload, 1)]
theorem d_L_law_16 : t_L_law_16.all (fun q => decide (decode code q.1 = .ok q.2)) = true := by decide +kernel
def t_L_law_17 : List (Nat × Instr × Nat) := [(394, .aload_n 0, 1), (395, .iload_n 3, 1), (396, .iconst 2, 1), (397, .iadd, 1), (398, .iaload, 1), (399, .aload_n 0, 1), (400, .iload_n 3, 1), (401, .iconst 3, 1)]
theorem d_L_law_17 : t_L_law_17.all (fun q => decide (decode code q.1 = .ok q.2)) = true := by decide +kernel
def t_L_law_18 : List (Nat × Instr × Nat) := [(402, .iadd, 1), (403, .iaload, 1), (404, .aload_n 0, 1), (405, .iload_n 3, 1), (406, .iconst 4, 1), (407, .iadd, 1), (408, .iaload, 1), (409, .aload_n 0, 1)]
theorem d_L_law_18 : t_L_law_18.all (fun q => decide (decode code q.1 = .ok q.2)) = true := by decide +kernel
def t_L_law_19 : List (Nat × Instr × Nat) := [(410, .iload_n 3, 1), (411, .iconst 5, 1), (412, .iadd, 1), (413, .iaload, 1), (414, .invokevirtual 32, 3), (417, .pop, 1), (418, .aload_n 2, 1), (419, .aload_n 0, 1)]
theorem d_L_law_19 : t_L_law_19.all (fun q => decide (decode code q.1 = .ok q.2)) = true := by decide +kernel
def t_L_law_20 : List (Nat × Instr × Nat) := [(420, .iload_n 3, 1), (421, .iconst 1, 1), (422, .iadd, 1), (423, .iaload, 1), (424, .aload_n 0, 1), (425, .iload_n 3, 1), (426, .iconst 2, 1), (427, .iadd, 1)]
theorem d_L_law_20 : t_L_law_20.all (fun q => decide (decode code q.1 = .ok q.2)) = true := by decide +kernel
def t_L_law_21 : List (Nat × Instr × Nat) := [(428, .iaload, 1), (429, .aload_n 0, 1), (430, .iload_n 3, 1), (431, .iconst 3, 1), (432, .iadd, 1), (433, .iaload, 1), (434, .aload_n 0, 1), (435, .iload_n 3, 1)]
theorem d_L_law_21 : t_L_law_21.all (fun q => decide (decode code q.1 = .ok q.2)) = true := by decide +kernel
def t_L_law_22 : List (Nat × Instr × Nat) := [(436, .iconst 4, 1), (437, .iadd, 1), (438, .iaload, 1), (439, .aload_n 0, 1), (440, .iload_n 3, 1), (441, .iconst 5, 1), (442, .iadd, 1), (443, .iaload, 1)]
theorem d_L_law_22 : t_L_law_22.all (fun q => decide (decode code q.1 = .ok q.2)) = true := by decide +kernel
def t_L_law_23 : List (Nat × Instr × Nat) := [(444, .invokevirtual 36, 3), (447, .pop, 1), (448, .goto 1294, 3), (451, .aload_n 1, 1), (452, .aload_n 0, 1), (453, .iload_n 3, 1), (454, .iconst 1, 1), (455, .iadd, 1)]
theorem d_L_law_23 : t_L_law_23.all (fun q => decide (decode code q.1 = .ok q.2)) = true := by decide +kernel
def t_L_law_24 : List (Nat × Instr × Nat) := [(456, .iaload, 1), (457, .invokevirtual 37, 3), (460, .pop, 1), (461, .aload_n 2, 1), (462, .aload_n 0, 1), (463, .iload_n 3, 1), (464, .iconst 1, 1), (465, .iadd, 1)]
theorem d_L_law_24 : t_L_law_24.all (fun q => decide (decode code q.1 = .ok q.2)) = true := by decide +kernel
def t_L_law_25 : List (Nat × Instr × Nat) := [(466, .iaload, 1), (467, .invokevirtual 40, 3), (470, .pop, 1), (471, .goto 1271, 3), (474, .aload_n 1, 1), (475, .aload_n 0, 1), (476, .iload_n 3, 1), (477, .iconst 1, 1)]
theorem d_L_law_25 : t_L_law_25.all (fun q => decide (decode code q.1 = .ok q.2)) = true := by decide +kernel
def t_L_law_26 : List (Nat × Instr × Nat) := [(478, .iadd, 1), (479, .iaload, 1), (480, .aload_n 0, 1), (481, .iload_n 3, 1), (482, .iconst 2, 1), (483, .iadd, 1), (484, .iaload, 1), (485, .invokevirtual 41, 3)]
theorem d_L_law_26 : t_L_law_26.all (fun q => decide (decode code q.1 = .ok q.2)) = true := by decide +kernel
def t_L_law_27 : List (Nat × Instr × Nat) := [(488, .pop, 1), (489, .aload_n 2, 1), (490, .aload_n 0, 1), (491, .iload_n 3, 1), (492, .iconst 1, 1), (493, .iadd, 1), (494, .iaload, 1), (495, .aload_n 0, 1)]
theorem d_L_law_27 : t_L_law_27.all (fun q => decide (decode code q.1 = .ok q.2)) = true := by decide +kernel
def t_L_law_28 : List (Nat × Instr × Nat) := [(496, .iload_n 3, 1), (497, .iconst 2, 1), (498, .iadd, 1), (499, .iaload, 1), (500, .invokevirtual 44, 3), (503, .pop, 1), (504, .goto 1238, 3), (507, .aload_n 1, 1)]
theorem d_L_law_28 : t_L_law_28.all (fun q => decide (decode code q.1 = .ok q.2)) = true := by decide +kernel
def t_L_law_29 : List (Nat × Instr × Nat) := [(508, .aload_n 0, 1), (509, .iload_n 3, 1), (510, .iconst 1, 1), (511, .iadd, 1), (512, .iaload, 1), (513, .aload_n 0, 1), (514, .iload_n 3, 1), (515, .iconst 2, 1)]
theorem d_L_law_29 : t_L_law_29.all (fun q => decide (decode code q.1 = .ok q.2)) = true := by decide +kernel
def t_L_law_30 : List (Nat × Instr × Nat) := [(516, .iadd, 1), (517, .iaload, 1), (518, .aload_n 0, 1), (519, .iload_n 3, 1), (520, .iconst 3, 1), (521, .iadd, 1), (522, .iaload, 1), (523, .invokevirtual 45, 3)]
theorem d_L_law_30 : t_L_law_30.all (fun q => decide (decode code q.1 = .ok q.2)) = true := by decide +kernel
def t_L_law_31 : List (Nat × Instr × Nat) := [(526, .pop, 1), (527, .aload_n 2, 1), (528, .aload_n 0, 1), (529, .iload_n 3, 1), (530, .iconst 1, 1), (531, .iadd, 1), (532, .iaload, 1), (533, .aload_n 0, 1)]
theorem d_L_law_31 : t_L_law_31.all (fun q => decide (decode code q.1 = .ok q.2)) = true := by decide +kernel
def t_L_law_32 : List (Nat × Instr × Nat) := [(534, .iload_n 3, 1), (535, .iconst 2, 1), (536, .iadd, 1), (537, .iaload, 1), (538, .aload_n 0, 1), (539, .iload_n 3, 1), (540, .iconst 3, 1), (541, .iadd, 1)]
theorem d_L_law_32 : t_L_law_32.all (fun q => decide (decode code q.1 = .ok q.2)) = true := by decide +kernel
def t_L_law_33 : List (Nat × Instr × Nat) := [(542, .iaload, 1), (543, .invokevirtual 48, 3), (546, .pop, 1), (547, .goto 1195, 3), (550, .aload_n 1, 1), (551, .aload_n 0, 1), (552, .iload_n 3, 1), (553, .iconst 1, 1)]
theorem d_L_law_33 : t_L_law_33.all (fun q => decide (decode code q.1 = .ok q.2)) = true := by decide +kernel
def t_L_law_34 : List (Nat × Instr × Nat) := [(554, .iadd, 1), (555, .iaload, 1), (556, .invokevirtual 49, 3), (559, .pop, 1), (560, .aload_n 2, 1), (561, .aload_n 0, 1), (562, .iload_n 3, 1), (563, .iconst 1, 1)]
theorem d_L_law_34 : t_L_law_34.all (fun q => decide (decode code q.1 = .ok q.2)) = true := by decide +kernel
def t_L_law_35 : List (Nat × Instr × Nat) := [(564, .iadd, 1), (565, .iaload, 1), (566, .invokevirtual 52, 3), (569, .pop, 1), (570, .goto 1172, 3), (573, .aload_n 1, 1), (574, .aload_n 0, 1), (575, .iload_n 3, 1)]
theorem d_L_law_35 : t_L_law_35.all (fun q => decide (decode code q.1 = .ok q.2)) = true := by decide +kernel
def t_L_law_36 : List (Nat × Instr × Nat) := [(576, .iconst 1, 1), (577, .iadd, 1), (578, .iaload, 1), (579, .invokevirtual 53, 3), (582, .pop, 1), (583, .aload_n 2, 1), (584, .aload_n 0, 1), (585, .iload_n 3, 1)]
theorem d_L_law_36 : t_L_law_36.all (fun q => decide (decode code q.1 = .ok q.2)) = true := by decide +kernel
def t_L_law_37 : List (Nat × Instr × Nat) := [(586, .iconst 1, 1), (587, .iadd, 1), (588, .iaload, 1), (589, .invokevirtual 56, 3), (592, .pop, 1), (593, .goto 1149, 3), (596, .aload_n 1, 1), (597, .aload_n 0, 1)]
theorem d_L_law_37 : t_L_law_37.all (fun q => decide (decode code q.1 = .ok q.2)) = true := by decide +kernel
def t_L_law_38 : List (Nat × Instr × Nat) := [(598, .iload_n 3, 1), (599, .iconst 1, 1), (600, .iadd, 1), (601, .iaload, 1), (602, .aload_n 0, 1), (603, .iload_n 3, 1), (604, .iconst 2, 1), (605, .iadd, 1)]
theorem d_L_law_38 : t_L_law_38.all (fun q => decide (decode code q.1 = .ok q.2)) = true := by decide +kernel
def t_L_law_39 : List (Nat × Instr × Nat) := [(606, .iaload, 1), (607, .invokevirtual 57, 3), (610, .aload_n 2, 1), (611, .aload_n 0, 1), (612, .iload_n 3, 1), (613, .iconst 1, 1), (614, .iadd, 1), (615, .iaload, 1)]
theorem d_L_law_39 : t_L_law_39.all (fun q => decide (decode code q.1 = .ok q.2)) = true := by decide +kernel
def t_L_law_40 : List (Nat × Instr × Nat) := [(616, .aload_n 0, 1), (617, .iload_n 3, 1), (618, .iconst 2, 1), (619, .iadd, 1), (620, .iaload, 1), (621, .invokevirtual 60, 3), (624, .if_icmp .eq 1118, 3), (627, .iconst 0, 1)]
theorem d_L_law_40 : t_L_law_40.all (fun q => decide (decode code q.1 = .ok q.2)) = true := by decide +kernel
def t_L_law_41 : List (Nat × Instr × Nat) := [(628, .ireturn, 1), (629, .aload_n 1, 1), (630, .aload_n 0, 1), (631, .iload_n 3, 1), (632, .iconst 1, 1), (633, .iadd, 1), (634, .iaload, 1), (635, .aload_n 0, 1)]
theorem d_L_law_41 : t_L_law_41.all (fun q => decide (decode code q.1 = .ok q.2)) = true := by decide +kernel
def t_L_law_42 : List (Nat × Instr × Nat) := [(636, .iload_n 3, 1), (637, .iconst 2, 1), (638, .iadd, 1), (639, .iaload, 1), (640, .invokevirtual 61, 3), (643, .pop, 1), (644, .aload_n 2, 1), (645, .aload_n 0, 1)]
theorem d_L_law_42 : t_L_law_42.all (fun q => decide (decode code q.1 = .ok q.2)) = true := by decide +kernel
def t_L_law_43 : List (Nat × Instr × Nat) := [(646, .iload_n 3, 1), (647, .iconst 1, 1), (648, .iadd, 1), (649, .iaload, 1), (650, .aload_n 0, 1), (651, .iload_n 3, 1), (652, .iconst 2, 1), (653, .iadd, 1)]
theorem d_L_law_43 : t_L_law_43.all (fun q => decide (decode code q.1 = .ok q.2)) = true := by decide +kernel
def t_L_law_44 : List (Nat × Instr × Nat) := [(654, .iaload, 1), (655, .invokevirtual 64, 3), (658, .pop, 1), (659, .goto 1083, 3), (662, .aload_n 1, 1), (663, .aload_n 0, 1), (664, .iload_n 3, 1), (665, .iconst 1, 1)]
theorem d_L_law_44 : t_L_law_44.all (fun q => decide (decode code q.1 = .ok q.2)) = true := by decide +kernel
def t_L_law_45 : List (Nat × Instr × Nat) := [(666, .iadd, 1), (667, .iaload, 1), (668, .invokevirtual 65, 3), (671, .pop, 1), (672, .aload_n 2, 1), (673, .aload_n 0, 1), (674, .iload_n 3, 1), (675, .iconst 1, 1)]
theorem d_L_law_45 : t_L_law_45.all (fun q => decide (decode code q.1 = .ok q.2)) = true := by decide +kernel
def t_L_law_46 : List (Nat × Instr × Nat) := [(676, .iadd, 1), (677, .iaload, 1), (678, .invokevirtual 68, 3), (681, .pop, 1), (682, .goto 1060, 3), (685, .aload_n 1, 1), (686, .aload_n 0, 1), (687, .iload_n 3, 1)]
theorem d_L_law_46 : t_L_law_46.all (fun q => decide (decode code q.1 = .ok q.2)) = true := by decide +kernel
def t_L_law_47 : List (Nat × Instr × Nat) := [(688, .iconst 1, 1), (689, .iadd, 1), (690, .iaload, 1), (691, .invokevirtual 69, 3), (694, .pop, 1), (695, .aload_n 2, 1), (696, .aload_n 0, 1), (697, .iload_n 3, 1)]
theorem d_L_law_47 : t_L_law_47.all (fun q => decide (decode code q.1 = .ok q.2)) = true := by decide +kernel
def t_L_law_48 : List (Nat × Instr × Nat) := [(698, .iconst 1, 1), (699, .iadd, 1), (700, .iaload, 1), (701, .invokevirtual 72, 3), (704, .pop, 1), (705, .goto 1037, 3), (708, .aload_n 1, 1), (709, .aload_n 0, 1)]
theorem d_L_law_48 : t_L_law_48.all (fun q => decide (decode code q.1 = .ok q.2)) = true := by decide +kernel
def t_L_law_49 : List (Nat × Instr × Nat) := [(710, .iload_n 3, 1), (711, .iconst 1, 1), (712, .iadd, 1), (713, .iaload, 1), (714, .invokevirtual 73, 3), (717, .pop, 1), (718, .aload_n 2, 1), (719, .aload_n 0, 1)]
theorem d_L_law_49 : t_L_law_49.all (fun q => decide (decode code q.1 = .ok q.2)) = true := by decide +kernel
def t_L_law_50 : List (Nat × Instr × Nat) := [(720, .iload_n 3, 1), (721, .iconst 1, 1), (722, .iadd, 1), (723, .iaload, 1), (724, .invokevirtual 76, 3), (727, .pop, 1), (728, .goto 1014, 3), (731, .aload_n 1, 1)]
theorem d_L_law_50 : t_L_law_50.all (fun q => decide (decode code q.1 = .ok q.2)) = true := by decide +kernel
def t_L_law_51 : List (Nat × Instr × Nat) := [(732, .aload_n 0, 1), (733, .iload_n 3, 1), (734, .iconst 1, 1), (735, .iadd, 1), (736, .iaload, 1), (737, .invokevirtual 77, 3), (740, .pop, 1), (741, .aload_n 2, 1)]
theorem d_L_law_51 : t_L_law_51.all (fun q => decide (decode code q.1 = .ok q.2)) = true := by decide +kernel
def t_L_law_52 : List (Nat × Instr × Nat) := [(742, .aload_n 0, 1), (743, .iload_n 3, 1), (744, .iconst 1, 1), (745, .iadd, 1), (746, .iaload, 1), (747, .invokevirtual 80, 3), (750, .pop, 1), (751, .goto 991, 3)]
theorem d_L_law_52 : t_L_law_52.all (fun q => decide (decode code q.1 = .ok q.2)) = true := by decide +kernel
def t_L_law_53 : List (Nat × Instr × Nat) := [(754, .aload_n 1, 1), (755, .aload_n 0, 1), (756, .iload_n 3, 1), (757, .iconst 1, 1), (758, .iadd, 1), (759, .iaload, 1), (760, .invokevirtual 81, 3), (763, .pop, 1)]
theorem d_L_law_53 : t_L_law_53.all (fun q => decide (decode code q.1 = .ok q.2)) = true := by decide +kernel
def t_L_law_54 : List (Nat × Instr × Nat) := [(764, .aload_n 2, 1), (765, .aload_n 0, 1), (766, .iload_n 3, 1), (767, .iconst 1, 1), (768, .iadd, 1), (769, .iaload, 1), (770, .invokevirtual 84, 3), (773, .pop, 1)]
theorem d_L_law_54 : t_L_law_54.all (fun q => decide (decode code q.1 = .ok q.2)) = true := by decide +kernel
def t_L_law_55 : List (Nat × Instr × Nat) := [(774, .goto 968, 3), (777, .aload_n 1, 1), (778, .aload_n 0, 1), (779, .iload_n 3, 1), (780, .iconst 1, 1), (781, .iadd, 1), (782, .iaload, 1), (783, .invokevirtual 85, 3)]
theorem d_L_law_55 : t_L_law_55.all (fun q => decide (decode code q.1 = .ok q.2)) = true := by decide +kernel
def t_L_law_56 : List (Nat × Instr × Nat) := [(786, .pop, 1), (787, .aload_n 2, 1), (788, .aload_n 0, 1), (789, .iload_n 3, 1), (790, .iconst 1, 1), (791, .iadd, 1), (792, .iaload, 1), (793, .invokevirtual 88, 3)]
theorem d_L_law_56 : t_L_law_56.all (fun q => decide (decode code q.1 = .ok q.2)) = true := by decide +kernel
def t_L_law_57 : List (Nat × Instr × Nat) := [(796, .pop, 1), (797, .goto 945, 3), (800, .aload_n 1, 1), (801, .aload_n 0, 1), (802, .iload_n 3, 1), (803, .iconst 1, 1), (804, .iadd, 1), (805, .iaload, 1)]
theorem d_L_law_57 : t_L_law_57.all (fun q => decide (decode code q.1 = .ok q.2)) = true := by decide +kernel
def t_L_law_58 : List (Nat × Instr × Nat) := [(806, .aload_n 0, 1), (807, .iload_n 3, 1), (808, .iconst 2, 1), (809, .iadd, 1), (810, .iaload, 1), (811, .invokevirtual 89, 3), (814, .pop, 1), (815, .aload_n 2, 1)]
theorem d_L_law_58 : t_L_law_58.all (fun q => decide (decode code q.1 = .ok q.2)) = true := by decide +kernel
def t_L_law_59 : List (Nat × Instr × Nat) := [(816, .aload_n 0, 1), (817, .iload_n 3, 1), (818, .iconst 1, 1), (819, .iadd, 1), (820, .iaload, 1), (821, .aload_n 0, 1), (822, .iload_n 3, 1), (823, .iconst 2, 1)]
theorem d_L_law_59 : t_L_law_59.all (fun q => decide (decode code q.1 = .ok q.2)) = true := by decide +kernel
def t_L_law_60 : List (Nat × Instr × Nat) := [(824, .iadd, 1), (825, .iaload, 1), (826, .invokevirtual 92, 3), (829, .pop, 1), (830, .goto 912, 3), (833, .aload_n 1, 1), (834, .aload_n 0, 1), (835, .iload_n 3, 1)]
theorem d_L_law_60 : t_L_law_60.all (fun q => decide (decode code q.1 = .ok q.2)) = true := by decide +kernel
def t_L_law_61 : List (Nat × Instr × Nat) := [(836, .iconst 1, 1), (837, .iadd, 1), (838, .iaload, 1), (839, .aload_n 0, 1), (840, .iload_n 3, 1), (841, .iconst 2, 1), (842, .iadd, 1), (843, .iaload, 1)]
theorem d_L_law_61 : t_L_law_61.all (fun q => decide (decode code q.1 = .ok q.2)) = true := by decide +kernel
def t_L_law_62 : List (Nat × Instr × Nat) := [(844, .invokevirtual 93, 3), (847, .pop, 1), (848, .aload_n 2, 1), (849, .aload_n 0, 1), (850, .iload_n 3, 1), (851, .iconst 1, 1), (852, .iadd, 1), (853, .iaload, 1)]
theorem d_L_law_62 : t_L_law_62.all (fun q => decide (decode code q.1 = .ok q.2)) = true := by decide +kernel
def t_L_law_63 : List (Nat × Instr × Nat) := [(854, .aload_n 0, 1), (855, .iload_n 3, 1), (856, .iconst 2, 1), (857, .iadd, 1), (858, .iaload, 1), (859, .invokevirtual 96, 3), (862, .pop, 1), (863, .goto 879, 3)]
theorem d_L_law_63 : t_L_law_63.all (fun q => decide (decode code q.1 = .ok q.2)) = true := by decide +kernel
def t_L_law_64 : List (Nat × Instr × Nat) := [(866, .aload_n 1, 1), (867, .invokevirtual 97, 3), (870, .pop, 1), (871, .aload_n 2, 1), (872, .invokevirtual 101, 3), (875, .pop, 1), (876, .goto 866, 3), (879, .aload_n 1, 1)]
theorem d_L_law_64 : t_L_law_64.all (fun q => decide (decode code q.1 = .ok q.2)) = true := by decide +kernel
def t_L_law_65 : List (Nat × Instr × Nat) := [(880, .aload_n 0, 1), (881, .iload_n 3, 1), (882, .iconst 1, 1), (883, .iadd, 1), (884, .iaload, 1), (885, .invokevirtual 102, 3), (888, .pop, 1), (889, .aload_n 2, 1)]
theorem d_L_law_65 : t_L_law_65.all (fun q => decide (decode code q.1 = .ok q.2)) = true := by decide +kernel
def t_L_law_66 : List (Nat × Instr × Nat) := [(890, .aload_n 0, 1), (891, .iload_n 3, 1), (892, .iconst 1, 1), (893, .iadd, 1), (894, .iaload, 1), (895, .invokevirtual 105, 3), (898, .pop, 1), (899, .goto 843, 3)]
theorem d_L_law_66 : t_L_law_66.all (fun q => decide (decode code q.1 = .ok q.2)) = true := by decide +kernel
def t_L_law_67 : List (Nat × Instr × Nat) := [(902, .aload_n 1, 1), (903, .aload_n 0, 1), (904, .iload_n 3, 1), (905, .iconst 1, 1), (906, .iadd, 1), (907, .iaload, 1), (908, .invokevirtual 106, 3), (911, .pop, 1)]
theorem d_L_law_67 : t_L_law_67.all (fun q => decide (decode code q.1 = .ok q.2)) = true := by decide +kernel
def t_L_law_68 : List (Nat × Instr × Nat) := [(912, .aload_n 2, 1), (913, .aload_n 0, 1), (914, .iload_n 3, 1), (915, .iconst 1, 1), (916, .iadd, 1), (917, .iaload, 1), (918, .invokevirtual 109, 3), (921, .pop, 1)]
theorem d_L_law_68 : t_L_law_68.all (fun q => decide (decode code q.1 = .ok q.2)) = true := by decide +kernel
def t_L_law_69 : List (Nat × Instr × Nat) := [(922, .goto 820, 3), (925, .aload_n 1, 1), (926, .aload_n 0, 1), (927, .iload_n 3, 1), (928, .iconst 1, 1), (929, .iadd, 1), (930, .iaload, 1), (931, .aload_n 0, 1)]
theorem d_L_law_69 : t_L_law_69.all (fun q => decide (decode code q.1 = .ok q.2)) = true := by decide +kernel
def t_L_law_70 : List (Nat × Instr × Nat) := [(932, .iload_n 3, 1), (933, .iconst 2, 1), (934, .iadd, 1), (935, .iaload, 1), (936, .invokevirtual 110, 3), (939, .pop, 1), (940, .aload_n 2, 1), (941, .aload_n 0, 1)]
theorem d_L_law_70 : t_L_law_70.all (fun q => decide (decode code q.1 = .ok q.2)) = true := by decide +kernel
def t_L_law_71 : List (Nat × Instr × Nat) := [(942, .iload_n 3, 1), (943, .iconst 1, 1), (944, .iadd, 1), (945, .iaload, 1), (946, .aload_n 0, 1), (947, .iload_n 3, 1), (948, .iconst 2, 1), (949, .iadd, 1)]
theorem d_L_law_71 : t_L_law_71.all (fun q => decide (decode code q.1 = .ok q.2)) = true := by decide +kernel
def t_L_law_72 : List (Nat × Instr × Nat) := [(950, .iaload, 1), (951, .invokevirtual 113, 3), (954, .pop, 1), (955, .goto 787, 3), (958, .aload_n 1, 1), (959, .aload_n 0, 1), (960, .iload_n 3, 1), (961, .iconst 1, 1)]
theorem d_L_law_72 : t_L_law_72.all (fun q => decide (decode code q.1 = .ok q.2)) = true := by decide +kernel
def t_L_law_73 : List (Nat × Instr × Nat) := [(962, .iadd, 1), (963, .iaload, 1), (964, .aload_n 0, 1), (965, .iload_n 3, 1), (966, .iconst 2, 1), (967, .iadd, 1), (968, .iaload, 1), (969, .invokevirtual 114, 3)]
theorem d_L_law_73 : t_L_law_73.all (fun q => decide (decode code q.1 = .ok q.2)) = true := by decide +kernel
def t_L_law_74 : List (Nat × Instr × Nat) := [(972, .pop, 1), (973, .aload_n 2, 1), (974, .aload_n 0, 1), (975, .iload_n 3, 1), (976, .iconst 1, 1), (977, .iadd, 1), (978, .iaload, 1), (979, .aload_n 0, 1)]
theorem d_L_law_74 : t_L_law_74.all (fun q => decide (decode code q.1 = .ok q.2)) = true := by decide +kernel
def t_L_law_75 : List (Nat × Instr × Nat) := [(980, .iload_n 3, 1), (981, .iconst 2, 1), (982, .iadd, 1), (983, .iaload, 1), (984, .invokevirtual 117, 3), (987, .pop, 1), (988, .goto 754, 3), (991, .aload_n 1, 1)]
theorem d_L_law_75 : t_L_law_75.all (fun q => decide (decode code q.1 = .ok q.2)) = true := by decide +kernel
def t_L_law_76 : List (Nat × Instr × Nat) := [(992, .aload_n 0, 1), (993, .iload_n 3, 1), (994, .iconst 1, 1), (995, .iadd, 1), (996, .iaload, 1), (997, .aload_n 0, 1), (998, .iload_n 3, 1), (999, .iconst 2, 1)]
theorem d_L_law_76 : t_L_law_76.all (fun q => decide (decode code q.1 = .ok q.2)) = true := by decide +kernel
def t_L_law_77 : List (Nat × Instr × Nat) := [(1000, .iadd, 1), (1001, .iaload, 1), (1002, .aload_n 0, 1), (1003, .iload_n 3, 1), (1004, .iconst 3, 1), (1005, .iadd, 1), (1006, .iaload, 1), (1007, .invokevirtual 118, 3)]
theorem d_L_law_77 : t_L_law_77.all (fun q => decide (decode code q.1 = .ok q.2)) = true := by decide +kernel
def t_L_law_78 : List (Nat × Instr × Nat) := [(1010, .pop, 1), (1011, .aload_n 2, 1), (1012, .aload_n 0, 1), (1013, .iload_n 3, 1), (1014, .iconst 1, 1), (1015, .iadd, 1), (1016, .iaload, 1), (1017, .aload_n 0, 1)]
theorem d_L_law_78 : t_L_law_78.all (fun q => decide (decode code q.1 = .ok q.2)) = true := by decide +kernel
def t_L_law_79 : List (Nat × Instr × Nat) := [(1018, .iload_n 3, 1), (1019, .iconst 2, 1), (1020, .iadd, 1), (1021, .iaload, 1), (1022, .aload_n 0, 1), (1023, .iload_n 3, 1), (1024, .iconst 3, 1), (1025, .iadd, 1)]
theorem d_L_law_79 : t_L_law_79.all (fun q => decide (decode code q.1 = .ok q.2)) = true := by decide +kernel
def t_L_law_80 : List (Nat × Instr × Nat) := [(1026, .iaload, 1), (1027, .invokevirtual 121, 3), (1030, .pop, 1), (1031, .goto 711, 3), (1034, .aload_n 1, 1), (1035, .aload_n 0, 1), (1036, .iload_n 3, 1), (1037, .iconst 1, 1)]
theorem d_L_law_80 : t_L_law_80.all (fun q => decide (decode code q.1 = .ok q.2)) = true := by decide +kernel
def t_L_law_81 : List (Nat × Instr × Nat) := [(1038, .iadd, 1), (1039, .iaload, 1), (1040, .aload_n 0, 1), (1041, .iload_n 3, 1), (1042, .iconst 2, 1), (1043, .iadd, 1), (1044, .iaload, 1), (1045, .aload_n 0, 1)]
theorem d_L_law_81 : t_L_law_81.all (fun q => decide (decode code q.1 = .ok q.2)) = true := by decide +kernel
def t_L_law_82 : List (Nat × Instr × Nat) := [(1046, .iload_n 3, 1), (1047, .iconst 3, 1), (1048, .iadd, 1), (1049, .iaload, 1), (1050, .invokevirtual 122, 3), (1053, .pop, 1), (1054, .aload_n 2, 1), (1055, .aload_n 0, 1)]
theorem d_L_law_82 : t_L_law_82.all (fun q => decide (decode code q.1 = .ok q.2)) = true := by decide +kernel
def t_L_law_83 : List (Nat × Instr × Nat) := [(1056, .iload_n 3, 1), (1057, .iconst 1, 1), (1058, .iadd, 1), (1059, .iaload, 1), (1060, .aload_n 0, 1), (1061, .iload_n 3, 1), (1062, .iconst 2, 1), (1063, .iadd, 1)]
theorem d_L_law_83 : t_L_law_83.all (fun q => decide (decode code q.1 = .ok q.2)) = true := by decide +kernel
def t_L_law_84 : List (Nat × Instr × Nat) := [(1064, .iaload, 1), (1065, .aload_n 0, 1), (1066, .iload_n 3, 1), (1067, .iconst 3, 1), (1068, .iadd, 1), (1069, .iaload, 1), (1070, .invokevirtual 125, 3), (1073, .pop, 1)]
theorem d_L_law_84 : t_L_law_84.all (fun q => decide (decode code q.1 = .ok q.2)) = true := by decide +kernel
def t_L_law_85 : List (Nat × Instr × Nat) := [(1074, .goto 668, 3), (1077, .aload_n 1, 1), (1078, .aload_n 0, 1), (1079, .iload_n 3, 1), (1080, .iconst 1, 1), (1081, .iadd, 1), (1082, .iaload, 1), (1083, .aload_n 0, 1)]
theorem d_L_law_85 : t_L_law_85.all (fun q => decide (decode code q.1 = .ok q.2)) = true := by decide +kernel
def t_L_law_86 : List (Nat × Instr × Nat) := [(1084, .iload_n 3, 1), (1085, .iconst 2, 1), (1086, .iadd, 1), (1087, .iaload, 1), (1088, .invokevirtual 126, 3), (1091, .pop, 1), (1092, .aload_n 2, 1), (1093, .aload_n 0, 1)]
theorem d_L_law_86 : t_L_law_86.all (fun q => decide (decode code q.1 = .ok q.2)) = true := by decide +kernel
def t_L_law_87 : List (Nat × Instr × Nat) := [(1094, .iload_n 3, 1), (1095, .iconst 1, 1), (1096, .iadd, 1), (1097, .iaload, 1), (1098, .aload_n 0, 1), (1099, .iload_n 3, 1), (1100, .iconst 2, 1), (1101, .iadd, 1)]
theorem d_L_law_87 : t_L_law_87.all (fun q => decide (decode code q.1 = .ok q.2)) = true := by decide +kernel
def t_L_law_88 : List (Nat × Instr × Nat) := [(1102, .iaload, 1), (1103, .invokevirtual 129, 3), (1106, .pop, 1), (1107, .goto 635, 3), (1110, .aload_n 1, 1), (1111, .aload_n 0, 1), (1112, .iload_n 3, 1), (1113, .iconst 1, 1)]
theorem d_L_law_88 : t_L_law_88.all (fun q => decide (decode code q.1 = .ok q.2)) = true := by decide +kernel
def t_L_law_89 : List (Nat × Instr × Nat) := [(1114, .iadd, 1), (1115, .iaload, 1), (1116, .aload_n 0, 1), (1117, .iload_n 3, 1), (1118, .iconst 2, 1), (1119, .iadd, 1), (1120, .iaload, 1), (1121, .invokevirtual 130, 3)]
theorem d_L_law_89 : t_L_law_89.all (fun q => decide (decode code q.1 = .ok q.2)) = true := by decide +kernel
def t_L_law_90 : List (Nat × Instr × Nat) := [(1124, .pop, 1), (1125, .aload_n 2, 1), (1126, .aload_n 0, 1), (1127, .iload_n 3, 1), (1128, .iconst 1, 1), (1129, .iadd, 1), (1130, .iaload, 1), (1131, .aload_n 0, 1)]
theorem d_L_law_90 : t_L_law_90.all (fun q => decide (decode code q.1 = .ok q.2)) = true := by decide +kernel
def t_L_law_91 : List (Nat × Instr × Nat) := [(1132, .iload_n 3, 1), (1133, .iconst 2, 1), (1134, .iadd, 1), (1135, .iaload, 1), (1136, .invokevirtual 133, 3), (1139, .pop, 1), (1140, .goto 602, 3), (1143, .aload_n 1, 1)]
theorem d_L_law_91 : t_L_law_91.all (fun q => decide (decode code q.1 = .ok q.2)) = true := by decide +kernel
def t_L_law_92 : List (Nat × Instr × Nat) := [(1144, .aload_n 0, 1), (1145, .iload_n 3, 1), (1146, .iconst 1, 1), (1147, .iadd, 1), (1148, .iaload, 1), (1149, .aload_n 0, 1), (1150, .iload_n 3, 1), (1151, .iconst 2, 1)]
theorem d_L_law_92 : t_L_law_92.all (fun q => decide (decode code q.1 = .ok q.2)) = true := by decide +kernel
def t_L_law_93 : List (Nat × Instr × Nat) := [(1152, .iadd, 1), (1153, .iaload, 1), (1154, .aload_n 0, 1), (1155, .iload_n 3, 1), (1156, .iconst 3, 1), (1157, .iadd, 1), (1158, .iaload, 1), (1159, .invokevirtual 134, 3)]
theorem d_L_law_93 : t_L_law_93.all (fun q => decide (decode code q.1 = .ok q.2)) = true := by decide +kernel
def t_L_law_94 : List (Nat × Instr × Nat) := [(1162, .pop, 1), (1163, .aload_n 2, 1), (1164, .aload_n 0, 1), (1165, .iload_n 3, 1), (1166, .iconst 1, 1), (1167, .iadd, 1), (1168, .iaload, 1), (1169, .aload_n 0, 1)]
theorem d_L_law_94 : t_L_law_94.all (fun q => decide (decode code q.1 = .ok q.2)) = true := by decide +kernel
def t_L_law_95 : List (Nat × Instr × Nat) := [(1170, .iload_n 3, 1), (1171, .iconst 2, 1), (1172, .iadd, 1), (1173, .iaload, 1), (1174, .aload_n 0, 1), (1175, .iload_n 3, 1), (1176, .iconst 3, 1), (1177, .iadd, 1)]
theorem d_L_law_95 : t_L_law_95.all (fun q => decide (decode code q.1 = .ok q.2)) = true := by decide +kernel
def t_L_law_96 : List (Nat × Instr × Nat) := [(1178, .iaload, 1), (1179, .invokevirtual 137, 3), (1182, .pop, 1), (1183, .goto 559, 3), (1186, .aload_n 1, 1), (1187, .aload_n 0, 1), (1188, .iload_n 3, 1), (1189, .iconst 1, 1)]
theorem d_L_law_96 : t_L_law_96.all (fun q => decide (decode code q.1 = .ok q.2)) = true := by decide +kernel
def t_L_law_97 : List (Nat × Instr × Nat) := [(1190, .iadd, 1), (1191, .iaload, 1), (1192, .aload_n 0, 1), (1193, .iload_n 3, 1), (1194, .iconst 2, 1), (1195, .iadd, 1), (1196, .iaload, 1), (1197, .aload_n 0, 1)]
theorem d_L_law_97 : t_L_law_97.all (fun q => decide (decode code q.1 = .ok q.2)) = true := by decide +kernel
def t_L_law_98 : List (Nat × Instr × Nat) := [(1198, .iload_n 3, 1), (1199, .iconst 3, 1), (1200, .iadd, 1), (1201, .iaload, 1), (1202, .aload_n 0, 1), (1203, .iload_n 3, 1), (1204, .iconst 4, 1), (1205, .iadd, 1)]
theorem d_L_law_98 : t_L_law_98.all (fun q => decide (decode code q.1 = .ok q.2)) = true := by decide +kernel
def t_L_law_99 : List (Nat × Instr × Nat) := [(1206, .iaload, 1), (1207, .invokevirtual 138, 3), (1210, .pop, 1), (1211, .aload_n 2, 1), (1212, .aload_n 0, 1), (1213, .iload_n 3, 1), (1214, .iconst 1, 1), (1215, .iadd, 1)]
theorem d_L_law_99 : t_L_law_99.all (fun q => decide (decode code q.1 = .ok q.2)) = true := by decide +kernel
def t_L_law_100 : List (Nat × Instr × Nat) := [(1216, .iaload, 1), (1217, .aload_n 0, 1), (1218, .iload_n 3, 1), (1219, .iconst 2, 1), (1220, .iadd, 1), (1221, .iaload, 1), (1222, .aload_n 0, 1), (1223, .iload_n 3, 1)]
theorem d_L_law_100 : t_L_law_100.all (fun q => decide (decode code q.1 = .ok q.2)) = true := by decide +kernel
def t_L_law_101 : List (Nat × Instr × Nat) := [(1224, .iconst 3, 1), (1225, .iadd, 1), (1226, .iaload, 1), (1227, .aload_n 0, 1), (1228, .iload_n 3, 1), (1229, .iconst 4, 1), (1230, .iadd, 1), (1231, .iaload, 1)]
theorem d_L_law_101 : t_L_law_101.all (fun q => decide (decode code q.1 = .ok q.2)) = true := by decide +kernel
def t_L_law_102 : List (Nat × Instr × Nat) := [(1232, .invokevirtual 142, 3), (1235, .pop, 1), (1236, .goto 506, 3), (1239, .aload_n 1, 1), (1240, .aload_n 0, 1), (1241, .iload_n 3, 1), (1242, .iconst 1, 1), (1243, .iadd, 1)]
theorem d_L_law_102 : t_L_law_102.all (fun q => decide (decode code q.1 = .ok q.2)) = true := by decide +kernel
def t_L_law_103 : List (Nat × Instr × Nat) := [(1244, .iaload, 1), (1245, .aload_n 0, 1), (1246, .iload_n 3, 1), (1247, .iconst 2, 1), (1248, .iadd, 1), (1249, .iaload, 1), (1250, .aload_n 0, 1), (1251, .iload_n 3, 1)]
theorem d_L_law_103 : t_L_law_103.all (fun q => decide (decode code q.1 = .ok q.2)) = true := by decide +kernel
def t_L_law_104 : List (Nat × Instr × Nat) := [(1252, .iconst 3, 1), (1253, .iadd, 1), (1254, .iaload, 1), (1255, .invokevirtual 143, 3), (1258, .pop, 1), (1259, .aload_n 2, 1), (1260, .aload_n 0, 1), (1261, .iload_n 3, 1)]
theorem d_L_law_104 : t_L_law_104.all (fun q => decide (decode code q.1 = .ok q.2)) = true := by decide +kernel
def t_L_law_105 : List (Nat × Instr × Nat) := [(1262, .iconst 1, 1), (1263, .iadd, 1), (1264, .iaload, 1), (1265, .aload_n 0, 1), (1266, .iload_n 3, 1), (1267, .iconst 2, 1), (1268, .iadd, 1), (1269, .iaload, 1)]
theorem d_L_law_105 : t_L_law_105.all (fun q => decide (decode code q.1 = .ok q.2)) = true := by decide +kernel
def t_L_law_106 : List (Nat × Instr × Nat) := [(1270, .aload_n 0, 1), (1271, .iload_n 3, 1), (1272, .iconst 3, 1), (1273, .iadd, 1), (1274, .iaload, 1), (1275, .invokevirtual 146, 3), (1278, .pop, 1), (1279, .goto 463, 3)]
theorem d_L_law_106 : t_L_law_106.all (fun q => decide (decode code q.1 = .ok q.2)) = true := by decide +kernel
def t_L_law_107 : List (Nat × Instr × Nat) := [(1282, .aload_n 1, 1), (1283, .aload_n 0, 1), (1284, .iload_n 3, 1), (1285, .iconst 1, 1), (1286, .iadd, 1), (1287, .iaload, 1), (1288, .aload_n 0, 1), (1289, .iload_n 3, 1)]
theorem d_L_law_107 : t_L_law_107.all (fun q => decide (decode code q.1 = .ok q.2)) = true := by decide +kernel
def t_L_law_108 : List (Nat × Instr × Nat) := [(1290, .iconst 2, 1), (1291, .iadd, 1), (1292, .iaload, 1), (1293, .invokevirtual 147, 3), (1296, .pop, 1), (1297, .aload_n 2, 1), (1298, .aload_n 0, 1), (1299, .iload_n 3, 1)]
theorem d_L_law_108 : t_L_law_108.all (fun q => decide (decode code q.1 = .ok q.2)) = true := by decide +kernel
def t_L_law_109 : List (Nat × Instr × Nat) := [(1300, .iconst 1, 1), (1301, .iadd, 1), (1302, .iaload, 1), (1303, .aload_n 0, 1), (1304, .iload_n 3, 1), (1305, .iconst 2, 1), (1306, .iadd, 1), (1307, .iaload, 1)]
theorem d_L_law_109 : t_L_law_109.all (fun q => decide (decode code q.1 = .ok q.2)) = true := by decide +kernel
def t_L_law_110 : List (Nat × Instr × Nat) := [(1308, .invokevirtual 150, 3), (1311, .pop, 1), (1312, .goto 430, 3), (1315, .aload_n 1, 1), (1316, .invokevirtual 151, 3), (1319, .pop, 1), (1320, .aload_n 2, 1), (1321, .invokevirtual 154, 3)]
theorem d_L_law_110 : t_L_law_110.all (fun q => decide (decode code q.1 = .ok q.2)) = true := by decide +kernel
def t_L_law_111 : List (Nat × Instr × Nat) := [(1324, .pop, 1), (1325, .goto 417, 3), (1328, .aload_n 1, 1), (1329, .invokevirtual 155, 3), (1332, .pop, 1), (1333, .aload_n 2, 1), (1334, .invokevirtual 158, 3), (1337, .pop, 1)]
theorem d_L_law_111 : t_L_law_111.all (fun q => decide (decode code q.1 = .ok q.2)) = true := by decide +kernel
def t_L_law_112 : List (Nat × Instr × Nat) := [(1338, .goto 404, 3), (1341, .aload_n 1, 1), (1342, .aload_n 0, 1), (1343, .iload_n 3, 1), (1344, .iconst 1, 1), (1345, .iadd, 1), (1346, .iaload, 1), (1347, .aload_n 0, 1)]
theorem d_L_law_112 : t_L_law_112.all (fun q => decide (decode code q.1 = .ok q.2)) = true := by decide +kernel
def t_L_law_113 : List (Nat × Instr × Nat) := [(1348, .iload_n 3, 1), (1349, .iconst 2, 1), (1350, .iadd, 1), (1351, .iaload, 1), (1352, .aload_n 0, 1), (1353, .iload_n 3, 1), (1354, .iconst 3, 1), (1355, .iadd, 1)]
theorem d_L_law_113 : t_L_law_113.all (fun q => decide (decode code q.1 = .ok q.2)) = true := by decide +kernel
def t_L_law_114 : List (Nat × Instr × Nat) := [(1356, .iaload, 1), (1357, .invokevirtual 159, 3), (1360, .pop, 1), (1361, .aload_n 2, 1), (1362, .aload_n 0, 1), (1363, .iload_n 3, 1), (1364, .iconst 1, 1), (1365, .iadd, 1)]
theorem d_L_law_114 : t_L_law_114.all (fun q => decide (decode code q.1 = .ok q.2)) = true := by decide +kernel
def t_L_law_115 : List (Nat × Instr × Nat) := [(1366, .iaload, 1), (1367, .aload_n 0, 1), (1368, .iload_n 3, 1), (1369, .iconst 2, 1), (1370, .iadd, 1), (1371, .iaload, 1), (1372, .aload_n 0, 1), (1373, .iload_n 3, 1)]
theorem d_L_law_115 : t_L_law_115.all (fun q => decide (decode code q.1 = .ok q.2)) = true := by decide +kernel
def t_L_law_116 : List (Nat × Instr × Nat) := [(1374, .iconst 3, 1), (1375, .iadd, 1), (1376, .iaload, 1), (1377, .invokevirtual 162, 3), (1380, .pop, 1), (1381, .goto 361, 3), (1384, .aload_n 1, 1), (1385, .aload_n 0, 1)]
theorem d_L_law_116 : t_L_law_116.all (fun q => decide (decode code q.1 = .ok q.2)) = true := by decide +kernel
def t_L_law_117 : List (Nat × Instr × Nat) := [(1386, .iload_n 3, 1), (1387, .iconst 1, 1), (1388, .iadd, 1), (1389, .iaload, 1), (1390, .invokevirtual 163, 3), (1393, .pop, 1), (1394, .aload_n 2, 1), (1395, .aload_n 0, 1)]
theorem d_L_law_117 : t_L_law_117.all (fun q => decide (decode code q.1 = .ok q.2)) = true := by decide +kernel
def t_L_law_118 : List (Nat × Instr × Nat) := [(1396, .iload_n 3, 1), (1397, .iconst 1, 1), (1398, .iadd, 1), (1399, .iaload, 1), (1400, .invokevirtual 166, 3), (1403, .pop, 1), (1404, .goto 338, 3), (1407, .aload_n 1, 1)]
theorem d_L_law_118 : t_L_law_118.all (fun q => decide (decode code q.1 = .ok q.2)) = true := by decide +kernel
def t_L_law_119 : List (Nat × Instr × Nat) := [(1408, .aload_n 0, 1), (1409, .iload_n 3, 1), (1410, .iconst 1, 1), (1411, .iadd, 1), (1412, .iaload, 1), (1413, .invokevirtual 167, 3), (1416, .pop, 1), (1417, .aload_n 2, 1)]
theorem d_L_law_119 : t_L_law_119.all (fun q => decide (decode code q.1 = .ok q.2)) = true := by decide +kernel
def t_L_law_120 : List (Nat × Instr × Nat) := [(1418, .aload_n 0, 1), (1419, .iload_n 3, 1), (1420, .iconst 1, 1), (1421, .iadd, 1), (1422, .iaload, 1), (1423, .invokevirtual 170, 3), (1426, .pop, 1), (1427, .goto 315, 3)]
theorem d_L_law_120 : t_L_law_120.all (fun q => decide (decode code q.1 = .ok q.2)) = true := by decide +kernel
def t_L_law_121 : List (Nat × Instr × Nat) := [(1430, .aload_n 1, 1), (1431, .aload_n 0, 1), (1432, .iload_n 3, 1), (1433, .iconst 1, 1), (1434, .iadd, 1), (1435, .iaload, 1), (1436, .invokevirtual 171, 3), (1439, .pop, 1)]
theorem d_L_law_121 : t_L_law_121.all (fun q => decide (decode code q.1 = .ok q.2)) = true := by decide +kernel
def t_L_law_122 : List (Nat × Instr × Nat) := [(1440, .aload_n 2, 1), (1441, .aload_n 0, 1), (1442, .iload_n 3, 1), (1443, .iconst 1, 1), (1444, .iadd, 1), (1445, .iaload, 1), (1446, .invokevirtual 174, 3), (1449, .pop, 1)]
theorem d_L_law_122 : t_L_law_122.all (fun q => decide (decode code q.1 = .ok q.2)) = true := by decide +kernel
def t_L_law_123 : List (Nat × Instr × Nat) := [(1450, .goto 292, 3), (1453, .aload_n 1, 1), (1454, .aload_n 0, 1), (1455, .iload_n 3, 1), (1456, .iconst 1, 1), (1457, .iadd, 1), (1458, .iaload, 1), (1459, .aload_n 0, 1)]
theorem d_L_law_123 : t_L_law_123.all (fun q => decide (decode code q.1 = .ok q.2)) = true := by decide +kernel
def t_L_law_124 : List (Nat × Instr × Nat) := [(1460, .iload_n 3, 1), (1461, .iconst 2, 1), (1462, .iadd, 1), (1463, .iaload, 1), (1464, .aload_n 0, 1), (1465, .iload_n 3, 1), (1466, .iconst 3, 1), (1467, .iadd, 1)]
theorem d_L_law_124 : t_L_law_124.all (fun q => decide (decode code q.1 = .ok q.2)) = true := by decide +kernel
def t_L_law_125 : List (Nat × Instr × Nat) := [(1468, .iaload, 1), (1469, .invokevirtual 175, 3), (1472, .pop, 1), (1473, .aload_n 2, 1), (1474, .aload_n 0, 1), (1475, .iload_n 3, 1), (1476, .iconst 1, 1), (1477, .iadd, 1)]
theorem d_L_law_125 : t_L_law_125.all (fun q => decide (decode code q.1 = .ok q.2)) = true := by decide +kernel
def t_L_law_126 : List (Nat × Instr × Nat) := [(1478, .iaload, 1), (1479, .aload_n 0, 1), (1480, .iload_n 3, 1), (1481, .iconst 2, 1), (1482, .iadd, 1), (1483, .iaload, 1), (1484, .aload_n 0, 1), (1485, .iload_n 3, 1)]
theorem d_L_law_126 : t_L_law_126.all (fun q => decide (decode code q.1 = .ok q.2)) = true := by decide +kernel
def t_L_law_127 : List (Nat × Instr × Nat) := [(1486, .iconst 3, 1), (1487, .iadd, 1), (1488, .iaload, 1), (1489, .invokevirtual 178, 3), (1492, .pop, 1), (1493, .goto 249, 3), (1496, .aload_n 1, 1), (1497, .aload_n 0, 1)]
theorem d_L_law_127 : t_L_law_127.all (fun q => decide (decode code q.1 = .ok q.2)) = true := by decide +kernel
def t_L_law_128 : List (Nat × Instr × Nat) := [(1498, .iload_n 3, 1), (1499, .iconst 1, 1), (1500, .iadd, 1), (1501, .iaload, 1), (1502, .aload_n 0, 1), (1503, .iload_n 3, 1), (1504, .iconst 2, 1), (1505, .iadd, 1)]
theorem d_L_law_128 : t_L_law_128.all (fun q => decide (decode code q.1 = .ok q.2)) = true := by decide +kernel
def t_L_law_129 : List (Nat × Instr × Nat) := [(1506, .iaload, 1), (1507, .invokevirtual 179, 3), (1510, .pop, 1), (1511, .aload_n 2, 1), (1512, .aload_n 0, 1), (1513, .iload_n 3, 1), (1514, .iconst 1, 1), (1515, .iadd, 1)]
theorem d_L_law_129 : t_L_law_129.all (fun q => decide (decode code q.1 = .ok q.2)) = true := by decide +kernel
def t_L_law_130 : List (Nat × Instr × Nat) := [(1516, .iaload, 1), (1517, .aload_n 0, 1), (1518, .iload_n 3, 1), (1519, .iconst 2, 1), (1520, .iadd, 1), (1521, .iaload, 1), (1522, .invokevirtual 182, 3), (1525, .pop, 1)]
theorem d_L_law_130 : t_L_law_130.all (fun q => decide (decode code q.1 = .ok q.2)) = true := by decide +kernel
def t_L_law_131 : List (Nat × Instr × Nat) := [(1526, .goto 216, 3), (1529, .aload_n 1, 1), (1530, .aload_n 0, 1), (1531, .iload_n 3, 1), (1532, .iconst 1, 1), (1533, .iadd, 1), (1534, .iaload, 1), (1535, .aload_n 0, 1)]
theorem d_L_law_131 : t_L_law_131.all (fun q => decide (decode code q.1 = .ok q.2)) = true := by decide +kernel
def t_L_law_132 : List (Nat × Instr × Nat) := [(1536, .iload_n 3, 1), (1537, .iconst 2, 1), (1538, .iadd, 1), (1539, .iaload, 1), (1540, .invokevirtual 183, 3), (1543, .pop, 1), (1544, .aload_n 2, 1), (1545, .aload_n 0, 1)]
theorem d_L_law_132 : t_L_law_132.all (fun q => decide (decode code q.1 = .ok q.2)) = true := by decide +kernel
def t_L_law_133 : List (Nat × Instr × Nat) := [(1546, .iload_n 3, 1), (1547, .iconst 1, 1), (1548, .iadd, 1), (1549, .iaload, 1), (1550, .aload_n 0, 1), (1551, .iload_n 3, 1), (1552, .iconst 2, 1), (1553, .iadd, 1)]
theorem d_L_law_133 : t_L_law_133.all (fun q => decide (decode code q.1 = .ok q.2)) = true := by decide +kernel
def t_L_law_134 : List (Nat × Instr × Nat) := [(1554, .iaload, 1), (1555, .invokevirtual 186, 3), (1558, .pop, 1), (1559, .goto 183, 3), (1562, .aload_n 1, 1), (1563, .aload_n 0, 1), (1564, .iload_n 3, 1), (1565, .iconst 1, 1)]
theorem d_L_law_134 : t_L_law_134.all (fun q => decide (decode code q.1 = .ok q.2)) = true := by decide +kernel
def t_L_law_135 : List (Nat × Instr × Nat) := [(1566, .iadd, 1), (1567, .iaload, 1), (1568, .invokevirtual 187, 3), (1571, .pop, 1), (1572, .aload_n 2, 1), (1573, .aload_n 0, 1), (1574, .iload_n 3, 1), (1575, .iconst 1, 1)]
theorem d_L_law_135 : t_L_law_135.all (fun q => decide (decode code q.1 = .ok q.2)) = true := by decide +kernel
def t_L_law_136 : List (Nat × Instr × Nat) := [(1576, .iadd, 1), (1577, .iaload, 1), (1578, .invokevirtual 190, 3), (1581, .pop, 1), (1582, .goto 160, 3), (1585, .aload_n 1, 1), (1586, .aload_n 0, 1), (1587, .iload_n 3, 1)]
theorem d_L_law_136 : t_L_law_136.all (fun q => decide (decode code q.1 = .ok q.2)) = true := by decide +kernel
def t_L_law_137 : List (Nat × Instr × Nat) := [(1588, .iconst 1, 1), (1589, .iadd, 1), (1590, .iaload, 1), (1591, .invokevirtual 191, 3), (1594, .pop, 1), (1595, .aload_n 2, 1), (1596, .aload_n 0, 1), (1597, .iload_n 3, 1)]
theorem d_L_law_137 : t_L_law_137.all (fun q => decide (decode code q.1 = .ok q.2)) = true := by decide +kernel
def t_L_law_138 : List (Nat × Instr × Nat) := [(1598, .iconst 1, 1), (1599, .iadd, 1), (1600, .iaload, 1), (1601, .invokevirtual 194, 3), (1604, .pop, 1), (1605, .goto 137, 3), (1608, .aload_n 1, 1), (1609, .aload_n 0, 1)]
theorem d_L_law_138 : t_L_law_138.all (fun q => decide (decode code q.1 = .ok q.2)) = true := by decide +kernel
def t_L_law_139 : List (Nat × Instr × Nat) := [(1610, .iload_n 3, 1), (1611, .iconst 1, 1), (1612, .iadd, 1), (1613, .iaload, 1), (1614, .invokevirtual 195, 3), (1617, .pop, 1), (1618, .aload_n 2, 1), (1619, .aload_n 0, 1)]
theorem d_L_law_139 : t_L_law_139.all (fun q => decide (decode code q.1 = .ok q.2)) = true := by decide +kernel
def t_L_law_140 : List (Nat × Instr × Nat) := [(1620, .iload_n 3, 1), (1621, .iconst 1, 1), (1622, .iadd, 1), (1623, .iaload, 1), (1624, .invokevirtual 198, 3), (1627, .pop, 1), (1628, .goto 114, 3), (1631, .aload_n 1, 1)]
theorem d_L_law_140 : t_L_law_140.all (fun q => decide (decode code q.1 = .ok q.2)) = true := by decide +kernel
def t_L_law_141 : List (Nat × Instr × Nat) := [(1632, .invokevirtual 199, 3), (1635, .pop, 1), (1636, .aload_n 2, 1), (1637, .invokevirtual 202, 3), (1640, .pop, 1), (1641, .goto 101, 3), (1644, .aload_n 1, 1), (1645, .invokevirtual 203, 3)]
theorem d_L_law_141 : t_L_law_141.all (fun q => decide (decode code q.1 = .ok q.2)) = true := by decide +kernel
def t_L_law_142 : List (Nat × Instr × Nat) := [(1648, .pop2, 1), (1649, .aload_n 2, 1), (1650, .invokevirtual 207, 3), (1653, .pop2, 1), (1654, .goto 88, 3), (1657, .aload_n 1, 1), (1658, .invokevirtual 208, 3), (1661, .pop2, 1)]
theorem d_L_law_142 : t_L_law_142.all (fun q => decide (decode code q.1 = .ok q.2)) = true := by decide +kernel
def t_L_law_143 : List (Nat × Instr × Nat) := [(1662, .aload_n 2, 1), (1663, .invokevirtual 211, 3), (1666, .pop2, 1), (1667, .goto 75, 3), (1670, .aload_n 1, 1), (1671, .aload_n 0, 1), (1672, .iload_n 3, 1), (1673, .iconst 1, 1)]
theorem d_L_law_143 : t_L_law_143.all (fun q => decide (decode code q.1 = .ok q.2)) = true := by decide +kernel
def t_L_law_144 : List (Nat × Instr × Nat) := [(1674, .iadd, 1), (1675, .iaload, 1), (1676, .invokevirtual 212, 3), (1679, .pop, 1), (1680, .aload_n 2, 1), (1681, .aload_n 0, 1), (1682, .iload_n 3, 1), (1683, .iconst 1, 1)]
theorem d_L_law_144 : t_L_law_144.all (fun q => decide (decode code q.1 = .ok q.2)) = true := by decide +kernel
def t_L_law_145 : List (Nat × Instr × Nat) := [(1684, .iadd, 1), (1685, .iaload, 1), (1686, .invokevirtual 215, 3), (1689, .pop, 1), (1690, .goto 52, 3), (1693, .aload_n 1, 1), (1694, .invokevirtual 216, 3), (1697, .pop, 1)]
theorem d_L_law_145 : t_L_law_145.all (fun q => decide (decode code q.1 = .ok q.2)) = true := by decide +kernel
def t_L_law_146 : List (Nat × Instr × Nat) := [(1698, .aload_n 2, 1), (1699, .invokevirtual 219, 3), (1702, .pop, 1), (1703, .goto 39, 3), (1706, .aload_n 1, 1), (1707, .aload_n 0, 1), (1708, .iload_n 3, 1), (1709, .iconst 1, 1)]
theorem d_L_law_146 : t_L_law_146.all (fun q => decide (decode code q.1 = .ok q.2)) = true := by decide +kernel
def t_L_law_147 : List (Nat × Instr × Nat) := [(1710, .iadd, 1), (1711, .iaload, 1), (1712, .invokevirtual 220, 3), (1715, .pop, 1), (1716, .aload_n 2, 1), (1717, .aload_n 0, 1), (1718, .iload_n 3, 1), (1719, .iconst 1, 1)]
theorem d_L_law_147 : t_L_law_147.all (fun q => decide (decode code q.1 = .ok q.2)) = true := by decide +kernel
def t_L_law_148 : List (Nat × Instr × Nat) := [(1720, .iadd, 1), (1721, .iaload, 1), (1722, .invokevirtual 223, 3), (1725, .pop, 1), (1726, .goto 16, 3), (1729, .aload_n 1, 1), (1730, .invokevirtual 224, 3), (1733, .pop2, 1)]
theorem d_L_law_148 : t_L_law_148.all (fun q => decide (decode code q.1 = .ok q.2)) = true := by decide +kernel
def t_L_law_149 : List (Nat × Instr × Nat) := [(1734, .aload_n 2, 1), (1735, .invokevirtual 227, 3), (1738, .pop2, 1), (1739, .goto 3, 3), (1742, .iinc 3 6, 3), (1745, .goto (-1727), 3), (1748, .iconst 1, 1), (1749, .ireturn, 1)]
theorem d_L_law_149 : t_L_law_149.all (fun q => decide (decode code q.1 = .ok q.2)) = true := by decide +kernel
