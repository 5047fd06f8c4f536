/-! laid by wip/p30/g30.py: La_areSums -/
def I_La_areSums : List (Nat × Instr × Nat) := [(0, .iconst 0, 1), (1, .istore_n 1, 1), (2, .iconst 0, 1), (3, .istore_n 2, 1), (4, .iconst 0, 1), (5, .istore_n 3, 1), (6, .iconst 0, 1), (7, .istore 4, 2), (9, .iconst 0, 1), (10, .istore 5, 2), (12, .iconst 1, 1), (13, .istore 6, 2), (15, .iconst 0, 1), (16, .istore 7, 2), (18, .iload 7, 2), (20, .aload_n 0, 1), (21, .iconst 0, 1), (22, .invokevirtual 60, 3), (25, .if_icmp .ge 405, 3), (28, .aload_n 0, 1), (29, .iload 7, 2), (31, .iconst 0, 1), (32, .invokevirtual 75, 3), (35, .istore 8, 2), (37, .aload_n 0, 1), (38, .iload 7, 2), (40, .iconst 4, 1), (41, .invokevirtual 66, 3), (44, .istore 9, 2), (46, .iload_n 1, 1), (47, .aload_n 0, 1), (48, .iload 7, 2), (50, .iconst 3, 1), (51, .invokevirtual 66, 3), (54, .iadd, 1), (55, .istore_n 1, 1), (56, .iload_n 2, 1), (57, .aload_n 0, 1), (58, .iload 7, 2), (60, .iconst 1, 1), (61, .invokevirtual 66, 3), (64, .invokestatic 78, 3), (67, .iadd, 1), (68, .istore_n 2, 1), (69, .iload_n 3, 1), (70, .iload 8, 2), (72, .invokestatic 78, 3), (75, .iadd, 1), (76, .istore_n 3, 1), (77, .iload 4, 2), (79, .aload_n 0, 1), (80, .iload 7, 2), (82, .iconst 5, 1), (83, .invokevirtual 66, 3), (86, .iadd, 1), (87, .istore 4, 2), (89, .iload 5, 2), (91, .aload_n 0, 1), (92, .iload 7, 2), (94, .bipush 7, 2), (96, .invokevirtual 66, 3), (99, .iadd, 1), (100, .istore 5, 2), (102, .aload_n 0, 1), (103, .iload 7, 2), (105, .iconst 2, 1), (106, .invokevirtual 66, 3), (109, .invokestatic 78, 3), (112, .istore 10, 2), (114, .iload 8, 2), (116, .invokestatic 78, 3), (119, .iload 10, 2), (121, .if_icmp .le 11, 3), (124, .iload 8, 2), (126, .invokestatic 78, 3), (129, .goto 5, 3), (132, .iload 10, 2), (134, .istore 11, 2), (136, .iload 8, 2), (138, .invokestatic 78, 3), (141, .iload 10, 2), (143, .if_icmp .le 14, 3), (146, .iload 8, 2), (148, .invokestatic 78, 3), (151, .iload 10, 2), (153, .isub, 1), (154, .goto 11, 3), (157, .iload 10, 2), (159, .iload 8, 2), (161, .invokestatic 78, 3), (164, .isub, 1), (165, .istore 12, 2), (167, .iload 6, 2), (169, .ifCond .eq 149, 3), (172, .iload 8, 2), (174, .ifCond .le 144, 3), (177, .aload_n 0, 1), (178, .iload 7, 2), (180, .iconst 1, 1), (181, .invokevirtual 75, 3), (184, .iload 8, 2), (186, .if_icmp .ne 132, 3), (189, .iload 8, 2), (191, .invokestatic 78, 3), (194, .aload_n 0, 1), (195, .iload 7, 2), (197, .iconst 1, 1), (198, .invokevirtual 66, 3), (201, .invokestatic 78, 3), (204, .if_icmp .gt 114, 3), (207, .aload_n 0, 1), (208, .iload 7, 2), (210, .iconst 3, 1), (211, .invokevirtual 66, 3), (214, .iconst 1, 1), (215, .if_icmp .ne 7, 3), (218, .iconst 1, 1), (219, .goto 4, 3), (222, .iconst 0, 1), (223, .aload_n 0, 1), (224, .iload 7, 2), (226, .iconst 2, 1), (227, .invokevirtual 66, 3), (230, .iload 8, 2), (232, .if_icmp .eq 7, 3), (235, .iconst 1, 1), (236, .goto 4, 3), (239, .iconst 0, 1), (240, .if_icmp .ne 78, 3), (243, .iload 9, 2), (245, .ifCond .ne 7, 3), (248, .iconst 1, 1), (249, .goto 4, 3), (252, .iconst 0, 1), (253, .aload_n 0, 1), (254, .iload 7, 2), (256, .iconst 3, 1), (257, .invokevirtual 66, 3), (260, .ifCond .ne 7, 3), (263, .iconst 1, 1), (264, .goto 4, 3), (267, .iconst 0, 1), (268, .if_icmp .ne 50, 3), (271, .iload 9, 2), (273, .iload 12, 2), (275, .if_icmp .lt 43, 3), (278, .iload 9, 2), (280, .iload 11, 2), (282, .if_icmp .gt 36, 3), (285, .aload_n 0, 1), (286, .iload 7, 2), (288, .iconst 5, 1), (289, .invokevirtual 66, 3), (292, .iload 9, 2), (294, .aload_n 0, 1), (295, .iconst 0, 1), (296, .invokevirtual 63, 3), (299, .imul, 1), (300, .if_icmp .ne 18, 3), (303, .aload_n 0, 1), (304, .iload 7, 2), (306, .iload 7, 2), (308, .invokevirtual 81, 3), (311, .ifCond .ne 7, 3), (314, .iconst 1, 1), (315, .goto 4, 3), (318, .iconst 0, 1), (319, .istore 6, 2), (321, .iconst 0, 1), (322, .istore 13, 2), (324, .iload 13, 2), (326, .iload 7, 2), (328, .if_icmp .ge 96, 3), (331, .aload_n 0, 1), (332, .iload 7, 2), (334, .iload 13, 2), (336, .invokevirtual 81, 3), (339, .istore 14, 2), (341, .iload 6, 2), (343, .ifCond .eq 72, 3), (346, .iload 14, 2), (348, .aload_n 0, 1), (349, .iload 13, 2), (351, .iload 7, 2), (353, .invokevirtual 81, 3), (356, .if_icmp .ne 59, 3), (359, .iload 14, 2), (361, .ifCond .ne 7, 3), (364, .iconst 1, 1), (365, .goto 4, 3), (368, .iconst 0, 1), (369, .aload_n 0, 1), (370, .iload 13, 2), (372, .iconst 0, 1), (373, .invokevirtual 75, 3), (376, .iload 8, 2), (378, .if_icmp .ne 7, 3), (381, .iconst 1, 1), (382, .goto 4, 3), (385, .iconst 0, 1), (386, .if_icmp .ne 29, 3), (389, .aload_n 0, 1), (390, .iload 13, 2), (392, .iconst 0, 1), (393, .invokevirtual 66, 3), (396, .aload_n 0, 1), (397, .iload 7, 2), (399, .iconst 0, 1), (400, .invokevirtual 66, 3), (403, .if_icmp .ne 8, 3), (406, .iload 14, 2), (408, .ifCond .le 7, 3), (411, .iconst 1, 1), (412, .goto 4, 3), (415, .iconst 0, 1), (416, .istore 6, 2), (418, .iinc 13 1, 3), (421, .goto (-97), 3), (424, .iinc 7 1, 3), (427, .goto (-409), 3), (430, .iconst 0, 1), (431, .istore 7, 2), (433, .iconst 0, 1), (434, .istore 8, 2), (436, .iconst 0, 1), (437, .istore 9, 2), (439, .iload 9, 2), (441, .iconst 4, 1), (442, .if_icmp .ge 56, 3), (445, .iload 7, 2), (447, .aload_n 0, 1), (448, .iload 9, 2), (450, .iconst 0, 1), (451, .invokevirtual 72, 3), (454, .bipush 100, 2), (456, .aload_n 0, 1), (457, .iload 9, 2), (459, .iconst 1, 1), (460, .invokevirtual 72, 3), (463, .imul, 1), (464, .iadd, 1), (465, .iadd, 1), (466, .istore 7, 2), (468, .iload 8, 2), (470, .aload_n 0, 1), (471, .iload 9, 2), (473, .iconst 3, 1), (474, .invokevirtual 72, 3), (477, .iadd, 1), (478, .istore 8, 2), (480, .iload 5, 2), (482, .aload_n 0, 1), (483, .iload 9, 2), (485, .iconst 2, 1), (486, .invokevirtual 72, 3), (489, .isub, 1), (490, .istore 5, 2), (492, .iinc 9 1, 3), (495, .goto (-56), 3), (498, .iload 6, 2), (500, .ifCond .eq 148, 3), (503, .iload 7, 2), (505, .aload_n 0, 1), (506, .iconst 0, 1), (507, .invokevirtual 60, 3), (510, .bipush 100, 2), (512, .iload_n 1, 1), (513, .imul, 1), (514, .iadd, 1), (515, .if_icmp .ne 133, 3), (518, .iload_n 1, 1), (519, .aload_n 0, 1), (520, .iconst 2, 1), (521, .invokevirtual 60, 3), (524, .if_icmp .ne 124, 3), (527, .iload_n 2, 1), (528, .aload_n 0, 1), (529, .bipush 9, 2), (531, .invokevirtual 60, 3), (534, .if_icmp .ne 114, 3), (537, .iload_n 3, 1), (538, .aload_n 0, 1), (539, .bipush 10, 2), (541, .invokevirtual 60, 3), (544, .if_icmp .ne 104, 3), (547, .iload 4, 2), (549, .aload_n 0, 1), (550, .bipush 11, 2), (552, .invokevirtual 60, 3), (555, .if_icmp .ne 93, 3), (558, .iload 5, 2), (560, .ifCond .ne 88, 3), (563, .iload 8, 2), (565, .aload_n 0, 1), (566, .bipush 7, 2), (568, .invokevirtual 60, 3), (571, .if_icmp .ne 77, 3), (574, .aload_n 0, 1), (575, .iconst 0, 1), (576, .iconst 2, 1), (577, .invokevirtual 72, 3), (580, .aload_n 0, 1), (581, .iconst 1, 1), (582, .iconst 2, 1), (583, .invokevirtual 72, 3), (586, .iadd, 1), (587, .aload_n 0, 1), (588, .iconst 2, 1), (589, .iconst 2, 1), (590, .invokevirtual 72, 3), (593, .iadd, 1), (594, .aload_n 0, 1), (595, .iconst 3, 1), (596, .iconst 2, 1), (597, .invokevirtual 72, 3), (600, .iadd, 1), (601, .aload_n 0, 1), (602, .bipush 6, 2), (604, .invokevirtual 60, 3), (607, .if_icmp .ne 41, 3), (610, .aload_n 0, 1), (611, .sipush 999, 3), (614, .invokevirtual 84, 3), (617, .iload_n 1, 1), (618, .if_icmp .gt 30, 3), (621, .aload_n 0, 1), (622, .iconst 4, 1), (623, .invokevirtual 60, 3), (626, .bipush 10, 2), (628, .if_icmp .ge 20, 3), (631, .aload_n 0, 1), (632, .iconst 5, 1), (633, .invokevirtual 60, 3), (636, .aload_n 0, 1), (637, .iconst 3, 1), (638, .invokevirtual 60, 3), (641, .if_icmp .gt 7, 3), (644, .iconst 1, 1), (645, .goto 4, 3), (648, .iconst 0, 1), (649, .ireturn, 1)]
set_option maxRecDepth 100000 in
theorem d_La_areSums : decA cL_areSums I_La_areSums = true := by decide +kernel
abbrev rm_La_areSums : Room := ({ frames := 8, cells := 0, slots := 0, locals := 190 } : Room)
def m_La_areSums_l324 (p0 : Nat) (v7_7 : Int32) (x14 : Int32) : (Int32 × Int32 × KMem) → Option ((Int32 × Int32 × KMem) ⊕ (Int32 × KMem)) := fun (v6_51, v13_52, M53) =>
 if v7_7 ≤ v13_52 then
 (some (.inr (v6_51, M53)))
 else
 (Option.bind (m_Sn_apart p0 v7_7 v13_52 M53) fun (x56, M57) =>
 Option.bind (α := Int32 × KMem) (if v6_51 = 0 then
 (some (0, M57))
 else
 (Option.bind (m_Sn_apart p0 v13_52 v7_7 M57) fun (x63, M64) =>
 if x56 = x63 then
 (Option.bind (α := Int32) (if x56 = 0 then
 (some 1)
 else
 (some 0)) fun t66 =>
 Option.bind (m_Sn_right p0 v13_52 0 M64) fun (x69, M70) =>
 Option.bind (α := Int32) (if x69 = x14 then
 (some 1)
 else
 (some 0)) fun t71 =>
 if t66 = t71 then
 (Option.bind (m_Sn_signOf p0 v13_52 0 M70) fun (x75, M76) =>
 Option.bind (m_Sn_signOf p0 v7_7 0 M76) fun (x78, M79) =>
 if x75 = x78 then
 (if x56 ≤ 0 then
 (some (0, M79))
 else
 (some (1, M79)))
 else
 (some (1, M79)))
 else
 (some (0, M70)))
 else
 (some (0, M64)))) fun (t58, M59) =>
 some (.inl (t58, v13_52 + 1, M59)))
def m_La_areSums_l18 (p0 : Nat) : (Int32 × Int32 × Int32 × Int32 × Int32 × Int32 × Int32 × KMem) → Option ((Int32 × Int32 × Int32 × Int32 × Int32 × Int32 × Int32 × KMem) ⊕ (Int32 × Int32 × Int32 × Int32 × Int32 × Int32 × KMem)) := fun (v1_1, v2_2, v3_3, v4_4, v5_5, v6_6, v7_7, M8) =>
 Option.bind (m_Sn_about p0 0 M8) fun (x10, M11) =>
 if x10 ≤ v7_7 then
 (some (.inr (v1_1, v2_2, v3_3, v4_4, v5_5, v6_6, M11)))
 else
 (Option.bind (m_Sn_right p0 v7_7 0 M11) fun (x14, M15) =>
 Option.bind (m_Sn_signOf p0 v7_7 4 M15) fun (x17, M18) =>
 Option.bind (m_Sn_signOf p0 v7_7 3 M18) fun (x20, M21) =>
 Option.bind (m_Sn_signOf p0 v7_7 1 M21) fun (x23, M24) =>
 Option.bind (m_La_letters x23) fun x26 =>
 Option.bind (m_La_letters x14) fun x28 =>
 Option.bind (m_Sn_signOf p0 v7_7 5 M24) fun (x30, M31) =>
 Option.bind (m_Sn_signOf p0 v7_7 7 M31) fun (x33, M34) =>
 Option.bind (m_Sn_signOf p0 v7_7 2 M34) fun (x36, M37) =>
 Option.bind (m_La_letters x36) fun x39 =>
 Option.bind (m_La_letters x14) fun x41 =>
 Option.bind (α := Int32) (if x41 ≤ x39 then
 (some x39)
 else
 (Option.bind (m_La_letters x14) fun x144 =>
 some x144)) fun t42 =>
 Option.bind (m_La_letters x14) fun x45 =>
 Option.bind (α := Int32) (if x45 ≤ x39 then
 (Option.bind (m_La_letters x14) fun x139 =>
 some (x39 - x139))
 else
 (Option.bind (m_La_letters x14) fun x141 =>
 some (x141 - x39))) fun t46 =>
 Option.bind (α := Int32 × KMem) (if v6_6 = 0 then
 (some (0, M37))
 else
 (if x14 ≤ 0 then
 (some (0, M37))
 else
 (Option.bind (m_Sn_right p0 v7_7 1 M37) fun (x91, M92) =>
 if x91 = x14 then
 (Option.bind (m_La_letters x14) fun x95 =>
 Option.bind (m_Sn_signOf p0 v7_7 1 M92) fun (x97, M98) =>
 Option.bind (m_La_letters x97) fun x100 =>
 if x100 < x95 then
 (some (0, M98))
 else
 (Option.bind (m_Sn_signOf p0 v7_7 3 M98) fun (x103, M104) =>
 Option.bind (α := Int32) (if x103 = 1 then
 (some 1)
 else
 (some 0)) fun t105 =>
 Option.bind (m_Sn_signOf p0 v7_7 2 M104) fun (x108, M109) =>
 Option.bind (α := Int32) (if x108 = x14 then
 (some 0)
 else
 (some 1)) fun t110 =>
 if t105 = t110 then
 (Option.bind (α := Int32) (if x17 = 0 then
 (some 1)
 else
 (some 0)) fun t113 =>
 Option.bind (m_Sn_signOf p0 v7_7 3 M109) fun (x116, M117) =>
 Option.bind (α := Int32) (if x116 = 0 then
 (some 1)
 else
 (some 0)) fun t118 =>
 if t113 = t118 then
 (if x17 < t46 then
 (some (0, M117))
 else
 (if t42 < x17 then
 (some (0, M117))
 else
 (Option.bind (m_Sn_signOf p0 v7_7 5 M117) fun (x124, M125) =>
 Option.bind (m_Sn_setting p0 0 M125) fun x127 =>
 if x124 = (x17 * x127) then
 (Option.bind (m_Sn_apart p0 v7_7 v7_7 M125) fun (x130, M131) =>
 if x130 = 0 then
 (some (1, M131))
 else
 (some (0, M131)))
 else
 (some (0, M125)))))
 else
 (some (0, M117)))
 else
 (some (0, M109))))
 else
 (some (0, M92))))) fun (t48, M49) =>
 Option.bind (α := Int32 × KMem) (kLp (m_La_areSums_l324 p0 v7_7 x14) kFU (t48, 0, M49)) fun (v6_84, M85) =>
 some (.inl (v1_1 + x20, v2_2 + x26, v3_3 + x28, v4_4 + x30, v5_5 + x33, v6_84, v7_7 + 1, M85)))
def m_La_areSums_l439 (p0 : Nat) (M151 : KMem) : (Int32 × Int32 × Int32 × Int32) → Option ((Int32 × Int32 × Int32 × Int32) ⊕ (Int32 × Int32 × Int32)) := fun (v5_152, v7_153, v8_154, v9_155) =>
 if 4 ≤ v9_155 then
 (some (.inr (v5_152, v7_153, v8_154)))
 else
 (Option.bind (m_Sn_guildOf p0 v9_155 0 M151) fun x158 =>
 Option.bind (m_Sn_guildOf p0 v9_155 1 M151) fun x160 =>
 Option.bind (m_Sn_guildOf p0 v9_155 3 M151) fun x162 =>
 Option.bind (m_Sn_guildOf p0 v9_155 2 M151) fun x164 =>
 some (.inl (v5_152 - x164, v7_153 + (x158 + (100 * x160)), v8_154 + x162, v9_155 + 1)))
def m_La_areSums (p0 : Nat) (M : KMem) : Option (Int32 × KMem) :=
 Option.bind (α := Int32 × Int32 × Int32 × Int32 × Int32 × Int32 × KMem) (kLp (m_La_areSums_l18 p0) kFU (0, 0, 0, 0, 0, 1, 0, M)) fun (v1_145, v2_146, v3_147, v4_148, v5_149, v6_150, M151) =>
 Option.bind (α := Int32 × Int32 × Int32) (kLp (m_La_areSums_l439 p0 M151) kFU (v5_149, 0, 0, 0)) fun (v5_165, v7_166, v8_167) =>
 Option.bind (α := Int32 × KMem) (if v6_150 = 0 then
 (some (0, M151))
 else
 (Option.bind (m_Sn_about p0 0 M151) fun (x175, M176) =>
 if v7_166 = (x175 + (100 * v1_145)) then
 (Option.bind (m_Sn_about p0 2 M176) fun (x179, M180) =>
 if v1_145 = x179 then
 (Option.bind (m_Sn_about p0 9 M180) fun (x183, M184) =>
 if v2_146 = x183 then
 (Option.bind (m_Sn_about p0 10 M184) fun (x187, M188) =>
 if v3_147 = x187 then
 (Option.bind (m_Sn_about p0 11 M188) fun (x191, M192) =>
 if v4_148 = x191 then
 (if v5_165 = 0 then
 (Option.bind (m_Sn_about p0 7 M192) fun (x196, M197) =>
 if v8_167 = x196 then
 (Option.bind (m_Sn_guildOf p0 0 2 M197) fun x200 =>
 Option.bind (m_Sn_guildOf p0 1 2 M197) fun x202 =>
 Option.bind (m_Sn_guildOf p0 2 2 M197) fun x204 =>
 Option.bind (m_Sn_guildOf p0 3 2 M197) fun x206 =>
 Option.bind (m_Sn_about p0 6 M197) fun (x208, M209) =>
 if (((x200 + x202) + x204) + x206) = x208 then
 (Option.bind (m_Sn_payable p0 999 M209) fun (x212, M213) =>
 if v1_145 < x212 then
 (some (0, M213))
 else
 (Option.bind (m_Sn_about p0 4 M213) fun (x216, M217) =>
 if 10 ≤ x216 then
 (some (0, M217))
 else
 (Option.bind (m_Sn_about p0 5 M217) fun (x220, M221) =>
 Option.bind (m_Sn_about p0 3 M221) fun (x223, M224) =>
 if x223 < x220 then
 (some (0, M224))
 else
 (some (1, M224)))))
 else
 (some (0, M209)))
 else
 (some (0, M197)))
 else
 (some (0, M192)))
 else
 (some (0, M192)))
 else
 (some (0, M188)))
 else
 (some (0, M184)))
 else
 (some (0, M180)))
 else
 (some (0, M176)))) fun (t168, M169) =>
 Option.bind (kz t168) fun z171 =>
 some (z171, M169)
set_option maxHeartbeats 4000000 in
set_option maxRecDepth 100000 in
theorem b_La_areSums {X : KX} {B : KB} {L : KLay} {M : KMem} {p0 : Nat} (G : Good X B RL cL_areSums 15 rm_La_areSums) (hp0 : okL L p0 srT) (h : kOk (m_La_areSums p0 M) (fun r => RI X B L 15 cL_areSums .boolean rm_La_areSums r.1 r.2)) : KK X B L 15 0 0 M 0 [(0, .ref (B.1 + p0))] [] := by
  unfold m_La_areSums at h
  refine k_iconst G (dc d_La_areSums 0 rfl) cI_0 ?_
  refine k_istore_n G (dc d_La_areSums 1 rfl) (ls' := [(1, .int 0), (0, .ref (B.1 + p0))]) rfl rfl rfl ?_
  refine k_iconst G (dc d_La_areSums 2 rfl) cI_0 ?_
  refine k_istore_n G (dc d_La_areSums 3 rfl) (ls' := [(2, .int 0), (1, .int 0), (0, .ref (B.1 + p0))]) rfl rfl rfl ?_
  refine k_iconst G (dc d_La_areSums 4 rfl) cI_0 ?_
  refine k_istore_n G (dc d_La_areSums 5 rfl) (ls' := [(3, .int 0), (2, .int 0), (1, .int 0), (0, .ref (B.1 + p0))]) rfl rfl rfl ?_
  refine k_iconst G (dc d_La_areSums 6 rfl) cI_0 ?_
  refine k_istore G (dc d_La_areSums 7 rfl) (ls' := [(4, .int 0), (3, .int 0), (2, .int 0), (1, .int 0), (0, .ref (B.1 + p0))]) rfl rfl ?_
  refine k_iconst G (dc d_La_areSums 8 rfl) cI_0 ?_
  refine k_istore G (dc d_La_areSums 9 rfl) (ls' := [(5, .int 0), (4, .int 0), (3, .int 0), (2, .int 0), (1, .int 0), (0, .ref (B.1 + p0))]) rfl rfl ?_
  refine k_iconst G (dc d_La_areSums 10 rfl) cI_1 ?_
  refine k_istore G (dc d_La_areSums 11 rfl) (ls' := [(6, .int 1), (5, .int 0), (4, .int 0), (3, .int 0), (2, .int 0), (1, .int 0), (0, .ref (B.1 + p0))]) rfl rfl ?_
  refine k_iconst G (dc d_La_areSums 12 rfl) cI_0 ?_
  refine k_istore G (dc d_La_areSums 13 rfl) (ls' := [(7, .int 0), (6, .int 1), (5, .int 0), (4, .int 0), (3, .int 0), (2, .int 0), (1, .int 0), (0, .ref (B.1 + p0))]) rfl rfl ?_
  refine kJ h (fun r228 => KK X B L 15 0 0 r228.2.2.2.2.2.2 430 [(0, .ref (B.1 + p0)), (1, .int r228.1), (2, .int r228.2.1), (3, .int r228.2.2.1), (4, .int r228.2.2.2.1), (5, .int r228.2.2.2.2.1), (6, .int r228.2.2.2.2.2.1)] []) (fun r228 h => ?_) (fun h => ?_)
  · obtain ⟨v1_145, v2_146, v3_147, v4_148, v5_149, v6_150, M151⟩ := r228
    show KK X B L 15 0 0 M151 430 [(0, .ref (B.1 + p0)), (1, .int v1_145), (2, .int v2_146), (3, .int v3_147), (4, .int v4_148), (5, .int v5_149), (6, .int v6_150)] []
    refine k_iconst G (dc d_La_areSums 220 rfl) cI_0 ?_
    refine k_istore G (dc d_La_areSums 221 rfl) (ls' := [(7, .int 0), (0, .ref (B.1 + p0)), (1, .int v1_145), (2, .int v2_146), (3, .int v3_147), (4, .int v4_148), (5, .int v5_149), (6, .int v6_150)]) rfl rfl ?_
    refine k_iconst G (dc d_La_areSums 222 rfl) cI_0 ?_
    refine k_istore G (dc d_La_areSums 223 rfl) (ls' := [(8, .int 0), (7, .int 0), (0, .ref (B.1 + p0)), (1, .int v1_145), (2, .int v2_146), (3, .int v3_147), (4, .int v4_148), (5, .int v5_149), (6, .int v6_150)]) rfl rfl ?_
    refine k_iconst G (dc d_La_areSums 224 rfl) cI_0 ?_
    refine k_istore G (dc d_La_areSums 225 rfl) (ls' := [(9, .int 0), (8, .int 0), (7, .int 0), (0, .ref (B.1 + p0)), (1, .int v1_145), (2, .int v2_146), (3, .int v3_147), (4, .int v4_148), (5, .int v5_149), (6, .int v6_150)]) rfl rfl ?_
    refine kJ h (fun r226 => KK X B L 15 0 0 M151 498 [(0, .ref (B.1 + p0)), (1, .int v1_145), (2, .int v2_146), (3, .int v3_147), (4, .int v4_148), (5, .int r226.1), (6, .int v6_150), (7, .int r226.2.1), (8, .int r226.2.2)] []) (fun r226 h => ?_) (fun h => ?_)
    · obtain ⟨v5_165, v7_166, v8_167⟩ := r226
      show KK X B L 15 0 0 M151 498 [(0, .ref (B.1 + p0)), (1, .int v1_145), (2, .int v2_146), (3, .int v3_147), (4, .int v4_148), (5, .int v5_165), (6, .int v6_150), (7, .int v7_166), (8, .int v8_167)] []
      refine k_iload G (dc d_La_areSums 259 rfl) 6 rfl ?_
      refine kJ h (fun r170 => KK X B L 15 0 0 r170.2 649 [] [.int r170.1]) (fun r170 h => ?_) (fun h => ?_)
      · obtain ⟨t168, M169⟩ := r170
        show KK X B L 15 0 0 M169 649 [] [.int t168]
        obtain ⟨z171, e172, h⟩ := kOk_b h
        obtain ⟨e172, nz171, -⟩ := kz_ok e172
        rw [e172]
        exact (kOk_s h) _ _ _ _ rfl rfl nz171 (dc d_La_areSums 340 rfl)
      · refine k_if_eq G (dc d_La_areSums 260 rfl) (tgt := 648) rfl (fun c173 => ?_) (fun c173 => ?_)
        · replace h := kOk_p c173 h
          refine k_iconst G (dc d_La_areSums 339 rfl) cI_0 ?_
          refine k_sub [] rfl ?_
          have h9 := kOk_s h
          exact h9
        · replace h := kOk_n c173 h
          refine k_iload G (dc d_La_areSums 261 rfl) 7 rfl ?_
          refine k_aload_n G (dc d_La_areSums 262 rfl) 0 rfl rfl ?_
          refine k_iconst G (dc d_La_areSums 263 rfl) cI_0 ?_
          obtain ⟨⟨x175, M176⟩, e174, h⟩ := kOk_b h
          refine k_cVI G (dc d_La_areSums 264 rfl) kc7 (okL_lt hp0 (o := 0) 0 rfl) (okL_k hp0 (o := 0) 0 rfl) mi_SR_about mv_SR_about rfl ml_RL_60 (c_Sn_about (gst G) hp0 e174) rfl rfl ⟨rfl, rfl⟩ rfl ⟨rfl, rfl⟩ ⟨rfl, rfl⟩ ?_
          refine k_bipush G (dc d_La_areSums 265 rfl) cB_100 ?_
          refine k_iload_n G (dc d_La_areSums 266 rfl) 1 rfl rfl ?_
          refine k_imul G (dc d_La_areSums 267 rfl) ?_
          refine k_iadd G (dc d_La_areSums 268 rfl) ?_
          refine k_icmp_ne G (dc d_La_areSums 269 rfl) (tgt := 648) rfl (fun c177 => ?_) (fun c177 => ?_)
          · replace h := kOk_n c177 h
            refine k_iconst G (dc d_La_areSums 339 rfl) cI_0 ?_
            refine k_sub [] rfl ?_
            have h9 := kOk_s h
            exact h9
          · replace h := kOk_p c177 h
            refine k_iload_n G (dc d_La_areSums 270 rfl) 1 rfl rfl ?_
            refine k_aload_n G (dc d_La_areSums 271 rfl) 0 rfl rfl ?_
            refine k_iconst G (dc d_La_areSums 272 rfl) cI_2 ?_
            obtain ⟨⟨x179, M180⟩, e178, h⟩ := kOk_b h
            refine k_cVI G (dc d_La_areSums 273 rfl) kc7 (okL_lt hp0 (o := 0) 0 rfl) (okL_k hp0 (o := 0) 0 rfl) mi_SR_about mv_SR_about rfl ml_RL_60 (c_Sn_about (gst G) hp0 e178) rfl rfl ⟨rfl, rfl⟩ rfl ⟨rfl, rfl⟩ ⟨rfl, rfl⟩ ?_
            refine k_icmp_ne G (dc d_La_areSums 274 rfl) (tgt := 648) rfl (fun c181 => ?_) (fun c181 => ?_)
            · replace h := kOk_n c181 h
              refine k_iconst G (dc d_La_areSums 339 rfl) cI_0 ?_
              refine k_sub [] rfl ?_
              have h9 := kOk_s h
              exact h9
            · replace h := kOk_p c181 h
              refine k_iload_n G (dc d_La_areSums 275 rfl) 2 rfl rfl ?_
              refine k_aload_n G (dc d_La_areSums 276 rfl) 0 rfl rfl ?_
              refine k_bipush G (dc d_La_areSums 277 rfl) cB_9 ?_
              obtain ⟨⟨x183, M184⟩, e182, h⟩ := kOk_b h
              refine k_cVI G (dc d_La_areSums 278 rfl) kc7 (okL_lt hp0 (o := 0) 0 rfl) (okL_k hp0 (o := 0) 0 rfl) mi_SR_about mv_SR_about rfl ml_RL_60 (c_Sn_about (gst G) hp0 e182) rfl rfl ⟨rfl, rfl⟩ rfl ⟨rfl, rfl⟩ ⟨rfl, rfl⟩ ?_
              refine k_icmp_ne G (dc d_La_areSums 279 rfl) (tgt := 648) rfl (fun c185 => ?_) (fun c185 => ?_)
              · replace h := kOk_n c185 h
                refine k_iconst G (dc d_La_areSums 339 rfl) cI_0 ?_
                refine k_sub [] rfl ?_
                have h9 := kOk_s h
                exact h9
              · replace h := kOk_p c185 h
                refine k_iload_n G (dc d_La_areSums 280 rfl) 3 rfl rfl ?_
                refine k_aload_n G (dc d_La_areSums 281 rfl) 0 rfl rfl ?_
                refine k_bipush G (dc d_La_areSums 282 rfl) cB_10 ?_
                obtain ⟨⟨x187, M188⟩, e186, h⟩ := kOk_b h
                refine k_cVI G (dc d_La_areSums 283 rfl) kc7 (okL_lt hp0 (o := 0) 0 rfl) (okL_k hp0 (o := 0) 0 rfl) mi_SR_about mv_SR_about rfl ml_RL_60 (c_Sn_about (gst G) hp0 e186) rfl rfl ⟨rfl, rfl⟩ rfl ⟨rfl, rfl⟩ ⟨rfl, rfl⟩ ?_
                refine k_icmp_ne G (dc d_La_areSums 284 rfl) (tgt := 648) rfl (fun c189 => ?_) (fun c189 => ?_)
                · replace h := kOk_n c189 h
                  refine k_iconst G (dc d_La_areSums 339 rfl) cI_0 ?_
                  refine k_sub [] rfl ?_
                  have h9 := kOk_s h
                  exact h9
                · replace h := kOk_p c189 h
                  refine k_iload G (dc d_La_areSums 285 rfl) 4 rfl ?_
                  refine k_aload_n G (dc d_La_areSums 286 rfl) 0 rfl rfl ?_
                  refine k_bipush G (dc d_La_areSums 287 rfl) cB_11 ?_
                  obtain ⟨⟨x191, M192⟩, e190, h⟩ := kOk_b h
                  refine k_cVI G (dc d_La_areSums 288 rfl) kc7 (okL_lt hp0 (o := 0) 0 rfl) (okL_k hp0 (o := 0) 0 rfl) mi_SR_about mv_SR_about rfl ml_RL_60 (c_Sn_about (gst G) hp0 e190) rfl rfl ⟨rfl, rfl⟩ rfl ⟨rfl, rfl⟩ ⟨rfl, rfl⟩ ?_
                  refine k_icmp_ne G (dc d_La_areSums 289 rfl) (tgt := 648) rfl (fun c193 => ?_) (fun c193 => ?_)
                  · replace h := kOk_n c193 h
                    refine k_iconst G (dc d_La_areSums 339 rfl) cI_0 ?_
                    refine k_sub [] rfl ?_
                    have h9 := kOk_s h
                    exact h9
                  · replace h := kOk_p c193 h
                    refine k_iload G (dc d_La_areSums 290 rfl) 5 rfl ?_
                    refine k_if_ne G (dc d_La_areSums 291 rfl) (tgt := 648) rfl (fun c194 => ?_) (fun c194 => ?_)
                    · replace h := kOk_n c194 h
                      refine k_iconst G (dc d_La_areSums 339 rfl) cI_0 ?_
                      refine k_sub [] rfl ?_
                      have h9 := kOk_s h
                      exact h9
                    · replace h := kOk_p c194 h
                      refine k_iload G (dc d_La_areSums 292 rfl) 8 rfl ?_
                      refine k_aload_n G (dc d_La_areSums 293 rfl) 0 rfl rfl ?_
                      refine k_bipush G (dc d_La_areSums 294 rfl) cB_7 ?_
                      obtain ⟨⟨x196, M197⟩, e195, h⟩ := kOk_b h
                      refine k_cVI G (dc d_La_areSums 295 rfl) kc7 (okL_lt hp0 (o := 0) 0 rfl) (okL_k hp0 (o := 0) 0 rfl) mi_SR_about mv_SR_about rfl ml_RL_60 (c_Sn_about (gst G) hp0 e195) rfl rfl ⟨rfl, rfl⟩ rfl ⟨rfl, rfl⟩ ⟨rfl, rfl⟩ ?_
                      refine k_icmp_ne G (dc d_La_areSums 296 rfl) (tgt := 648) rfl (fun c198 => ?_) (fun c198 => ?_)
                      · replace h := kOk_n c198 h
                        refine k_iconst G (dc d_La_areSums 339 rfl) cI_0 ?_
                        refine k_sub [] rfl ?_
                        have h9 := kOk_s h
                        exact h9
                      · replace h := kOk_p c198 h
                        refine k_aload_n G (dc d_La_areSums 297 rfl) 0 rfl rfl ?_
                        refine k_iconst G (dc d_La_areSums 298 rfl) cI_0 ?_
                        refine k_iconst G (dc d_La_areSums 299 rfl) cI_2 ?_
                        obtain ⟨x200, e199, h⟩ := kOk_b h
                        refine k_cVI G (dc d_La_areSums 300 rfl) kc7 (okL_lt hp0 (o := 0) 0 rfl) (okL_k hp0 (o := 0) 0 rfl) mi_SR_guildOf mv_SR_guildOf rfl ml_RL_72 (c_Sn_guildOf (gst G) hp0 e199) rfl rfl ⟨rfl, rfl⟩ rfl ⟨rfl, rfl⟩ ⟨rfl, rfl⟩ ?_
                        refine k_aload_n G (dc d_La_areSums 301 rfl) 0 rfl rfl ?_
                        refine k_iconst G (dc d_La_areSums 302 rfl) cI_1 ?_
                        refine k_iconst G (dc d_La_areSums 303 rfl) cI_2 ?_
                        obtain ⟨x202, e201, h⟩ := kOk_b h
                        refine k_cVI G (dc d_La_areSums 304 rfl) kc7 (okL_lt hp0 (o := 0) 0 rfl) (okL_k hp0 (o := 0) 0 rfl) mi_SR_guildOf mv_SR_guildOf rfl ml_RL_72 (c_Sn_guildOf (gst G) hp0 e201) rfl rfl ⟨rfl, rfl⟩ rfl ⟨rfl, rfl⟩ ⟨rfl, rfl⟩ ?_
                        refine k_iadd G (dc d_La_areSums 305 rfl) ?_
                        refine k_aload_n G (dc d_La_areSums 306 rfl) 0 rfl rfl ?_
                        refine k_iconst G (dc d_La_areSums 307 rfl) cI_2 ?_
                        refine k_iconst G (dc d_La_areSums 308 rfl) cI_2 ?_
                        obtain ⟨x204, e203, h⟩ := kOk_b h
                        refine k_cVI G (dc d_La_areSums 309 rfl) kc7 (okL_lt hp0 (o := 0) 0 rfl) (okL_k hp0 (o := 0) 0 rfl) mi_SR_guildOf mv_SR_guildOf rfl ml_RL_72 (c_Sn_guildOf (gst G) hp0 e203) rfl rfl ⟨rfl, rfl⟩ rfl ⟨rfl, rfl⟩ ⟨rfl, rfl⟩ ?_
                        refine k_iadd G (dc d_La_areSums 310 rfl) ?_
                        refine k_aload_n G (dc d_La_areSums 311 rfl) 0 rfl rfl ?_
                        refine k_iconst G (dc d_La_areSums 312 rfl) cI_3 ?_
                        refine k_iconst G (dc d_La_areSums 313 rfl) cI_2 ?_
                        obtain ⟨x206, e205, h⟩ := kOk_b h
                        refine k_cVI G (dc d_La_areSums 314 rfl) kc7 (okL_lt hp0 (o := 0) 0 rfl) (okL_k hp0 (o := 0) 0 rfl) mi_SR_guildOf mv_SR_guildOf rfl ml_RL_72 (c_Sn_guildOf (gst G) hp0 e205) rfl rfl ⟨rfl, rfl⟩ rfl ⟨rfl, rfl⟩ ⟨rfl, rfl⟩ ?_
                        refine k_iadd G (dc d_La_areSums 315 rfl) ?_
                        refine k_aload_n G (dc d_La_areSums 316 rfl) 0 rfl rfl ?_
                        refine k_bipush G (dc d_La_areSums 317 rfl) cB_6 ?_
                        obtain ⟨⟨x208, M209⟩, e207, h⟩ := kOk_b h
                        refine k_cVI G (dc d_La_areSums 318 rfl) kc7 (okL_lt hp0 (o := 0) 0 rfl) (okL_k hp0 (o := 0) 0 rfl) mi_SR_about mv_SR_about rfl ml_RL_60 (c_Sn_about (gst G) hp0 e207) rfl rfl ⟨rfl, rfl⟩ rfl ⟨rfl, rfl⟩ ⟨rfl, rfl⟩ ?_
                        refine k_icmp_ne G (dc d_La_areSums 319 rfl) (tgt := 648) rfl (fun c210 => ?_) (fun c210 => ?_)
                        · replace h := kOk_n c210 h
                          refine k_iconst G (dc d_La_areSums 339 rfl) cI_0 ?_
                          refine k_sub [] rfl ?_
                          have h9 := kOk_s h
                          exact h9
                        · replace h := kOk_p c210 h
                          refine k_aload_n G (dc d_La_areSums 320 rfl) 0 rfl rfl ?_
                          refine k_sipush G (dc d_La_areSums 321 rfl) cS_999 ?_
                          obtain ⟨⟨x212, M213⟩, e211, h⟩ := kOk_b h
                          refine k_cVI G (dc d_La_areSums 322 rfl) kc7 (okL_lt hp0 (o := 0) 0 rfl) (okL_k hp0 (o := 0) 0 rfl) mi_SR_payable mv_SR_payable rfl ml_RL_84 (c_Sn_payable (gst G) hp0 e211) rfl rfl ⟨rfl, rfl⟩ rfl ⟨rfl, rfl⟩ ⟨rfl, rfl⟩ ?_
                          refine k_iload_n G (dc d_La_areSums 323 rfl) 1 rfl rfl ?_
                          refine k_icmp_gt G (dc d_La_areSums 324 rfl) (tgt := 648) rfl (fun c214 => ?_) (fun c214 => ?_)
                          · replace h := kOk_p c214 h
                            refine k_iconst G (dc d_La_areSums 339 rfl) cI_0 ?_
                            refine k_sub [] rfl ?_
                            have h9 := kOk_s h
                            exact h9
                          · replace h := kOk_n c214 h
                            refine k_aload_n G (dc d_La_areSums 325 rfl) 0 rfl rfl ?_
                            refine k_iconst G (dc d_La_areSums 326 rfl) cI_4 ?_
                            obtain ⟨⟨x216, M217⟩, e215, h⟩ := kOk_b h
                            refine k_cVI G (dc d_La_areSums 327 rfl) kc7 (okL_lt hp0 (o := 0) 0 rfl) (okL_k hp0 (o := 0) 0 rfl) mi_SR_about mv_SR_about rfl ml_RL_60 (c_Sn_about (gst G) hp0 e215) rfl rfl ⟨rfl, rfl⟩ rfl ⟨rfl, rfl⟩ ⟨rfl, rfl⟩ ?_
                            refine k_bipush G (dc d_La_areSums 328 rfl) cB_10 ?_
                            refine k_icmp_ge G (dc d_La_areSums 329 rfl) (tgt := 648) rfl (fun c218 => ?_) (fun c218 => ?_)
                            · replace h := kOk_p c218 h
                              refine k_iconst G (dc d_La_areSums 339 rfl) cI_0 ?_
                              refine k_sub [] rfl ?_
                              have h9 := kOk_s h
                              exact h9
                            · replace h := kOk_n c218 h
                              refine k_aload_n G (dc d_La_areSums 330 rfl) 0 rfl rfl ?_
                              refine k_iconst G (dc d_La_areSums 331 rfl) cI_5 ?_
                              obtain ⟨⟨x220, M221⟩, e219, h⟩ := kOk_b h
                              refine k_cVI G (dc d_La_areSums 332 rfl) kc7 (okL_lt hp0 (o := 0) 0 rfl) (okL_k hp0 (o := 0) 0 rfl) mi_SR_about mv_SR_about rfl ml_RL_60 (c_Sn_about (gst G) hp0 e219) rfl rfl ⟨rfl, rfl⟩ rfl ⟨rfl, rfl⟩ ⟨rfl, rfl⟩ ?_
                              refine k_aload_n G (dc d_La_areSums 333 rfl) 0 rfl rfl ?_
                              refine k_iconst G (dc d_La_areSums 334 rfl) cI_3 ?_
                              obtain ⟨⟨x223, M224⟩, e222, h⟩ := kOk_b h
                              refine k_cVI G (dc d_La_areSums 335 rfl) kc7 (okL_lt hp0 (o := 0) 0 rfl) (okL_k hp0 (o := 0) 0 rfl) mi_SR_about mv_SR_about rfl ml_RL_60 (c_Sn_about (gst G) hp0 e222) rfl rfl ⟨rfl, rfl⟩ rfl ⟨rfl, rfl⟩ ⟨rfl, rfl⟩ ?_
                              refine k_icmp_gt G (dc d_La_areSums 336 rfl) (tgt := 648) rfl (fun c225 => ?_) (fun c225 => ?_)
                              · replace h := kOk_p c225 h
                                refine k_iconst G (dc d_La_areSums 339 rfl) cI_0 ?_
                                refine k_sub [] rfl ?_
                                have h9 := kOk_s h
                                exact h9
                              · replace h := kOk_n c225 h
                                refine k_iconst G (dc d_La_areSums 337 rfl) cI_1 ?_
                                refine k_goto G (dc d_La_areSums 338 rfl) (tgt := 649) rfl ?_
                                refine k_sub [] rfl ?_
                                have h9 := kOk_s h
                                exact h9
    · refine k_sub [3, 4, 5, 6, 7, 8, 9, 2, 1, 0] rfl ?_
      refine kLp_ok (P := fun s227 => KK X B L 15 0 0 M151 439 [(0, .ref (B.1 + p0)), (1, .int v1_145), (2, .int v2_146), (3, .int v3_147), (4, .int v4_148), (5, .int s227.1), (6, .int v6_150), (7, .int s227.2.1), (8, .int s227.2.2.1), (9, .int s227.2.2.2)] []) (fun s227 h => ?_) kFU _ h
      obtain ⟨v5_152, v7_153, v8_154, v9_155⟩ := s227
      unfold m_La_areSums_l439 at h
      show KK X B L 15 0 0 M151 439 [(0, .ref (B.1 + p0)), (1, .int v1_145), (2, .int v2_146), (3, .int v3_147), (4, .int v4_148), (5, .int v5_152), (6, .int v6_150), (7, .int v7_153), (8, .int v8_154), (9, .int v9_155)] []
      refine k_iload G (dc d_La_areSums 226 rfl) 9 rfl ?_
      refine k_iconst G (dc d_La_areSums 227 rfl) cI_4 ?_
      refine k_icmp_ge G (dc d_La_areSums 228 rfl) (tgt := 498) rfl (fun c156 => ?_) (fun c156 => ?_)
      · replace h := kOk_p c156 h
        refine k_sub [0, 1, 2, 3, 4, 5, 6, 7, 8] rfl ?_
        have h9 := kOk_s h
        exact h9
      · replace h := kOk_n c156 h
        refine k_iload G (dc d_La_areSums 229 rfl) 7 rfl ?_
        refine k_aload_n G (dc d_La_areSums 230 rfl) 0 rfl rfl ?_
        refine k_iload G (dc d_La_areSums 231 rfl) 9 rfl ?_
        refine k_iconst G (dc d_La_areSums 232 rfl) cI_0 ?_
        obtain ⟨x158, e157, h⟩ := kOk_b h
        refine k_cVI G (dc d_La_areSums 233 rfl) kc7 (okL_lt hp0 (o := 0) 0 rfl) (okL_k hp0 (o := 0) 0 rfl) mi_SR_guildOf mv_SR_guildOf rfl ml_RL_72 (c_Sn_guildOf (gst G) hp0 e157) rfl rfl ⟨rfl, rfl⟩ rfl ⟨rfl, rfl⟩ ⟨rfl, rfl⟩ ?_
        refine k_bipush G (dc d_La_areSums 234 rfl) cB_100 ?_
        refine k_aload_n G (dc d_La_areSums 235 rfl) 0 rfl rfl ?_
        refine k_iload G (dc d_La_areSums 236 rfl) 9 rfl ?_
        refine k_iconst G (dc d_La_areSums 237 rfl) cI_1 ?_
        obtain ⟨x160, e159, h⟩ := kOk_b h
        refine k_cVI G (dc d_La_areSums 238 rfl) kc7 (okL_lt hp0 (o := 0) 0 rfl) (okL_k hp0 (o := 0) 0 rfl) mi_SR_guildOf mv_SR_guildOf rfl ml_RL_72 (c_Sn_guildOf (gst G) hp0 e159) rfl rfl ⟨rfl, rfl⟩ rfl ⟨rfl, rfl⟩ ⟨rfl, rfl⟩ ?_
        refine k_imul G (dc d_La_areSums 239 rfl) ?_
        refine k_iadd G (dc d_La_areSums 240 rfl) ?_
        refine k_iadd G (dc d_La_areSums 241 rfl) ?_
        refine k_istore G (dc d_La_areSums 242 rfl) (ls' := [(7, .int (v7_153 + (x158 + (100 * x160)))), (0, .ref (B.1 + p0)), (1, .int v1_145), (2, .int v2_146), (3, .int v3_147), (4, .int v4_148), (5, .int v5_152), (6, .int v6_150), (8, .int v8_154), (9, .int v9_155)]) rfl rfl ?_
        refine k_iload G (dc d_La_areSums 243 rfl) 8 rfl ?_
        refine k_aload_n G (dc d_La_areSums 244 rfl) 1 rfl rfl ?_
        refine k_iload G (dc d_La_areSums 245 rfl) 9 rfl ?_
        refine k_iconst G (dc d_La_areSums 246 rfl) cI_3 ?_
        obtain ⟨x162, e161, h⟩ := kOk_b h
        refine k_cVI G (dc d_La_areSums 247 rfl) kc7 (okL_lt hp0 (o := 0) 0 rfl) (okL_k hp0 (o := 0) 0 rfl) mi_SR_guildOf mv_SR_guildOf rfl ml_RL_72 (c_Sn_guildOf (gst G) hp0 e161) rfl rfl ⟨rfl, rfl⟩ rfl ⟨rfl, rfl⟩ ⟨rfl, rfl⟩ ?_
        refine k_iadd G (dc d_La_areSums 248 rfl) ?_
        refine k_istore G (dc d_La_areSums 249 rfl) (ls' := [(8, .int (v8_154 + x162)), (7, .int (v7_153 + (x158 + (100 * x160)))), (0, .ref (B.1 + p0)), (1, .int v1_145), (2, .int v2_146), (3, .int v3_147), (4, .int v4_148), (5, .int v5_152), (6, .int v6_150), (9, .int v9_155)]) rfl rfl ?_
        refine k_iload G (dc d_La_areSums 250 rfl) 7 rfl ?_
        refine k_aload_n G (dc d_La_areSums 251 rfl) 2 rfl rfl ?_
        refine k_iload G (dc d_La_areSums 252 rfl) 9 rfl ?_
        refine k_iconst G (dc d_La_areSums 253 rfl) cI_2 ?_
        obtain ⟨x164, e163, h⟩ := kOk_b h
        refine k_cVI G (dc d_La_areSums 254 rfl) kc7 (okL_lt hp0 (o := 0) 0 rfl) (okL_k hp0 (o := 0) 0 rfl) mi_SR_guildOf mv_SR_guildOf rfl ml_RL_72 (c_Sn_guildOf (gst G) hp0 e163) rfl rfl ⟨rfl, rfl⟩ rfl ⟨rfl, rfl⟩ ⟨rfl, rfl⟩ ?_
        refine k_isub G (dc d_La_areSums 255 rfl) ?_
        refine k_istore G (dc d_La_areSums 256 rfl) (ls' := [(5, .int (v5_152 - x164)), (8, .int (v8_154 + x162)), (7, .int (v7_153 + (x158 + (100 * x160)))), (0, .ref (B.1 + p0)), (1, .int v1_145), (2, .int v2_146), (3, .int v3_147), (4, .int v4_148), (6, .int v6_150), (9, .int v9_155)]) rfl rfl ?_
        refine k_iinc G (dc d_La_areSums 257 rfl) (ls' := [(9, .int (v9_155 + 1)), (5, .int (v5_152 - x164)), (8, .int (v8_154 + x162)), (7, .int (v7_153 + (x158 + (100 * x160)))), (0, .ref (B.1 + p0)), (1, .int v1_145), (2, .int v2_146), (3, .int v3_147), (4, .int v4_148), (6, .int v6_150)]) 9 rfl cI_1 rfl rfl ?_
        refine k_goto G (dc d_La_areSums 258 rfl) (tgt := 439) rfl ?_
        refine k_sub [4, 5, 6, 7, 8, 1, 9, 3, 2, 0] rfl ?_
        have h9 := kOk_s h
        exact h9
  · refine k_sub [7, 6, 5, 4, 3, 2, 1, 0] rfl ?_
    refine kLp_ok (P := fun s229 => KK X B L 15 0 0 s229.2.2.2.2.2.2.2 18 [(0, .ref (B.1 + p0)), (1, .int s229.1), (2, .int s229.2.1), (3, .int s229.2.2.1), (4, .int s229.2.2.2.1), (5, .int s229.2.2.2.2.1), (6, .int s229.2.2.2.2.2.1), (7, .int s229.2.2.2.2.2.2.1)] []) (fun s229 h => ?_) kFU _ h
    obtain ⟨v1_1, v2_2, v3_3, v4_4, v5_5, v6_6, v7_7, M8⟩ := s229
    unfold m_La_areSums_l18 at h
    show KK X B L 15 0 0 M8 18 [(0, .ref (B.1 + p0)), (1, .int v1_1), (2, .int v2_2), (3, .int v3_3), (4, .int v4_4), (5, .int v5_5), (6, .int v6_6), (7, .int v7_7)] []
    refine k_iload G (dc d_La_areSums 14 rfl) 7 rfl ?_
    refine k_aload_n G (dc d_La_areSums 15 rfl) 0 rfl rfl ?_
    refine k_iconst G (dc d_La_areSums 16 rfl) cI_0 ?_
    obtain ⟨⟨x10, M11⟩, e9, h⟩ := kOk_b h
    refine k_cVI G (dc d_La_areSums 17 rfl) kc7 (okL_lt hp0 (o := 0) 0 rfl) (okL_k hp0 (o := 0) 0 rfl) mi_SR_about mv_SR_about rfl ml_RL_60 (c_Sn_about (gst G) hp0 e9) rfl rfl ⟨rfl, rfl⟩ rfl ⟨rfl, rfl⟩ ⟨rfl, rfl⟩ ?_
    refine k_icmp_ge G (dc d_La_areSums 18 rfl) (tgt := 430) rfl (fun c12 => ?_) (fun c12 => ?_)
    · replace h := kOk_p c12 h
      refine k_sub [0, 1, 2, 3, 4, 5, 6] rfl ?_
      have h9 := kOk_s h
      exact h9
    · replace h := kOk_n c12 h
      refine k_aload_n G (dc d_La_areSums 19 rfl) 0 rfl rfl ?_
      refine k_iload G (dc d_La_areSums 20 rfl) 7 rfl ?_
      refine k_iconst G (dc d_La_areSums 21 rfl) cI_0 ?_
      obtain ⟨⟨x14, M15⟩, e13, h⟩ := kOk_b h
      refine k_cVI G (dc d_La_areSums 22 rfl) kc7 (okL_lt hp0 (o := 0) 0 rfl) (okL_k hp0 (o := 0) 0 rfl) mi_SR_right mv_SR_right rfl ml_RL_75 (c_Sn_right (gst G) hp0 e13) rfl rfl ⟨rfl, rfl⟩ rfl ⟨rfl, rfl⟩ ⟨rfl, rfl⟩ ?_
      refine k_istore G (dc d_La_areSums 23 rfl) (ls' := [(8, .int x14), (0, .ref (B.1 + p0)), (1, .int v1_1), (2, .int v2_2), (3, .int v3_3), (4, .int v4_4), (5, .int v5_5), (6, .int v6_6), (7, .int v7_7)]) rfl rfl ?_
      refine k_aload_n G (dc d_La_areSums 24 rfl) 1 rfl rfl ?_
      refine k_iload G (dc d_La_areSums 25 rfl) 8 rfl ?_
      refine k_iconst G (dc d_La_areSums 26 rfl) cI_4 ?_
      obtain ⟨⟨x17, M18⟩, e16, h⟩ := kOk_b h
      refine k_cVI G (dc d_La_areSums 27 rfl) kc7 (okL_lt hp0 (o := 0) 0 rfl) (okL_k hp0 (o := 0) 0 rfl) mi_SR_signOf mv_SR_signOf rfl ml_RL_66 (c_Sn_signOf (gst G) hp0 e16) rfl rfl ⟨rfl, rfl⟩ rfl ⟨rfl, rfl⟩ ⟨rfl, rfl⟩ ?_
      refine k_istore G (dc d_La_areSums 28 rfl) (ls' := [(9, .int x17), (8, .int x14), (0, .ref (B.1 + p0)), (1, .int v1_1), (2, .int v2_2), (3, .int v3_3), (4, .int v4_4), (5, .int v5_5), (6, .int v6_6), (7, .int v7_7)]) rfl rfl ?_
      refine k_iload_n G (dc d_La_areSums 29 rfl) 3 rfl rfl ?_
      refine k_aload_n G (dc d_La_areSums 30 rfl) 2 rfl rfl ?_
      refine k_iload G (dc d_La_areSums 31 rfl) 9 rfl ?_
      refine k_iconst G (dc d_La_areSums 32 rfl) cI_3 ?_
      obtain ⟨⟨x20, M21⟩, e19, h⟩ := kOk_b h
      refine k_cVI G (dc d_La_areSums 33 rfl) kc7 (okL_lt hp0 (o := 0) 0 rfl) (okL_k hp0 (o := 0) 0 rfl) mi_SR_signOf mv_SR_signOf rfl ml_RL_66 (c_Sn_signOf (gst G) hp0 e19) rfl rfl ⟨rfl, rfl⟩ rfl ⟨rfl, rfl⟩ ⟨rfl, rfl⟩ ?_
      refine k_iadd G (dc d_La_areSums 34 rfl) ?_
      refine k_istore_n G (dc d_La_areSums 35 rfl) (ls' := [(1, .int (v1_1 + x20)), (9, .int x17), (8, .int x14), (0, .ref (B.1 + p0)), (2, .int v2_2), (3, .int v3_3), (4, .int v4_4), (5, .int v5_5), (6, .int v6_6), (7, .int v7_7)]) rfl rfl rfl ?_
      refine k_iload_n G (dc d_La_areSums 36 rfl) 4 rfl rfl ?_
      refine k_aload_n G (dc d_La_areSums 37 rfl) 3 rfl rfl ?_
      refine k_iload G (dc d_La_areSums 38 rfl) 9 rfl ?_
      refine k_iconst G (dc d_La_areSums 39 rfl) cI_1 ?_
      obtain ⟨⟨x23, M24⟩, e22, h⟩ := kOk_b h
      refine k_cVI G (dc d_La_areSums 40 rfl) kc7 (okL_lt hp0 (o := 0) 0 rfl) (okL_k hp0 (o := 0) 0 rfl) mi_SR_signOf mv_SR_signOf rfl ml_RL_66 (c_Sn_signOf (gst G) hp0 e22) rfl rfl ⟨rfl, rfl⟩ rfl ⟨rfl, rfl⟩ ⟨rfl, rfl⟩ ?_
      obtain ⟨x26, e25, h⟩ := kOk_b h
      refine k_cSI G (dc d_La_areSums 41 rfl) mi_La_letters ms_La_letters ml_RL_78 (c_La_letters (gst G)  e25) rfl rfl ⟨rfl, rfl⟩ rfl ⟨rfl, rfl⟩ ⟨rfl, rfl⟩ ?_
      refine k_iadd G (dc d_La_areSums 42 rfl) ?_
      refine k_istore_n G (dc d_La_areSums 43 rfl) (ls' := [(2, .int (v2_2 + x26)), (1, .int (v1_1 + x20)), (9, .int x17), (8, .int x14), (0, .ref (B.1 + p0)), (3, .int v3_3), (4, .int v4_4), (5, .int v5_5), (6, .int v6_6), (7, .int v7_7)]) rfl rfl rfl ?_
      refine k_iload_n G (dc d_La_areSums 44 rfl) 5 rfl rfl ?_
      refine k_iload G (dc d_La_areSums 45 rfl) 3 rfl ?_
      obtain ⟨x28, e27, h⟩ := kOk_b h
      refine k_cSI G (dc d_La_areSums 46 rfl) mi_La_letters ms_La_letters ml_RL_78 (c_La_letters (gst G)  e27) rfl rfl ⟨rfl, rfl⟩ rfl ⟨rfl, rfl⟩ ⟨rfl, rfl⟩ ?_
      refine k_iadd G (dc d_La_areSums 47 rfl) ?_
      refine k_istore_n G (dc d_La_areSums 48 rfl) (ls' := [(3, .int (v3_3 + x28)), (2, .int (v2_2 + x26)), (1, .int (v1_1 + x20)), (9, .int x17), (8, .int x14), (0, .ref (B.1 + p0)), (4, .int v4_4), (5, .int v5_5), (6, .int v6_6), (7, .int v7_7)]) rfl rfl rfl ?_
      refine k_iload G (dc d_La_areSums 49 rfl) 6 rfl ?_
      refine k_aload_n G (dc d_La_areSums 50 rfl) 5 rfl rfl ?_
      refine k_iload G (dc d_La_areSums 51 rfl) 9 rfl ?_
      refine k_iconst G (dc d_La_areSums 52 rfl) cI_5 ?_
      obtain ⟨⟨x30, M31⟩, e29, h⟩ := kOk_b h
      refine k_cVI G (dc d_La_areSums 53 rfl) kc7 (okL_lt hp0 (o := 0) 0 rfl) (okL_k hp0 (o := 0) 0 rfl) mi_SR_signOf mv_SR_signOf rfl ml_RL_66 (c_Sn_signOf (gst G) hp0 e29) rfl rfl ⟨rfl, rfl⟩ rfl ⟨rfl, rfl⟩ ⟨rfl, rfl⟩ ?_
      refine k_iadd G (dc d_La_areSums 54 rfl) ?_
      refine k_istore G (dc d_La_areSums 55 rfl) (ls' := [(4, .int (v4_4 + x30)), (3, .int (v3_3 + x28)), (2, .int (v2_2 + x26)), (1, .int (v1_1 + x20)), (9, .int x17), (8, .int x14), (0, .ref (B.1 + p0)), (5, .int v5_5), (6, .int v6_6), (7, .int v7_7)]) rfl rfl ?_
      refine k_iload G (dc d_La_areSums 56 rfl) 7 rfl ?_
      refine k_aload_n G (dc d_La_areSums 57 rfl) 6 rfl rfl ?_
      refine k_iload G (dc d_La_areSums 58 rfl) 9 rfl ?_
      refine k_bipush G (dc d_La_areSums 59 rfl) cB_7 ?_
      obtain ⟨⟨x33, M34⟩, e32, h⟩ := kOk_b h
      refine k_cVI G (dc d_La_areSums 60 rfl) kc7 (okL_lt hp0 (o := 0) 0 rfl) (okL_k hp0 (o := 0) 0 rfl) mi_SR_signOf mv_SR_signOf rfl ml_RL_66 (c_Sn_signOf (gst G) hp0 e32) rfl rfl ⟨rfl, rfl⟩ rfl ⟨rfl, rfl⟩ ⟨rfl, rfl⟩ ?_
      refine k_iadd G (dc d_La_areSums 61 rfl) ?_
      refine k_istore G (dc d_La_areSums 62 rfl) (ls' := [(5, .int (v5_5 + x33)), (4, .int (v4_4 + x30)), (3, .int (v3_3 + x28)), (2, .int (v2_2 + x26)), (1, .int (v1_1 + x20)), (9, .int x17), (8, .int x14), (0, .ref (B.1 + p0)), (6, .int v6_6), (7, .int v7_7)]) rfl rfl ?_
      refine k_aload_n G (dc d_La_areSums 63 rfl) 7 rfl rfl ?_
      refine k_iload G (dc d_La_areSums 64 rfl) 9 rfl ?_
      refine k_iconst G (dc d_La_areSums 65 rfl) cI_2 ?_
      obtain ⟨⟨x36, M37⟩, e35, h⟩ := kOk_b h
      refine k_cVI G (dc d_La_areSums 66 rfl) kc7 (okL_lt hp0 (o := 0) 0 rfl) (okL_k hp0 (o := 0) 0 rfl) mi_SR_signOf mv_SR_signOf rfl ml_RL_66 (c_Sn_signOf (gst G) hp0 e35) rfl rfl ⟨rfl, rfl⟩ rfl ⟨rfl, rfl⟩ ⟨rfl, rfl⟩ ?_
      obtain ⟨x39, e38, h⟩ := kOk_b h
      refine k_cSI G (dc d_La_areSums 67 rfl) mi_La_letters ms_La_letters ml_RL_78 (c_La_letters (gst G)  e38) rfl rfl ⟨rfl, rfl⟩ rfl ⟨rfl, rfl⟩ ⟨rfl, rfl⟩ ?_
      refine k_istore G (dc d_La_areSums 68 rfl) (ls' := [(10, .int x39), (5, .int (v5_5 + x33)), (4, .int (v4_4 + x30)), (3, .int (v3_3 + x28)), (2, .int (v2_2 + x26)), (1, .int (v1_1 + x20)), (9, .int x17), (8, .int x14), (0, .ref (B.1 + p0)), (6, .int v6_6), (7, .int v7_7)]) rfl rfl ?_
      refine k_iload G (dc d_La_areSums 69 rfl) 7 rfl ?_
      obtain ⟨x41, e40, h⟩ := kOk_b h
      refine k_cSI G (dc d_La_areSums 70 rfl) mi_La_letters ms_La_letters ml_RL_78 (c_La_letters (gst G)  e40) rfl rfl ⟨rfl, rfl⟩ rfl ⟨rfl, rfl⟩ ⟨rfl, rfl⟩ ?_
      refine k_iload G (dc d_La_areSums 71 rfl) 0 rfl ?_
      refine kJ h (fun r43 => KK X B L 15 0 0 M37 134 [(0, .ref (B.1 + p0)), (1, .int (v1_1 + x20)), (2, .int (v2_2 + x26)), (3, .int (v3_3 + x28)), (4, .int (v4_4 + x30)), (5, .int (v5_5 + x33)), (6, .int v6_6), (7, .int v7_7), (8, .int x14), (9, .int x17), (10, .int x39)] [.int r43]) (fun r43 h => ?_) (fun h => ?_)
      · obtain ⟨t42, rfl⟩ : ∃ z, z = r43 := ⟨_, rfl⟩
        show KK X B L 15 0 0 M37 134 [(0, .ref (B.1 + p0)), (1, .int (v1_1 + x20)), (2, .int (v2_2 + x26)), (3, .int (v3_3 + x28)), (4, .int (v4_4 + x30)), (5, .int (v5_5 + x33)), (6, .int v6_6), (7, .int v7_7), (8, .int x14), (9, .int x17), (10, .int x39)] [.int t42]
        refine k_istore G (dc d_La_areSums 77 rfl) (ls' := [(11, .int t42), (0, .ref (B.1 + p0)), (1, .int (v1_1 + x20)), (2, .int (v2_2 + x26)), (3, .int (v3_3 + x28)), (4, .int (v4_4 + x30)), (5, .int (v5_5 + x33)), (6, .int v6_6), (7, .int v7_7), (8, .int x14), (9, .int x17), (10, .int x39)]) rfl rfl ?_
        refine k_iload G (dc d_La_areSums 78 rfl) 9 rfl ?_
        obtain ⟨x45, e44, h⟩ := kOk_b h
        refine k_cSI G (dc d_La_areSums 79 rfl) mi_La_letters ms_La_letters ml_RL_78 (c_La_letters (gst G)  e44) rfl rfl ⟨rfl, rfl⟩ rfl ⟨rfl, rfl⟩ ⟨rfl, rfl⟩ ?_
        refine k_iload G (dc d_La_areSums 80 rfl) 11 rfl ?_
        refine kJ h (fun r47 => KK X B L 15 0 0 M37 165 [(0, .ref (B.1 + p0)), (1, .int (v1_1 + x20)), (2, .int (v2_2 + x26)), (3, .int (v3_3 + x28)), (4, .int (v4_4 + x30)), (5, .int (v5_5 + x33)), (6, .int v6_6), (7, .int v7_7), (8, .int x14), (9, .int x17), (11, .int t42)] [.int r47]) (fun r47 h => ?_) (fun h => ?_)
        · obtain ⟨t46, rfl⟩ : ∃ z, z = r47 := ⟨_, rfl⟩
          show KK X B L 15 0 0 M37 165 [(0, .ref (B.1 + p0)), (1, .int (v1_1 + x20)), (2, .int (v2_2 + x26)), (3, .int (v3_3 + x28)), (4, .int (v4_4 + x30)), (5, .int (v5_5 + x33)), (6, .int v6_6), (7, .int v7_7), (8, .int x14), (9, .int x17), (11, .int t42)] [.int t46]
          refine k_istore G (dc d_La_areSums 91 rfl) (ls' := [(12, .int t46), (0, .ref (B.1 + p0)), (1, .int (v1_1 + x20)), (2, .int (v2_2 + x26)), (3, .int (v3_3 + x28)), (4, .int (v4_4 + x30)), (5, .int (v5_5 + x33)), (6, .int v6_6), (7, .int v7_7), (8, .int x14), (9, .int x17), (11, .int t42)]) rfl rfl ?_
          refine k_iload G (dc d_La_areSums 92 rfl) 7 rfl ?_
          refine kJ h (fun r50 => KK X B L 15 0 0 r50.2 319 [(0, .ref (B.1 + p0)), (1, .int (v1_1 + x20)), (2, .int (v2_2 + x26)), (3, .int (v3_3 + x28)), (4, .int (v4_4 + x30)), (5, .int (v5_5 + x33)), (7, .int v7_7), (8, .int x14)] [.int r50.1]) (fun r50 h => ?_) (fun h => ?_)
          · obtain ⟨t48, M49⟩ := r50
            show KK X B L 15 0 0 M49 319 [(0, .ref (B.1 + p0)), (1, .int (v1_1 + x20)), (2, .int (v2_2 + x26)), (3, .int (v3_3 + x28)), (4, .int (v4_4 + x30)), (5, .int (v5_5 + x33)), (7, .int v7_7), (8, .int x14)] [.int t48]
            refine k_istore G (dc d_La_areSums 167 rfl) (ls' := [(6, .int t48), (0, .ref (B.1 + p0)), (1, .int (v1_1 + x20)), (2, .int (v2_2 + x26)), (3, .int (v3_3 + x28)), (4, .int (v4_4 + x30)), (5, .int (v5_5 + x33)), (7, .int v7_7), (8, .int x14)]) rfl rfl ?_
            refine k_iconst G (dc d_La_areSums 168 rfl) cI_0 ?_
            refine k_istore G (dc d_La_areSums 169 rfl) (ls' := [(13, .int 0), (6, .int t48), (0, .ref (B.1 + p0)), (1, .int (v1_1 + x20)), (2, .int (v2_2 + x26)), (3, .int (v3_3 + x28)), (4, .int (v4_4 + x30)), (5, .int (v5_5 + x33)), (7, .int v7_7), (8, .int x14)]) rfl rfl ?_
            refine kJ h (fun r86 => KK X B L 15 0 0 r86.2 424 [(0, .ref (B.1 + p0)), (1, .int (v1_1 + x20)), (2, .int (v2_2 + x26)), (3, .int (v3_3 + x28)), (4, .int (v4_4 + x30)), (5, .int (v5_5 + x33)), (6, .int r86.1), (7, .int v7_7)] []) (fun r86 h => ?_) (fun h => ?_)
            · obtain ⟨v6_84, M85⟩ := r86
              show KK X B L 15 0 0 M85 424 [(0, .ref (B.1 + p0)), (1, .int (v1_1 + x20)), (2, .int (v2_2 + x26)), (3, .int (v3_3 + x28)), (4, .int (v4_4 + x30)), (5, .int (v5_5 + x33)), (6, .int v6_84), (7, .int v7_7)] []
              refine k_iinc G (dc d_La_areSums 218 rfl) (ls' := [(7, .int (v7_7 + 1)), (0, .ref (B.1 + p0)), (1, .int (v1_1 + x20)), (2, .int (v2_2 + x26)), (3, .int (v3_3 + x28)), (4, .int (v4_4 + x30)), (5, .int (v5_5 + x33)), (6, .int v6_84)]) 7 rfl cI_1 rfl rfl ?_
              refine k_goto G (dc d_La_areSums 219 rfl) (tgt := 18) rfl ?_
              refine k_sub [1, 2, 3, 4, 5, 6, 7, 0] rfl ?_
              have h9 := kOk_s h
              exact h9
            · refine k_sub [2, 3, 4, 5, 6, 7, 1, 8, 9, 0] rfl ?_
              refine kLp_ok (P := fun s87 => KK X B L 15 0 0 s87.2.2 324 [(0, .ref (B.1 + p0)), (1, .int (v1_1 + x20)), (2, .int (v2_2 + x26)), (3, .int (v3_3 + x28)), (4, .int (v4_4 + x30)), (5, .int (v5_5 + x33)), (6, .int s87.1), (7, .int v7_7), (8, .int x14), (13, .int s87.2.1)] []) (fun s87 h => ?_) kFU _ h
              obtain ⟨v6_51, v13_52, M53⟩ := s87
              unfold m_La_areSums_l324 at h
              show KK X B L 15 0 0 M53 324 [(0, .ref (B.1 + p0)), (1, .int (v1_1 + x20)), (2, .int (v2_2 + x26)), (3, .int (v3_3 + x28)), (4, .int (v4_4 + x30)), (5, .int (v5_5 + x33)), (6, .int v6_51), (7, .int v7_7), (8, .int x14), (13, .int v13_52)] []
              refine k_iload G (dc d_La_areSums 170 rfl) 9 rfl ?_
              refine k_iload G (dc d_La_areSums 171 rfl) 7 rfl ?_
              refine k_icmp_ge G (dc d_La_areSums 172 rfl) (tgt := 424) rfl (fun c54 => ?_) (fun c54 => ?_)
              · replace h := kOk_p c54 h
                refine k_sub [0, 1, 2, 3, 4, 5, 6, 7] rfl ?_
                have h9 := kOk_s h
                exact h9
              · replace h := kOk_n c54 h
                refine k_aload_n G (dc d_La_areSums 173 rfl) 0 rfl rfl ?_
                refine k_iload G (dc d_La_areSums 174 rfl) 7 rfl ?_
                refine k_iload G (dc d_La_areSums 175 rfl) 9 rfl ?_
                obtain ⟨⟨x56, M57⟩, e55, h⟩ := kOk_b h
                refine k_cVI G (dc d_La_areSums 176 rfl) kc7 (okL_lt hp0 (o := 0) 0 rfl) (okL_k hp0 (o := 0) 0 rfl) mi_SR_apart mv_SR_apart rfl ml_RL_81 (c_Sn_apart (gst G) hp0 e55) rfl rfl ⟨rfl, rfl⟩ rfl ⟨rfl, rfl⟩ ⟨rfl, rfl⟩ ?_
                refine k_istore G (dc d_La_areSums 177 rfl) (ls' := [(14, .int x56), (0, .ref (B.1 + p0)), (1, .int (v1_1 + x20)), (2, .int (v2_2 + x26)), (3, .int (v3_3 + x28)), (4, .int (v4_4 + x30)), (5, .int (v5_5 + x33)), (6, .int v6_51), (7, .int v7_7), (8, .int x14), (13, .int v13_52)]) rfl rfl ?_
                refine k_iload G (dc d_La_areSums 178 rfl) 7 rfl ?_
                refine kJ h (fun r60 => KK X B L 15 0 0 r60.2 416 [(0, .ref (B.1 + p0)), (1, .int (v1_1 + x20)), (2, .int (v2_2 + x26)), (3, .int (v3_3 + x28)), (4, .int (v4_4 + x30)), (5, .int (v5_5 + x33)), (7, .int v7_7), (8, .int x14), (13, .int v13_52)] [.int r60.1]) (fun r60 h => ?_) (fun h => ?_)
                · obtain ⟨t58, M59⟩ := r60
                  show KK X B L 15 0 0 M59 416 [(0, .ref (B.1 + p0)), (1, .int (v1_1 + x20)), (2, .int (v2_2 + x26)), (3, .int (v3_3 + x28)), (4, .int (v4_4 + x30)), (5, .int (v5_5 + x33)), (7, .int v7_7), (8, .int x14), (13, .int v13_52)] [.int t58]
                  refine k_istore G (dc d_La_areSums 215 rfl) (ls' := [(6, .int t58), (0, .ref (B.1 + p0)), (1, .int (v1_1 + x20)), (2, .int (v2_2 + x26)), (3, .int (v3_3 + x28)), (4, .int (v4_4 + x30)), (5, .int (v5_5 + x33)), (7, .int v7_7), (8, .int x14), (13, .int v13_52)]) rfl rfl ?_
                  refine k_iinc G (dc d_La_areSums 216 rfl) (ls' := [(13, .int (v13_52 + 1)), (6, .int t58), (0, .ref (B.1 + p0)), (1, .int (v1_1 + x20)), (2, .int (v2_2 + x26)), (3, .int (v3_3 + x28)), (4, .int (v4_4 + x30)), (5, .int (v5_5 + x33)), (7, .int v7_7), (8, .int x14)]) 9 rfl cI_1 rfl rfl ?_
                  refine k_goto G (dc d_La_areSums 217 rfl) (tgt := 324) rfl ?_
                  refine k_sub [2, 3, 4, 5, 6, 7, 1, 8, 9, 0] rfl ?_
                  have h9 := kOk_s h
                  exact h9
                · refine k_if_eq G (dc d_La_areSums 179 rfl) (tgt := 415) rfl (fun c61 => ?_) (fun c61 => ?_)
                  · replace h := kOk_p c61 h
                    refine k_iconst G (dc d_La_areSums 214 rfl) cI_0 ?_
                    refine k_sub [1, 2, 3, 4, 5, 6, 8, 9, 10] rfl ?_
                    have h9 := kOk_s h
                    exact h9
                  · replace h := kOk_n c61 h
                    refine k_iload G (dc d_La_areSums 180 rfl) 0 rfl ?_
                    refine k_aload_n G (dc d_La_areSums 181 rfl) 1 rfl rfl ?_
                    refine k_iload G (dc d_La_areSums 182 rfl) 10 rfl ?_
                    refine k_iload G (dc d_La_areSums 183 rfl) 8 rfl ?_
                    obtain ⟨⟨x63, M64⟩, e62, h⟩ := kOk_b h
                    refine k_cVI G (dc d_La_areSums 184 rfl) kc7 (okL_lt hp0 (o := 0) 0 rfl) (okL_k hp0 (o := 0) 0 rfl) mi_SR_apart mv_SR_apart rfl ml_RL_81 (c_Sn_apart (gst G) hp0 e62) rfl rfl ⟨rfl, rfl⟩ rfl ⟨rfl, rfl⟩ ⟨rfl, rfl⟩ ?_
                    refine k_icmp_ne G (dc d_La_areSums 185 rfl) (tgt := 415) rfl (fun c65 => ?_) (fun c65 => ?_)
                    · replace h := kOk_n c65 h
                      refine k_iconst G (dc d_La_areSums 214 rfl) cI_0 ?_
                      refine k_sub [1, 2, 3, 4, 5, 6, 8, 9, 10] rfl ?_
                      have h9 := kOk_s h
                      exact h9
                    · replace h := kOk_p c65 h
                      refine k_iload G (dc d_La_areSums 186 rfl) 0 rfl ?_
                      refine kJ h (fun r67 => KK X B L 15 0 0 M64 369 [(0, .ref (B.1 + p0)), (1, .int (v1_1 + x20)), (2, .int (v2_2 + x26)), (3, .int (v3_3 + x28)), (4, .int (v4_4 + x30)), (5, .int (v5_5 + x33)), (7, .int v7_7), (8, .int x14), (13, .int v13_52), (14, .int x56)] [.int r67]) (fun r67 h => ?_) (fun h => ?_)
                      · obtain ⟨t66, rfl⟩ : ∃ z, z = r67 := ⟨_, rfl⟩
                        show KK X B L 15 0 0 M64 369 [(0, .ref (B.1 + p0)), (1, .int (v1_1 + x20)), (2, .int (v2_2 + x26)), (3, .int (v3_3 + x28)), (4, .int (v4_4 + x30)), (5, .int (v5_5 + x33)), (7, .int v7_7), (8, .int x14), (13, .int v13_52), (14, .int x56)] [.int t66]
                        refine k_aload_n G (dc d_La_areSums 191 rfl) 0 rfl rfl ?_
                        refine k_iload G (dc d_La_areSums 192 rfl) 8 rfl ?_
                        refine k_iconst G (dc d_La_areSums 193 rfl) cI_0 ?_
                        obtain ⟨⟨x69, M70⟩, e68, h⟩ := kOk_b h
                        refine k_cVI G (dc d_La_areSums 194 rfl) kc7 (okL_lt hp0 (o := 0) 0 rfl) (okL_k hp0 (o := 0) 0 rfl) mi_SR_right mv_SR_right rfl ml_RL_75 (c_Sn_right (gst G) hp0 e68) rfl rfl ⟨rfl, rfl⟩ rfl ⟨rfl, rfl⟩ ⟨rfl, rfl⟩ ?_
                        refine k_iload G (dc d_La_areSums 195 rfl) 7 rfl ?_
                        refine kJ h (fun r72 => KK X B L 15 0 0 M70 386 [(0, .ref (B.1 + p0)), (1, .int (v1_1 + x20)), (2, .int (v2_2 + x26)), (3, .int (v3_3 + x28)), (4, .int (v4_4 + x30)), (5, .int (v5_5 + x33)), (7, .int v7_7), (8, .int x14), (13, .int v13_52), (14, .int x56)] [.int r72, .int t66]) (fun r72 h => ?_) (fun h => ?_)
                        · obtain ⟨t71, rfl⟩ : ∃ z, z = r72 := ⟨_, rfl⟩
                          show KK X B L 15 0 0 M70 386 [(0, .ref (B.1 + p0)), (1, .int (v1_1 + x20)), (2, .int (v2_2 + x26)), (3, .int (v3_3 + x28)), (4, .int (v4_4 + x30)), (5, .int (v5_5 + x33)), (7, .int v7_7), (8, .int x14), (13, .int v13_52), (14, .int x56)] [.int t71, .int t66]
                          refine k_icmp_ne G (dc d_La_areSums 200 rfl) (tgt := 415) rfl (fun c73 => ?_) (fun c73 => ?_)
                          · replace h := kOk_n c73 h
                            refine k_iconst G (dc d_La_areSums 214 rfl) cI_0 ?_
                            refine k_sub [0, 1, 2, 3, 4, 5, 6, 7, 8] rfl ?_
                            have h9 := kOk_s h
                            exact h9
                          · replace h := kOk_p c73 h
                            refine k_aload_n G (dc d_La_areSums 201 rfl) 0 rfl rfl ?_
                            refine k_iload G (dc d_La_areSums 202 rfl) 8 rfl ?_
                            refine k_iconst G (dc d_La_areSums 203 rfl) cI_0 ?_
                            obtain ⟨⟨x75, M76⟩, e74, h⟩ := kOk_b h
                            refine k_cVI G (dc d_La_areSums 204 rfl) kc7 (okL_lt hp0 (o := 0) 0 rfl) (okL_k hp0 (o := 0) 0 rfl) mi_SR_signOf mv_SR_signOf rfl ml_RL_66 (c_Sn_signOf (gst G) hp0 e74) rfl rfl ⟨rfl, rfl⟩ rfl ⟨rfl, rfl⟩ ⟨rfl, rfl⟩ ?_
                            refine k_aload_n G (dc d_La_areSums 205 rfl) 0 rfl rfl ?_
                            refine k_iload G (dc d_La_areSums 206 rfl) 6 rfl ?_
                            refine k_iconst G (dc d_La_areSums 207 rfl) cI_0 ?_
                            obtain ⟨⟨x78, M79⟩, e77, h⟩ := kOk_b h
                            refine k_cVI G (dc d_La_areSums 208 rfl) kc7 (okL_lt hp0 (o := 0) 0 rfl) (okL_k hp0 (o := 0) 0 rfl) mi_SR_signOf mv_SR_signOf rfl ml_RL_66 (c_Sn_signOf (gst G) hp0 e77) rfl rfl ⟨rfl, rfl⟩ rfl ⟨rfl, rfl⟩ ⟨rfl, rfl⟩ ?_
                            refine k_icmp_ne G (dc d_La_areSums 209 rfl) (tgt := 411) rfl (fun c80 => ?_) (fun c80 => ?_)
                            · replace h := kOk_n c80 h
                              refine k_iconst G (dc d_La_areSums 212 rfl) cI_1 ?_
                              refine k_goto G (dc d_La_areSums 213 rfl) (tgt := 416) rfl ?_
                              refine k_sub [0, 1, 2, 3, 4, 5, 6, 7, 8] rfl ?_
                              have h9 := kOk_s h
                              exact h9
                            · replace h := kOk_p c80 h
                              refine k_iload G (dc d_La_areSums 210 rfl) 9 rfl ?_
                              refine k_if_le G (dc d_La_areSums 211 rfl) (tgt := 415) rfl (fun c81 => ?_) (fun c81 => ?_)
                              · replace h := kOk_p c81 h
                                refine k_iconst G (dc d_La_areSums 214 rfl) cI_0 ?_
                                refine k_sub [0, 1, 2, 3, 4, 5, 6, 7, 8] rfl ?_
                                have h9 := kOk_s h
                                exact h9
                              · replace h := kOk_n c81 h
                                refine k_iconst G (dc d_La_areSums 212 rfl) cI_1 ?_
                                refine k_goto G (dc d_La_areSums 213 rfl) (tgt := 416) rfl ?_
                                refine k_sub [0, 1, 2, 3, 4, 5, 6, 7, 8] rfl ?_
                                have h9 := kOk_s h
                                exact h9
                        · refine k_icmp_ne G (dc d_La_areSums 196 rfl) (tgt := 385) rfl (fun c82 => ?_) (fun c82 => ?_)
                          · replace h := kOk_n c82 h
                            refine k_iconst G (dc d_La_areSums 199 rfl) cI_0 ?_
                            have h9 := kOk_s h
                            exact h9
                          · replace h := kOk_p c82 h
                            refine k_iconst G (dc d_La_areSums 197 rfl) cI_1 ?_
                            refine k_goto G (dc d_La_areSums 198 rfl) (tgt := 386) rfl ?_
                            have h9 := kOk_s h
                            exact h9
                      · refine k_if_ne G (dc d_La_areSums 187 rfl) (tgt := 368) rfl (fun c83 => ?_) (fun c83 => ?_)
                        · replace h := kOk_n c83 h
                          refine k_iconst G (dc d_La_areSums 190 rfl) cI_0 ?_
                          refine k_sub [1, 2, 3, 4, 5, 6, 8, 9, 10, 0] rfl ?_
                          have h9 := kOk_s h
                          exact h9
                        · replace h := kOk_p c83 h
                          refine k_iconst G (dc d_La_areSums 188 rfl) cI_1 ?_
                          refine k_goto G (dc d_La_areSums 189 rfl) (tgt := 369) rfl ?_
                          refine k_sub [1, 2, 3, 4, 5, 6, 8, 9, 10, 0] rfl ?_
                          have h9 := kOk_s h
                          exact h9
          · refine k_if_eq G (dc d_La_areSums 93 rfl) (tgt := 318) rfl (fun c88 => ?_) (fun c88 => ?_)
            · replace h := kOk_p c88 h
              refine k_iconst G (dc d_La_areSums 166 rfl) cI_0 ?_
              refine k_sub [1, 2, 3, 4, 5, 6, 8, 9] rfl ?_
              have h9 := kOk_s h
              exact h9
            · replace h := kOk_n c88 h
              refine k_iload G (dc d_La_areSums 94 rfl) 9 rfl ?_
              refine k_if_le G (dc d_La_areSums 95 rfl) (tgt := 318) rfl (fun c89 => ?_) (fun c89 => ?_)
              · replace h := kOk_p c89 h
                refine k_iconst G (dc d_La_areSums 166 rfl) cI_0 ?_
                refine k_sub [1, 2, 3, 4, 5, 6, 8, 9] rfl ?_
                have h9 := kOk_s h
                exact h9
              · replace h := kOk_n c89 h
                refine k_aload_n G (dc d_La_areSums 96 rfl) 1 rfl rfl ?_
                refine k_iload G (dc d_La_areSums 97 rfl) 8 rfl ?_
                refine k_iconst G (dc d_La_areSums 98 rfl) cI_1 ?_
                obtain ⟨⟨x91, M92⟩, e90, h⟩ := kOk_b h
                refine k_cVI G (dc d_La_areSums 99 rfl) kc7 (okL_lt hp0 (o := 0) 0 rfl) (okL_k hp0 (o := 0) 0 rfl) mi_SR_right mv_SR_right rfl ml_RL_75 (c_Sn_right (gst G) hp0 e90) rfl rfl ⟨rfl, rfl⟩ rfl ⟨rfl, rfl⟩ ⟨rfl, rfl⟩ ?_
                refine k_iload G (dc d_La_areSums 100 rfl) 9 rfl ?_
                refine k_icmp_ne G (dc d_La_areSums 101 rfl) (tgt := 318) rfl (fun c93 => ?_) (fun c93 => ?_)
                · replace h := kOk_n c93 h
                  refine k_iconst G (dc d_La_areSums 166 rfl) cI_0 ?_
                  refine k_sub [1, 2, 3, 4, 5, 6, 8, 9] rfl ?_
                  have h9 := kOk_s h
                  exact h9
                · replace h := kOk_p c93 h
                  refine k_iload G (dc d_La_areSums 102 rfl) 9 rfl ?_
                  obtain ⟨x95, e94, h⟩ := kOk_b h
                  refine k_cSI G (dc d_La_areSums 103 rfl) mi_La_letters ms_La_letters ml_RL_78 (c_La_letters (gst G)  e94) rfl rfl ⟨rfl, rfl⟩ rfl ⟨rfl, rfl⟩ ⟨rfl, rfl⟩ ?_
                  refine k_aload_n G (dc d_La_areSums 104 rfl) 1 rfl rfl ?_
                  refine k_iload G (dc d_La_areSums 105 rfl) 8 rfl ?_
                  refine k_iconst G (dc d_La_areSums 106 rfl) cI_1 ?_
                  obtain ⟨⟨x97, M98⟩, e96, h⟩ := kOk_b h
                  refine k_cVI G (dc d_La_areSums 107 rfl) kc7 (okL_lt hp0 (o := 0) 0 rfl) (okL_k hp0 (o := 0) 0 rfl) mi_SR_signOf mv_SR_signOf rfl ml_RL_66 (c_Sn_signOf (gst G) hp0 e96) rfl rfl ⟨rfl, rfl⟩ rfl ⟨rfl, rfl⟩ ⟨rfl, rfl⟩ ?_
                  obtain ⟨x100, e99, h⟩ := kOk_b h
                  refine k_cSI G (dc d_La_areSums 108 rfl) mi_La_letters ms_La_letters ml_RL_78 (c_La_letters (gst G)  e99) rfl rfl ⟨rfl, rfl⟩ rfl ⟨rfl, rfl⟩ ⟨rfl, rfl⟩ ?_
                  refine k_icmp_gt G (dc d_La_areSums 109 rfl) (tgt := 318) rfl (fun c101 => ?_) (fun c101 => ?_)
                  · replace h := kOk_p c101 h
                    refine k_iconst G (dc d_La_areSums 166 rfl) cI_0 ?_
                    refine k_sub [1, 2, 3, 4, 5, 6, 8, 9] rfl ?_
                    have h9 := kOk_s h
                    exact h9
                  · replace h := kOk_n c101 h
                    refine k_aload_n G (dc d_La_areSums 110 rfl) 1 rfl rfl ?_
                    refine k_iload G (dc d_La_areSums 111 rfl) 8 rfl ?_
                    refine k_iconst G (dc d_La_areSums 112 rfl) cI_3 ?_
                    obtain ⟨⟨x103, M104⟩, e102, h⟩ := kOk_b h
                    refine k_cVI G (dc d_La_areSums 113 rfl) kc7 (okL_lt hp0 (o := 0) 0 rfl) (okL_k hp0 (o := 0) 0 rfl) mi_SR_signOf mv_SR_signOf rfl ml_RL_66 (c_Sn_signOf (gst G) hp0 e102) rfl rfl ⟨rfl, rfl⟩ rfl ⟨rfl, rfl⟩ ⟨rfl, rfl⟩ ?_
                    refine k_iconst G (dc d_La_areSums 114 rfl) cI_1 ?_
                    refine kJ h (fun r106 => KK X B L 15 0 0 M104 223 [(0, .ref (B.1 + p0)), (1, .int (v1_1 + x20)), (2, .int (v2_2 + x26)), (3, .int (v3_3 + x28)), (4, .int (v4_4 + x30)), (5, .int (v5_5 + x33)), (7, .int v7_7), (8, .int x14), (9, .int x17), (11, .int t42), (12, .int t46)] [.int r106]) (fun r106 h => ?_) (fun h => ?_)
                    · obtain ⟨t105, rfl⟩ : ∃ z, z = r106 := ⟨_, rfl⟩
                      show KK X B L 15 0 0 M104 223 [(0, .ref (B.1 + p0)), (1, .int (v1_1 + x20)), (2, .int (v2_2 + x26)), (3, .int (v3_3 + x28)), (4, .int (v4_4 + x30)), (5, .int (v5_5 + x33)), (7, .int v7_7), (8, .int x14), (9, .int x17), (11, .int t42), (12, .int t46)] [.int t105]
                      refine k_aload_n G (dc d_La_areSums 119 rfl) 0 rfl rfl ?_
                      refine k_iload G (dc d_La_areSums 120 rfl) 6 rfl ?_
                      refine k_iconst G (dc d_La_areSums 121 rfl) cI_2 ?_
                      obtain ⟨⟨x108, M109⟩, e107, h⟩ := kOk_b h
                      refine k_cVI G (dc d_La_areSums 122 rfl) kc7 (okL_lt hp0 (o := 0) 0 rfl) (okL_k hp0 (o := 0) 0 rfl) mi_SR_signOf mv_SR_signOf rfl ml_RL_66 (c_Sn_signOf (gst G) hp0 e107) rfl rfl ⟨rfl, rfl⟩ rfl ⟨rfl, rfl⟩ ⟨rfl, rfl⟩ ?_
                      refine k_iload G (dc d_La_areSums 123 rfl) 7 rfl ?_
                      refine kJ h (fun r111 => KK X B L 15 0 0 M109 240 [(0, .ref (B.1 + p0)), (1, .int (v1_1 + x20)), (2, .int (v2_2 + x26)), (3, .int (v3_3 + x28)), (4, .int (v4_4 + x30)), (5, .int (v5_5 + x33)), (7, .int v7_7), (8, .int x14), (9, .int x17), (11, .int t42), (12, .int t46)] [.int r111, .int t105]) (fun r111 h => ?_) (fun h => ?_)
                      · obtain ⟨t110, rfl⟩ : ∃ z, z = r111 := ⟨_, rfl⟩
                        show KK X B L 15 0 0 M109 240 [(0, .ref (B.1 + p0)), (1, .int (v1_1 + x20)), (2, .int (v2_2 + x26)), (3, .int (v3_3 + x28)), (4, .int (v4_4 + x30)), (5, .int (v5_5 + x33)), (7, .int v7_7), (8, .int x14), (9, .int x17), (11, .int t42), (12, .int t46)] [.int t110, .int t105]
                        refine k_icmp_ne G (dc d_La_areSums 128 rfl) (tgt := 318) rfl (fun c112 => ?_) (fun c112 => ?_)
                        · replace h := kOk_n c112 h
                          refine k_iconst G (dc d_La_areSums 166 rfl) cI_0 ?_
                          refine k_sub [0, 1, 2, 3, 4, 5, 6, 7] rfl ?_
                          have h9 := kOk_s h
                          exact h9
                        · replace h := kOk_p c112 h
                          refine k_iload G (dc d_La_areSums 129 rfl) 8 rfl ?_
                          refine kJ h (fun r114 => KK X B L 15 0 0 M109 253 [(0, .ref (B.1 + p0)), (1, .int (v1_1 + x20)), (2, .int (v2_2 + x26)), (3, .int (v3_3 + x28)), (4, .int (v4_4 + x30)), (5, .int (v5_5 + x33)), (7, .int v7_7), (8, .int x14), (9, .int x17), (11, .int t42), (12, .int t46)] [.int r114]) (fun r114 h => ?_) (fun h => ?_)
                          · obtain ⟨t113, rfl⟩ : ∃ z, z = r114 := ⟨_, rfl⟩
                            show KK X B L 15 0 0 M109 253 [(0, .ref (B.1 + p0)), (1, .int (v1_1 + x20)), (2, .int (v2_2 + x26)), (3, .int (v3_3 + x28)), (4, .int (v4_4 + x30)), (5, .int (v5_5 + x33)), (7, .int v7_7), (8, .int x14), (9, .int x17), (11, .int t42), (12, .int t46)] [.int t113]
                            refine k_aload_n G (dc d_La_areSums 134 rfl) 0 rfl rfl ?_
                            refine k_iload G (dc d_La_areSums 135 rfl) 6 rfl ?_
                            refine k_iconst G (dc d_La_areSums 136 rfl) cI_3 ?_
                            obtain ⟨⟨x116, M117⟩, e115, h⟩ := kOk_b h
                            refine k_cVI G (dc d_La_areSums 137 rfl) kc7 (okL_lt hp0 (o := 0) 0 rfl) (okL_k hp0 (o := 0) 0 rfl) mi_SR_signOf mv_SR_signOf rfl ml_RL_66 (c_Sn_signOf (gst G) hp0 e115) rfl rfl ⟨rfl, rfl⟩ rfl ⟨rfl, rfl⟩ ⟨rfl, rfl⟩ ?_
                            refine kJ h (fun r119 => KK X B L 15 0 0 M117 268 [(0, .ref (B.1 + p0)), (1, .int (v1_1 + x20)), (2, .int (v2_2 + x26)), (3, .int (v3_3 + x28)), (4, .int (v4_4 + x30)), (5, .int (v5_5 + x33)), (7, .int v7_7), (8, .int x14), (9, .int x17), (11, .int t42), (12, .int t46)] [.int r119, .int t113]) (fun r119 h => ?_) (fun h => ?_)
                            · obtain ⟨t118, rfl⟩ : ∃ z, z = r119 := ⟨_, rfl⟩
                              show KK X B L 15 0 0 M117 268 [(0, .ref (B.1 + p0)), (1, .int (v1_1 + x20)), (2, .int (v2_2 + x26)), (3, .int (v3_3 + x28)), (4, .int (v4_4 + x30)), (5, .int (v5_5 + x33)), (7, .int v7_7), (8, .int x14), (9, .int x17), (11, .int t42), (12, .int t46)] [.int t118, .int t113]
                              refine k_icmp_ne G (dc d_La_areSums 142 rfl) (tgt := 318) rfl (fun c120 => ?_) (fun c120 => ?_)
                              · replace h := kOk_n c120 h
                                refine k_iconst G (dc d_La_areSums 166 rfl) cI_0 ?_
                                refine k_sub [0, 1, 2, 3, 4, 5, 6, 7] rfl ?_
                                have h9 := kOk_s h
                                exact h9
                              · replace h := kOk_p c120 h
                                refine k_iload G (dc d_La_areSums 143 rfl) 8 rfl ?_
                                refine k_iload G (dc d_La_areSums 144 rfl) 10 rfl ?_
                                refine k_icmp_lt G (dc d_La_areSums 145 rfl) (tgt := 318) rfl (fun c121 => ?_) (fun c121 => ?_)
                                · replace h := kOk_p c121 h
                                  refine k_iconst G (dc d_La_areSums 166 rfl) cI_0 ?_
                                  refine k_sub [0, 1, 2, 3, 4, 5, 6, 7] rfl ?_
                                  have h9 := kOk_s h
                                  exact h9
                                · replace h := kOk_n c121 h
                                  refine k_iload G (dc d_La_areSums 146 rfl) 8 rfl ?_
                                  refine k_iload G (dc d_La_areSums 147 rfl) 9 rfl ?_
                                  refine k_icmp_gt G (dc d_La_areSums 148 rfl) (tgt := 318) rfl (fun c122 => ?_) (fun c122 => ?_)
                                  · replace h := kOk_p c122 h
                                    refine k_iconst G (dc d_La_areSums 166 rfl) cI_0 ?_
                                    refine k_sub [0, 1, 2, 3, 4, 5, 6, 7] rfl ?_
                                    have h9 := kOk_s h
                                    exact h9
                                  · replace h := kOk_n c122 h
                                    refine k_aload_n G (dc d_La_areSums 149 rfl) 0 rfl rfl ?_
                                    refine k_iload G (dc d_La_areSums 150 rfl) 6 rfl ?_
                                    refine k_iconst G (dc d_La_areSums 151 rfl) cI_5 ?_
                                    obtain ⟨⟨x124, M125⟩, e123, h⟩ := kOk_b h
                                    refine k_cVI G (dc d_La_areSums 152 rfl) kc7 (okL_lt hp0 (o := 0) 0 rfl) (okL_k hp0 (o := 0) 0 rfl) mi_SR_signOf mv_SR_signOf rfl ml_RL_66 (c_Sn_signOf (gst G) hp0 e123) rfl rfl ⟨rfl, rfl⟩ rfl ⟨rfl, rfl⟩ ⟨rfl, rfl⟩ ?_
                                    refine k_iload G (dc d_La_areSums 153 rfl) 8 rfl ?_
                                    refine k_aload_n G (dc d_La_areSums 154 rfl) 0 rfl rfl ?_
                                    refine k_iconst G (dc d_La_areSums 155 rfl) cI_0 ?_
                                    obtain ⟨x127, e126, h⟩ := kOk_b h
                                    refine k_cVI G (dc d_La_areSums 156 rfl) kc7 (okL_lt hp0 (o := 0) 0 rfl) (okL_k hp0 (o := 0) 0 rfl) mi_SR_setting mv_SR_setting rfl ml_RL_63 (c_Sn_setting (gst G) hp0 e126) rfl rfl ⟨rfl, rfl⟩ rfl ⟨rfl, rfl⟩ ⟨rfl, rfl⟩ ?_
                                    refine k_imul G (dc d_La_areSums 157 rfl) ?_
                                    refine k_icmp_ne G (dc d_La_areSums 158 rfl) (tgt := 318) rfl (fun c128 => ?_) (fun c128 => ?_)
                                    · replace h := kOk_n c128 h
                                      refine k_iconst G (dc d_La_areSums 166 rfl) cI_0 ?_
                                      refine k_sub [0, 1, 2, 3, 4, 5, 6, 7] rfl ?_
                                      have h9 := kOk_s h
                                      exact h9
                                    · replace h := kOk_p c128 h
                                      refine k_aload_n G (dc d_La_areSums 159 rfl) 0 rfl rfl ?_
                                      refine k_iload G (dc d_La_areSums 160 rfl) 6 rfl ?_
                                      refine k_iload G (dc d_La_areSums 161 rfl) 6 rfl ?_
                                      obtain ⟨⟨x130, M131⟩, e129, h⟩ := kOk_b h
                                      refine k_cVI G (dc d_La_areSums 162 rfl) kc7 (okL_lt hp0 (o := 0) 0 rfl) (okL_k hp0 (o := 0) 0 rfl) mi_SR_apart mv_SR_apart rfl ml_RL_81 (c_Sn_apart (gst G) hp0 e129) rfl rfl ⟨rfl, rfl⟩ rfl ⟨rfl, rfl⟩ ⟨rfl, rfl⟩ ?_
                                      refine k_if_ne G (dc d_La_areSums 163 rfl) (tgt := 318) rfl (fun c132 => ?_) (fun c132 => ?_)
                                      · replace h := kOk_n c132 h
                                        refine k_iconst G (dc d_La_areSums 166 rfl) cI_0 ?_
                                        refine k_sub [0, 1, 2, 3, 4, 5, 6, 7] rfl ?_
                                        have h9 := kOk_s h
                                        exact h9
                                      · replace h := kOk_p c132 h
                                        refine k_iconst G (dc d_La_areSums 164 rfl) cI_1 ?_
                                        refine k_goto G (dc d_La_areSums 165 rfl) (tgt := 319) rfl ?_
                                        refine k_sub [0, 1, 2, 3, 4, 5, 6, 7] rfl ?_
                                        have h9 := kOk_s h
                                        exact h9
                            · refine k_if_ne G (dc d_La_areSums 138 rfl) (tgt := 267) rfl (fun c133 => ?_) (fun c133 => ?_)
                              · replace h := kOk_n c133 h
                                refine k_iconst G (dc d_La_areSums 141 rfl) cI_0 ?_
                                have h9 := kOk_s h
                                exact h9
                              · replace h := kOk_p c133 h
                                refine k_iconst G (dc d_La_areSums 139 rfl) cI_1 ?_
                                refine k_goto G (dc d_La_areSums 140 rfl) (tgt := 268) rfl ?_
                                have h9 := kOk_s h
                                exact h9
                          · refine k_if_ne G (dc d_La_areSums 130 rfl) (tgt := 252) rfl (fun c134 => ?_) (fun c134 => ?_)
                            · replace h := kOk_n c134 h
                              refine k_iconst G (dc d_La_areSums 133 rfl) cI_0 ?_
                              have h9 := kOk_s h
                              exact h9
                            · replace h := kOk_p c134 h
                              refine k_iconst G (dc d_La_areSums 131 rfl) cI_1 ?_
                              refine k_goto G (dc d_La_areSums 132 rfl) (tgt := 253) rfl ?_
                              have h9 := kOk_s h
                              exact h9
                      · refine k_icmp_eq G (dc d_La_areSums 124 rfl) (tgt := 239) rfl (fun c135 => ?_) (fun c135 => ?_)
                        · replace h := kOk_p c135 h
                          refine k_iconst G (dc d_La_areSums 127 rfl) cI_0 ?_
                          have h9 := kOk_s h
                          exact h9
                        · replace h := kOk_n c135 h
                          refine k_iconst G (dc d_La_areSums 125 rfl) cI_1 ?_
                          refine k_goto G (dc d_La_areSums 126 rfl) (tgt := 240) rfl ?_
                          have h9 := kOk_s h
                          exact h9
                    · refine k_icmp_ne G (dc d_La_areSums 115 rfl) (tgt := 222) rfl (fun c136 => ?_) (fun c136 => ?_)
                      · replace h := kOk_n c136 h
                        refine k_iconst G (dc d_La_areSums 118 rfl) cI_0 ?_
                        refine k_sub [1, 2, 3, 4, 5, 6, 8, 9, 10, 11, 0] rfl ?_
                        have h9 := kOk_s h
                        exact h9
                      · replace h := kOk_p c136 h
                        refine k_iconst G (dc d_La_areSums 116 rfl) cI_1 ?_
                        refine k_goto G (dc d_La_areSums 117 rfl) (tgt := 223) rfl ?_
                        refine k_sub [1, 2, 3, 4, 5, 6, 8, 9, 10, 11, 0] rfl ?_
                        have h9 := kOk_s h
                        exact h9
        · refine k_icmp_le G (dc d_La_areSums 81 rfl) (tgt := 157) rfl (fun c137 => ?_) (fun c137 => ?_)
          · replace h := kOk_p c137 h
            refine k_iload G (dc d_La_areSums 87 rfl) 11 rfl ?_
            refine k_iload G (dc d_La_areSums 88 rfl) 9 rfl ?_
            obtain ⟨x139, e138, h⟩ := kOk_b h
            refine k_cSI G (dc d_La_areSums 89 rfl) mi_La_letters ms_La_letters ml_RL_78 (c_La_letters (gst G)  e138) rfl rfl ⟨rfl, rfl⟩ rfl ⟨rfl, rfl⟩ ⟨rfl, rfl⟩ ?_
            refine k_isub G (dc d_La_areSums 90 rfl) ?_
            refine k_sub [1, 2, 3, 4, 5, 6, 7, 8, 9, 10, 0] rfl ?_
            have h9 := kOk_s h
            exact h9
          · replace h := kOk_n c137 h
            refine k_iload G (dc d_La_areSums 82 rfl) 9 rfl ?_
            obtain ⟨x141, e140, h⟩ := kOk_b h
            refine k_cSI G (dc d_La_areSums 83 rfl) mi_La_letters ms_La_letters ml_RL_78 (c_La_letters (gst G)  e140) rfl rfl ⟨rfl, rfl⟩ rfl ⟨rfl, rfl⟩ ⟨rfl, rfl⟩ ?_
            refine k_iload G (dc d_La_areSums 84 rfl) 11 rfl ?_
            refine k_isub G (dc d_La_areSums 85 rfl) ?_
            refine k_goto G (dc d_La_areSums 86 rfl) (tgt := 165) rfl ?_
            refine k_sub [1, 2, 3, 4, 5, 6, 7, 8, 9, 10, 0] rfl ?_
            have h9 := kOk_s h
            exact h9
      · refine k_icmp_le G (dc d_La_areSums 72 rfl) (tgt := 132) rfl (fun c142 => ?_) (fun c142 => ?_)
        · replace h := kOk_p c142 h
          refine k_iload G (dc d_La_areSums 76 rfl) 0 rfl ?_
          refine k_sub [8, 5, 4, 3, 2, 1, 9, 10, 7, 6, 0] rfl ?_
          have h9 := kOk_s h
          exact h9
        · replace h := kOk_n c142 h
          refine k_iload G (dc d_La_areSums 73 rfl) 7 rfl ?_
          obtain ⟨x144, e143, h⟩ := kOk_b h
          refine k_cSI G (dc d_La_areSums 74 rfl) mi_La_letters ms_La_letters ml_RL_78 (c_La_letters (gst G)  e143) rfl rfl ⟨rfl, rfl⟩ rfl ⟨rfl, rfl⟩ ⟨rfl, rfl⟩ ?_
          refine k_goto G (dc d_La_areSums 75 rfl) (tgt := 134) rfl ?_
          refine k_sub [8, 5, 4, 3, 2, 1, 9, 10, 7, 6, 0] rfl ?_
          have h9 := kOk_s h
          exact h9
theorem c_La_areSums {l : Launch} {B : KB} {L : KLay} {M : KMem} {p0 : Nat} (hst : l.stackTraces = false) (hp0 : okL L p0 srT) {r : Int32} {M' : KMem} (e : m_La_areSums p0 M = some (r, M')) : CtrN l B yL_areSums cL_areSums 15 (some .boolean) rm_La_areSums [.ref (B.1 + p0)] L M (some (.int r)) L M' :=
  mk_I rfl hst rfl (fun X hl G _ R => b_La_areSums G hp0 ⟨_, e, R⟩)
