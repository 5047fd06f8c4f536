/-! laid by wip/p30/g30.py: La_isWhySo -/
def I_La_isWhySo : List (Nat × Instr × Nat) := [(0, .iconst 1, 1), (1, .iload_n 2, 1), (2, .bipush 6, 2), (4, .invokestatic 44, 3), (7, .iadd, 1), (8, .istore 4, 2), (10, .iload_n 1, 1), (11, .iconst 1, 1), (12, .if_icmp .ne 16, 3), (15, .iconst 1, 1), (16, .iload_n 2, 1), (17, .iconst 3, 1), (18, .ishr, 1), (19, .bipush 6, 2), (21, .invokestatic 44, 3), (24, .iadd, 1), (25, .goto 4, 3), (28, .iconst 0, 1), (29, .istore 5, 2), (31, .iload_n 1, 1), (32, .iconst 1, 1), (33, .if_icmp .ne 17, 3), (36, .iconst 1, 1), (37, .iload_n 2, 1), (38, .bipush 6, 2), (40, .ishr, 1), (41, .bipush 6, 2), (43, .invokestatic 44, 3), (46, .iadd, 1), (47, .goto 4, 3), (50, .iconst 0, 1), (51, .istore 6, 2), (53, .aload_n 0, 1), (54, .iload_n 1, 1), (55, .iload 4, 2), (57, .iload 5, 2), (59, .iload 6, 2), (61, .invokevirtual 87, 3), (64, .istore 7, 2), (66, .aload_n 0, 1), (67, .iconst 1, 1), (68, .invokevirtual 60, 3), (71, .istore 8, 2), (73, .aload_n 0, 1), (74, .bipush 8, 2), (76, .invokevirtual 60, 3), (79, .istore 9, 2), (81, .iload 7, 2), (83, .ifCond .lt 64, 3), (86, .iload 7, 2), (88, .iconst 3, 1), (89, .if_icmp .ge 58, 3), (92, .iload_n 1, 1), (93, .ifCond .ne 27, 3), (96, .aload_n 0, 1), (97, .invokevirtual 90, 3), (100, .iload 4, 2), (102, .iconst 1, 1), (103, .isub, 1), (104, .ishr, 1), (105, .iconst 1, 1), (106, .iand, 1), (107, .iload 7, 2), (109, .ifCond .ne 7, 3), (112, .iconst 1, 1), (113, .goto 4, 3), (116, .iconst 0, 1), (117, .if_icmp .ne 30, 3), (120, .iload_n 1, 1), (121, .ifCond .eq 9, 3), (124, .iload 7, 2), (126, .iconst 1, 1), (127, .if_icmp .eq 20, 3), (130, .aload_n 0, 1), (131, .iconst 0, 1), (132, .invokevirtual 60, 3), (135, .ifCond .gt 8, 3), (138, .iload 7, 2), (140, .ifCond .ne 7, 3), (143, .iconst 1, 1), (144, .goto 4, 3), (147, .iconst 0, 1), (148, .istore 10, 2), (150, .aload_n 0, 1), (151, .iload_n 1, 1), (152, .iload 4, 2), (154, .iload 5, 2), (156, .iload 6, 2), (158, .aload_n 3, 1), (159, .invokestatic 56, 3), (162, .istore 11, 2), (164, .iload 8, 2), (166, .bipush 10, 2), (168, .if_icmp .ne 41, 3), (171, .iload 10, 2), (173, .ifCond .eq 34, 3), (176, .iload 11, 2), (178, .iconst 3, 1), (179, .if_icmp .ne 28, 3), (182, .aload_n 0, 1), (183, .iconst 1, 1), (184, .invokevirtual 60, 3), (187, .bipush 10, 2), (189, .if_icmp .ne 18, 3), (192, .aload_n 0, 1), (193, .bipush 8, 2), (195, .invokevirtual 60, 3), (198, .iload 9, 2), (200, .if_icmp .ne 7, 3), (203, .iconst 1, 1), (204, .goto 4, 3), (207, .iconst 0, 1), (208, .ireturn, 1), (209, .iload 10, 2), (211, .ifCond .eq 130, 3), (214, .iload 11, 2), (216, .ifCond .ne 125, 3), (219, .aload_n 3, 1), (220, .iconst 0, 1), (221, .iaload, 1), (222, .iload 7, 2), (224, .if_icmp .ne 117, 3), (227, .aload_n 0, 1), (228, .iconst 1, 1), (229, .invokevirtual 60, 3), (232, .iload 8, 2), (234, .iload 7, 2), (236, .ifCond .ne 7, 3), (239, .iconst 1, 1), (240, .goto 4, 3), (243, .iconst 0, 1), (244, .iadd, 1), (245, .if_icmp .ne 96, 3), (248, .aload_n 0, 1), (249, .bipush 8, 2), (251, .invokevirtual 60, 3), (254, .iload 9, 2), (256, .iload 7, 2), (258, .ifCond .ne 7, 3), (261, .iconst 0, 1), (262, .goto 4, 3), (265, .iconst 1, 1), (266, .iadd, 1), (267, .if_icmp .ne 74, 3), (270, .iload 7, 2), (272, .ifCond .gt 65, 3), (275, .aload_n 0, 1), (276, .iload 8, 2), (278, .iconst 0, 1), (279, .invokevirtual 69, 3), (282, .iload_n 1, 1), (283, .if_icmp .ne 58, 3), (286, .aload_n 0, 1), (287, .iload 8, 2), (289, .iconst 1, 1), (290, .invokevirtual 69, 3), (293, .iload 4, 2), (295, .if_icmp .ne 46, 3), (298, .aload_n 0, 1), (299, .iload 8, 2), (301, .iconst 2, 1), (302, .invokevirtual 69, 3), (305, .iload 5, 2), (307, .if_icmp .ne 34, 3), (310, .aload_n 0, 1), (311, .iload 8, 2), (313, .iconst 3, 1), (314, .invokevirtual 69, 3), (317, .iload 6, 2), (319, .if_icmp .ne 22, 3), (322, .aload_n 0, 1), (323, .iload 8, 2), (325, .iconst 4, 1), (326, .invokevirtual 69, 3), (329, .aload_n 0, 1), (330, .iconst 3, 1), (331, .invokevirtual 60, 3), (334, .if_icmp .ne 7, 3), (337, .iconst 1, 1), (338, .goto 4, 3), (341, .iconst 0, 1), (342, .istore 10, 2), (344, .iload 10, 2), (346, .ifCond .eq 36, 3), (349, .aload_n 0, 1), (350, .aload_n 3, 1), (351, .invokestatic 93, 3), (354, .ifCond .ne 28, 3), (357, .aload_n 0, 1), (358, .iconst 1, 1), (359, .invokevirtual 60, 3), (362, .iload 8, 2), (364, .if_icmp .ne 18, 3), (367, .aload_n 0, 1), (368, .bipush 8, 2), (370, .invokevirtual 60, 3), (373, .iload 9, 2), (375, .if_icmp .ne 7, 3), (378, .iconst 1, 1), (379, .goto 4, 3), (382, .iconst 0, 1), (383, .ireturn, 1)]
set_option maxRecDepth 100000 in
theorem d_La_isWhySo : decA cL_isWhySo I_La_isWhySo = true := by decide +kernel
abbrev rm_La_isWhySo : Room := ({ frames := 9, cells := 3, slots := 18, locals := 179 } : Room)
def m_La_isWhySo (p0 : Nat) (p1 : Int32) (p2 : Int32) (p3 : Nat) (p3n : Nat) (M : KMem) : Option (Int32 × KMem) :=
 Option.bind (m_La_low p2 6) fun x2 =>
 Option.bind (α := Int32) (if p1 = 1 then
 (Option.bind (m_La_low (jshr p2 3) 6) fun x136 =>
 some (1 + x136))
 else
 (some 0)) fun t3 =>
 Option.bind (α := Int32) (if p1 = 1 then
 (Option.bind (m_La_low (jshr p2 6) 6) fun x133 =>
 some (1 + x133))
 else
 (some 0)) fun t5 =>
 Option.bind (m_Sn_why p0 p1 (1 + x2) t3 t5 M) fun (x8, M9) =>
 Option.bind (m_Sn_about p0 1 M9) fun (x11, M12) =>
 Option.bind (m_Sn_about p0 8 M12) fun (x14, M15) =>
 Option.bind (α := Int32 × KMem) (if x8 < 0 then
 (some (0, M15))
 else
 (if 3 ≤ x8 then
 (some (0, M15))
 else
 (if p1 = 0 then
 (Option.bind (m_SR_droppable p0 M15) fun (x113, M114) =>
 Option.bind (α := Int32) (if x8 = 0 then
 (some 1)
 else
 (some 0)) fun t115 =>
 if ((jshr x113 ((1 + x2) - 1)) &&& 1) = t115 then
 (if p1 = 0 then
 (Option.bind (m_Sn_about p0 0 M114) fun (x120, M121) =>
 if 0 < x120 then
 (some (1, M121))
 else
 (if x8 = 0 then
 (some (1, M121))
 else
 (some (0, M121))))
 else
 (if x8 = 1 then
 (some (0, M114))
 else
 (Option.bind (m_Sn_about p0 0 M114) fun (x126, M127) =>
 if 0 < x126 then
 (some (1, M127))
 else
 (if x8 = 0 then
 (some (1, M127))
 else
 (some (0, M127))))))
 else
 (some (0, M114)))
 else
 (if p1 = 0 then
 (Option.bind (m_Sn_about p0 0 M15) fun (x102, M103) =>
 if 0 < x102 then
 (some (1, M103))
 else
 (if x8 = 0 then
 (some (1, M103))
 else
 (some (0, M103))))
 else
 (if x8 = 1 then
 (some (0, M15))
 else
 (Option.bind (m_Sn_about p0 0 M15) fun (x108, M109) =>
 if 0 < x108 then
 (some (1, M109))
 else
 (if x8 = 0 then
 (some (1, M109))
 else
 (some (0, M109))))))))) fun (t16, M17) =>
 Option.bind (m_La_decrees p0 p1 (1 + x2) t3 t5 p3 p3n M17) fun (x20, M21) =>
 if x11 = 10 then
 (Option.bind (α := Int32 × KMem) (if t16 = 0 then
 (some (0, M21))
 else
 (if x20 = 3 then
 (Option.bind (m_Sn_about p0 1 M21) fun (x90, M91) =>
 if x90 = 10 then
 (Option.bind (m_Sn_about p0 8 M91) fun (x94, M95) =>
 if x94 = x14 then
 (some (1, M95))
 else
 (some (0, M95)))
 else
 (some (0, M91)))
 else
 (some (0, M21)))) fun (t82, M83) =>
 Option.bind (kz t82) fun z85 =>
 some (z85, M83))
 else
 (Option.bind (α := Int32 × KMem) (if t16 = 0 then
 (some (0, M21))
 else
 (if x20 = 0 then
 (Option.bind (rdI M21 p3 p3n 0) fun x47 =>
 if x47 = x8 then
 (Option.bind (m_Sn_about p0 1 M21) fun (x50, M51) =>
 Option.bind (α := Int32) (if x8 = 0 then
 (some 1)
 else
 (some 0)) fun t52 =>
 if x50 = (x11 + t52) then
 (Option.bind (m_Sn_about p0 8 M51) fun (x56, M57) =>
 Option.bind (α := Int32) (if x8 = 0 then
 (some 0)
 else
 (some 1)) fun t58 =>
 if x56 = (x14 + t58) then
 (if 0 < x8 then
 (some (1, M57))
 else
 (Option.bind (m_Sn_decreeOf p0 x11 0 M57) fun x63 =>
 if x63 = p1 then
 (Option.bind (m_Sn_decreeOf p0 x11 1 M57) fun x66 =>
 if x66 = (1 + x2) then
 (Option.bind (m_Sn_decreeOf p0 x11 2 M57) fun x69 =>
 if x69 = t3 then
 (Option.bind (m_Sn_decreeOf p0 x11 3 M57) fun x72 =>
 if x72 = t5 then
 (Option.bind (m_Sn_decreeOf p0 x11 4 M57) fun x75 =>
 Option.bind (m_Sn_about p0 3 M57) fun (x77, M78) =>
 if x75 = x77 then
 (some (1, M78))
 else
 (some (0, M78)))
 else
 (some (0, M57)))
 else
 (some (0, M57)))
 else
 (some (0, M57)))
 else
 (some (0, M57))))
 else
 (some (0, M57)))
 else
 (some (0, M51)))
 else
 (some (0, M21)))
 else
 (some (0, M21)))) fun (t23, M24) =>
 Option.bind (α := Int32 × KMem) (if t23 = 0 then
 (some (0, M24))
 else
 (Option.bind (m_La_undoes p0 p3 p3n M24) fun (x33, M34) =>
 if x33 = 0 then
 (Option.bind (m_Sn_about p0 1 M34) fun (x37, M38) =>
 if x37 = x11 then
 (Option.bind (m_Sn_about p0 8 M38) fun (x41, M42) =>
 if x41 = x14 then
 (some (1, M42))
 else
 (some (0, M42)))
 else
 (some (0, M38)))
 else
 (some (0, M34)))) fun (t26, M27) =>
 Option.bind (kz t26) fun z29 =>
 some (z29, M27))
set_option maxHeartbeats 4000000 in
set_option maxRecDepth 100000 in
theorem b_La_isWhySo {X : KX} {B : KB} {L : KLay} {M : KMem} {p0 : Nat} {p1 : Int32} {p2 : Int32} {p3 : Nat} {p3n : Nat} (G : Good X B RL cL_isWhySo 12 rm_La_isWhySo) (hx : B.2.2.2 = false) (hp0 : okL L p0 srT) (hp3 : arL L p3 9 p3n) (h : kOk (m_La_isWhySo p0 p1 p2 p3 p3n M) (fun r => RI X B L 12 cL_isWhySo .boolean rm_La_isWhySo r.1 r.2)) : KK X B L 12 0 0 M 0 [(0, .ref (B.1 + p0)), (1, .int p1), (2, .int p2), (3, .ref (B.1 + p3))] [] := by
  unfold m_La_isWhySo at h
  refine k_iconst G (dc d_La_isWhySo 0 rfl) cI_1 ?_
  refine k_iload_n G (dc d_La_isWhySo 1 rfl) 2 rfl rfl ?_
  refine k_bipush G (dc d_La_isWhySo 2 rfl) cB_6 ?_
  obtain ⟨x2, e1, h⟩ := kOk_b h
  refine k_cSI G (dc d_La_isWhySo 3 rfl) mi_La_low ms_La_low ml_RL_44 (c_La_low (gst G)  e1) rfl rfl ⟨rfl, rfl⟩ rfl ⟨rfl, rfl⟩ ⟨rfl, rfl⟩ ?_
  refine k_iadd G (dc d_La_isWhySo 4 rfl) ?_
  refine k_istore G (dc d_La_isWhySo 5 rfl) (ls' := [(4, .int (1 + x2)), (0, .ref (B.1 + p0)), (1, .int p1), (2, .int p2), (3, .ref (B.1 + p3))]) rfl rfl ?_
  refine k_iload_n G (dc d_La_isWhySo 6 rfl) 2 rfl rfl ?_
  refine k_iconst G (dc d_La_isWhySo 7 rfl) cI_1 ?_
  refine kJ h (fun r4 => KK X B L 12 0 0 M 29 [(0, .ref (B.1 + p0)), (1, .int p1), (2, .int p2), (3, .ref (B.1 + p3)), (4, .int (1 + x2))] [.int r4]) (fun r4 h => ?_) (fun h => ?_)
  · obtain ⟨t3, rfl⟩ : ∃ z, z = r4 := ⟨_, rfl⟩
    show KK X B L 12 0 0 M 29 [(0, .ref (B.1 + p0)), (1, .int p1), (2, .int p2), (3, .ref (B.1 + p3)), (4, .int (1 + x2))] [.int t3]
    refine k_istore G (dc d_La_isWhySo 18 rfl) (ls' := [(5, .int t3), (0, .ref (B.1 + p0)), (1, .int p1), (2, .int p2), (3, .ref (B.1 + p3)), (4, .int (1 + x2))]) rfl rfl ?_
    refine k_iload_n G (dc d_La_isWhySo 19 rfl) 2 rfl rfl ?_
    refine k_iconst G (dc d_La_isWhySo 20 rfl) cI_1 ?_
    refine kJ h (fun r6 => KK X B L 12 0 0 M 51 [(0, .ref (B.1 + p0)), (1, .int p1), (3, .ref (B.1 + p3)), (4, .int (1 + x2)), (5, .int t3)] [.int r6]) (fun r6 h => ?_) (fun h => ?_)
    · obtain ⟨t5, rfl⟩ : ∃ z, z = r6 := ⟨_, rfl⟩
      show KK X B L 12 0 0 M 51 [(0, .ref (B.1 + p0)), (1, .int p1), (3, .ref (B.1 + p3)), (4, .int (1 + x2)), (5, .int t3)] [.int t5]
      refine k_istore G (dc d_La_isWhySo 31 rfl) (ls' := [(6, .int t5), (0, .ref (B.1 + p0)), (1, .int p1), (3, .ref (B.1 + p3)), (4, .int (1 + x2)), (5, .int t3)]) rfl rfl ?_
      refine k_aload_n G (dc d_La_isWhySo 32 rfl) 1 rfl rfl ?_
      refine k_iload_n G (dc d_La_isWhySo 33 rfl) 2 rfl rfl ?_
      refine k_iload G (dc d_La_isWhySo 34 rfl) 4 rfl ?_
      refine k_iload G (dc d_La_isWhySo 35 rfl) 5 rfl ?_
      refine k_iload G (dc d_La_isWhySo 36 rfl) 0 rfl ?_
      obtain ⟨⟨x8, M9⟩, e7, h⟩ := kOk_b h
      refine k_cVI G (dc d_La_isWhySo 37 rfl) kc7 (okL_lt hp0 (o := 0) 0 rfl) (okL_k hp0 (o := 0) 0 rfl) mi_SR_why mv_SR_why rfl ml_RL_87 (c_Sn_why (gst G) hp0 e7) rfl rfl ⟨rfl, rfl⟩ rfl ⟨rfl, rfl⟩ ⟨rfl, rfl⟩ ?_
      refine k_istore G (dc d_La_isWhySo 38 rfl) (ls' := [(7, .int x8), (6, .int t5), (0, .ref (B.1 + p0)), (1, .int p1), (3, .ref (B.1 + p3)), (4, .int (1 + x2)), (5, .int t3)]) rfl rfl ?_
      refine k_aload_n G (dc d_La_isWhySo 39 rfl) 2 rfl rfl ?_
      refine k_iconst G (dc d_La_isWhySo 40 rfl) cI_1 ?_
      obtain ⟨⟨x11, M12⟩, e10, h⟩ := kOk_b h
      refine k_cVI G (dc d_La_isWhySo 41 rfl) kc7 (okL_lt hp0 (o := 0) 0 rfl) (okL_k hp0 (o := 0) 0 rfl) mi_SR_about mv_SR_about rfl ml_RL_60 (c_Sn_about (gst G) hp0 e10) rfl rfl ⟨rfl, rfl⟩ rfl ⟨rfl, rfl⟩ ⟨rfl, rfl⟩ ?_
      refine k_istore G (dc d_La_isWhySo 42 rfl) (ls' := [(8, .int x11), (7, .int x8), (6, .int t5), (0, .ref (B.1 + p0)), (1, .int p1), (3, .ref (B.1 + p3)), (4, .int (1 + x2)), (5, .int t3)]) rfl rfl ?_
      refine k_aload_n G (dc d_La_isWhySo 43 rfl) 3 rfl rfl ?_
      refine k_bipush G (dc d_La_isWhySo 44 rfl) cB_8 ?_
      obtain ⟨⟨x14, M15⟩, e13, h⟩ := kOk_b h
      refine k_cVI G (dc d_La_isWhySo 45 rfl) kc7 (okL_lt hp0 (o := 0) 0 rfl) (okL_k hp0 (o := 0) 0 rfl) mi_SR_about mv_SR_about rfl ml_RL_60 (c_Sn_about (gst G) hp0 e13) rfl rfl ⟨rfl, rfl⟩ rfl ⟨rfl, rfl⟩ ⟨rfl, rfl⟩ ?_
      refine k_istore G (dc d_La_isWhySo 46 rfl) (ls' := [(9, .int x14), (8, .int x11), (7, .int x8), (6, .int t5), (0, .ref (B.1 + p0)), (1, .int p1), (3, .ref (B.1 + p3)), (4, .int (1 + x2)), (5, .int t3)]) rfl rfl ?_
      refine k_iload G (dc d_La_isWhySo 47 rfl) 2 rfl ?_
      refine kJ h (fun r18 => KK X B L 12 0 0 r18.2 148 [(0, .ref (B.1 + p0)), (1, .int p1), (3, .ref (B.1 + p3)), (4, .int (1 + x2)), (5, .int t3), (6, .int t5), (7, .int x8), (8, .int x11), (9, .int x14)] [.int r18.1]) (fun r18 h => ?_) (fun h => ?_)
      · obtain ⟨t16, M17⟩ := r18
        show KK X B L 12 0 0 M17 148 [(0, .ref (B.1 + p0)), (1, .int p1), (3, .ref (B.1 + p3)), (4, .int (1 + x2)), (5, .int t3), (6, .int t5), (7, .int x8), (8, .int x11), (9, .int x14)] [.int t16]
        refine k_istore G (dc d_La_isWhySo 82 rfl) (ls' := [(10, .int t16), (0, .ref (B.1 + p0)), (1, .int p1), (3, .ref (B.1 + p3)), (4, .int (1 + x2)), (5, .int t3), (6, .int t5), (7, .int x8), (8, .int x11), (9, .int x14)]) rfl rfl ?_
        refine k_aload_n G (dc d_La_isWhySo 83 rfl) 1 rfl rfl ?_
        refine k_iload_n G (dc d_La_isWhySo 84 rfl) 2 rfl rfl ?_
        refine k_iload G (dc d_La_isWhySo 85 rfl) 4 rfl ?_
        refine k_iload G (dc d_La_isWhySo 86 rfl) 5 rfl ?_
        refine k_iload G (dc d_La_isWhySo 87 rfl) 6 rfl ?_
        refine k_aload_n G (dc d_La_isWhySo 88 rfl) 3 rfl rfl ?_
        obtain ⟨⟨x20, M21⟩, e19, h⟩ := kOk_b h
        refine k_cSH G (dc d_La_isWhySo 89 rfl) mh_La_decrees ms_La_decrees ml_RL_56 (c_La_decrees (gst G) hx hp0 hp3 e19) rfl rfl ⟨rfl, rfl⟩ rfl ⟨rfl, rfl⟩ ?_
        show KK X B L 12 2 12 M21 162 [(10, .int t16), (0, .ref (B.1 + p0)), (1, .int p1), (3, .ref (B.1 + p3)), (4, .int (1 + x2)), (5, .int t3), (6, .int t5), (7, .int x8), (8, .int x11), (9, .int x14)] [.int x20]
        refine k_istore G (dc d_La_isWhySo 90 rfl) (ls' := [(11, .int x20), (10, .int t16), (0, .ref (B.1 + p0)), (1, .int p1), (3, .ref (B.1 + p3)), (4, .int (1 + x2)), (5, .int t3), (6, .int t5), (7, .int x8), (8, .int x11), (9, .int x14)]) rfl rfl ?_
        refine k_iload G (dc d_La_isWhySo 91 rfl) 9 rfl ?_
        refine k_bipush G (dc d_La_isWhySo 92 rfl) cB_10 ?_
        refine k_icmp_ne G (dc d_La_isWhySo 93 rfl) (tgt := 209) rfl (fun c22 => ?_) (fun c22 => ?_)
        · replace h := kOk_n c22 h
          refine k_iload G (dc d_La_isWhySo 113 rfl) 1 rfl ?_
          refine kJ h (fun r25 => KK X B L 12 2 12 r25.2 342 [(0, .ref (B.1 + p0)), (3, .ref (B.1 + p3)), (8, .int x11), (9, .int x14)] [.int r25.1]) (fun r25 h => ?_) (fun h => ?_)
          · obtain ⟨t23, M24⟩ := r25
            show KK X B L 12 2 12 M24 342 [(0, .ref (B.1 + p0)), (3, .ref (B.1 + p3)), (8, .int x11), (9, .int x14)] [.int t23]
            refine k_istore G (dc d_La_isWhySo 181 rfl) (ls' := [(10, .int t23), (0, .ref (B.1 + p0)), (3, .ref (B.1 + p3)), (8, .int x11), (9, .int x14)]) rfl rfl ?_
            refine k_iload G (dc d_La_isWhySo 182 rfl) 0 rfl ?_
            refine kJ h (fun r28 => KK X B L 12 3 18 r28.2 383 [] [.int r28.1]) (fun r28 h => ?_) (fun h => ?_)
            · obtain ⟨t26, M27⟩ := r28
              show KK X B L 12 3 18 M27 383 [] [.int t26]
              obtain ⟨z29, e30, h⟩ := kOk_b h
              obtain ⟨e30, nz29, -⟩ := kz_ok e30
              rw [e30]
              exact (kOk_s h) _ _ _ _ rfl rfl nz29 (dc d_La_isWhySo 201 rfl)
            · refine k_if_eq G (dc d_La_isWhySo 183 rfl) (tgt := 382) rfl (fun c31 => ?_) (fun c31 => ?_)
              · replace h := kOk_p c31 h
                refine k_iconst G (dc d_La_isWhySo 200 rfl) cI_0 ?_
                refine k_sub [] rfl ?_
                refine k_wide (k := 3) (n := 18) (Nat.le_of_ble_eq_true rfl) (Nat.le_of_ble_eq_true rfl) ?_
                have h9 := kOk_s h
                exact h9
              · replace h := kOk_n c31 h
                refine k_aload_n G (dc d_La_isWhySo 184 rfl) 1 rfl rfl ?_
                refine k_aload_n G (dc d_La_isWhySo 185 rfl) 2 rfl rfl ?_
                obtain ⟨⟨x33, M34⟩, e32, h⟩ := kOk_b h
                refine k_cSH G (dc d_La_isWhySo 186 rfl) mh_La_undoes ms_La_undoes ml_RL_93 (c_La_undoes (gst G) hx hp0 hp3 e32) rfl rfl ⟨rfl, rfl⟩ rfl ⟨rfl, rfl⟩ ?_
                show KK X B L 12 3 18 M34 354 [(10, .int t23), (0, .ref (B.1 + p0)), (3, .ref (B.1 + p3)), (8, .int x11), (9, .int x14)] [.int x33]
                refine k_if_ne G (dc d_La_isWhySo 187 rfl) (tgt := 382) rfl (fun c35 => ?_) (fun c35 => ?_)
                · replace h := kOk_n c35 h
                  refine k_iconst G (dc d_La_isWhySo 200 rfl) cI_0 ?_
                  refine k_sub [] rfl ?_
                  have h9 := kOk_s h
                  exact h9
                · replace h := kOk_p c35 h
                  refine k_aload_n G (dc d_La_isWhySo 188 rfl) 1 rfl rfl ?_
                  refine k_iconst G (dc d_La_isWhySo 189 rfl) cI_1 ?_
                  obtain ⟨⟨x37, M38⟩, e36, h⟩ := kOk_b h
                  refine k_cVI G (dc d_La_isWhySo 190 rfl) kc7 (okL_lt hp0 (o := 0) 0 rfl) (okL_k hp0 (o := 0) 0 rfl) mi_SR_about mv_SR_about rfl ml_RL_60 (c_Sn_about (gst G) hp0 e36) rfl rfl ⟨rfl, rfl⟩ rfl ⟨rfl, rfl⟩ ⟨rfl, rfl⟩ ?_
                  refine k_iload G (dc d_La_isWhySo 191 rfl) 3 rfl ?_
                  refine k_icmp_ne G (dc d_La_isWhySo 192 rfl) (tgt := 382) rfl (fun c39 => ?_) (fun c39 => ?_)
                  · replace h := kOk_n c39 h
                    refine k_iconst G (dc d_La_isWhySo 200 rfl) cI_0 ?_
                    refine k_sub [] rfl ?_
                    have h9 := kOk_s h
                    exact h9
                  · replace h := kOk_p c39 h
                    refine k_aload_n G (dc d_La_isWhySo 193 rfl) 1 rfl rfl ?_
                    refine k_bipush G (dc d_La_isWhySo 194 rfl) cB_8 ?_
                    obtain ⟨⟨x41, M42⟩, e40, h⟩ := kOk_b h
                    refine k_cVI G (dc d_La_isWhySo 195 rfl) kc7 (okL_lt hp0 (o := 0) 0 rfl) (okL_k hp0 (o := 0) 0 rfl) mi_SR_about mv_SR_about rfl ml_RL_60 (c_Sn_about (gst G) hp0 e40) rfl rfl ⟨rfl, rfl⟩ rfl ⟨rfl, rfl⟩ ⟨rfl, rfl⟩ ?_
                    refine k_iload G (dc d_La_isWhySo 196 rfl) 4 rfl ?_
                    refine k_icmp_ne G (dc d_La_isWhySo 197 rfl) (tgt := 382) rfl (fun c43 => ?_) (fun c43 => ?_)
                    · replace h := kOk_n c43 h
                      refine k_iconst G (dc d_La_isWhySo 200 rfl) cI_0 ?_
                      refine k_sub [] rfl ?_
                      have h9 := kOk_s h
                      exact h9
                    · replace h := kOk_p c43 h
                      refine k_iconst G (dc d_La_isWhySo 198 rfl) cI_1 ?_
                      refine k_goto G (dc d_La_isWhySo 199 rfl) (tgt := 383) rfl ?_
                      refine k_sub [] rfl ?_
                      have h9 := kOk_s h
                      exact h9
          · refine k_if_eq G (dc d_La_isWhySo 114 rfl) (tgt := 341) rfl (fun c44 => ?_) (fun c44 => ?_)
            · replace h := kOk_p c44 h
              refine k_iconst G (dc d_La_isWhySo 180 rfl) cI_0 ?_
              refine k_sub [2, 4, 9, 10] rfl ?_
              have h9 := kOk_s h
              exact h9
            · replace h := kOk_n c44 h
              refine k_iload G (dc d_La_isWhySo 115 rfl) 0 rfl ?_
              refine k_if_ne G (dc d_La_isWhySo 116 rfl) (tgt := 341) rfl (fun c45 => ?_) (fun c45 => ?_)
              · replace h := kOk_n c45 h
                refine k_iconst G (dc d_La_isWhySo 180 rfl) cI_0 ?_
                refine k_sub [2, 4, 9, 10] rfl ?_
                have h9 := kOk_s h
                exact h9
              · replace h := kOk_p c45 h
                refine k_aload_n G (dc d_La_isWhySo 117 rfl) 4 rfl rfl ?_
                refine k_iconst G (dc d_La_isWhySo 118 rfl) cI_0 ?_
                obtain ⟨x47, e46, h⟩ := kOk_b h
                refine k_ild G (dc d_La_isWhySo 119 rfl) hp3.1 hp3.2.1 hp3.2.2 e46 ?_
                refine k_iload G (dc d_La_isWhySo 120 rfl) 8 rfl ?_
                refine k_icmp_ne G (dc d_La_isWhySo 121 rfl) (tgt := 341) rfl (fun c48 => ?_) (fun c48 => ?_)
                · replace h := kOk_n c48 h
                  refine k_iconst G (dc d_La_isWhySo 180 rfl) cI_0 ?_
                  refine k_sub [2, 4, 9, 10] rfl ?_
                  have h9 := kOk_s h
                  exact h9
                · replace h := kOk_p c48 h
                  refine k_aload_n G (dc d_La_isWhySo 122 rfl) 2 rfl rfl ?_
                  refine k_iconst G (dc d_La_isWhySo 123 rfl) cI_1 ?_
                  obtain ⟨⟨x50, M51⟩, e49, h⟩ := kOk_b h
                  refine k_cVI G (dc d_La_isWhySo 124 rfl) kc7 (okL_lt hp0 (o := 0) 0 rfl) (okL_k hp0 (o := 0) 0 rfl) mi_SR_about mv_SR_about rfl ml_RL_60 (c_Sn_about (gst G) hp0 e49) rfl rfl ⟨rfl, rfl⟩ rfl ⟨rfl, rfl⟩ ⟨rfl, rfl⟩ ?_
                  refine k_iload G (dc d_La_isWhySo 125 rfl) 9 rfl ?_
                  refine k_iload G (dc d_La_isWhySo 126 rfl) 8 rfl ?_
                  refine kJ h (fun r53 => KK X B L 12 2 12 M51 244 [(0, .ref (B.1 + p0)), (1, .int p1), (3, .ref (B.1 + p3)), (4, .int (1 + x2)), (5, .int t3), (6, .int t5), (7, .int x8), (8, .int x11), (9, .int x14)] [.int r53, .int x11, .int x50]) (fun r53 h => ?_) (fun h => ?_)
                  · obtain ⟨t52, rfl⟩ : ∃ z, z = r53 := ⟨_, rfl⟩
                    show KK X B L 12 2 12 M51 244 [(0, .ref (B.1 + p0)), (1, .int p1), (3, .ref (B.1 + p3)), (4, .int (1 + x2)), (5, .int t3), (6, .int t5), (7, .int x8), (8, .int x11), (9, .int x14)] [.int t52, .int x11, .int x50]
                    refine k_iadd G (dc d_La_isWhySo 131 rfl) ?_
                    refine k_icmp_ne G (dc d_La_isWhySo 132 rfl) (tgt := 341) rfl (fun c54 => ?_) (fun c54 => ?_)
                    · replace h := kOk_n c54 h
                      refine k_iconst G (dc d_La_isWhySo 180 rfl) cI_0 ?_
                      refine k_sub [0, 2, 7, 8] rfl ?_
                      have h9 := kOk_s h
                      exact h9
                    · replace h := kOk_p c54 h
                      refine k_aload_n G (dc d_La_isWhySo 133 rfl) 0 rfl rfl ?_
                      refine k_bipush G (dc d_La_isWhySo 134 rfl) cB_8 ?_
                      obtain ⟨⟨x56, M57⟩, e55, h⟩ := kOk_b h
                      refine k_cVI G (dc d_La_isWhySo 135 rfl) kc7 (okL_lt hp0 (o := 0) 0 rfl) (okL_k hp0 (o := 0) 0 rfl) mi_SR_about mv_SR_about rfl ml_RL_60 (c_Sn_about (gst G) hp0 e55) rfl rfl ⟨rfl, rfl⟩ rfl ⟨rfl, rfl⟩ ⟨rfl, rfl⟩ ?_
                      refine k_iload G (dc d_La_isWhySo 136 rfl) 8 rfl ?_
                      refine k_iload G (dc d_La_isWhySo 137 rfl) 6 rfl ?_
                      refine kJ h (fun r59 => KK X B L 12 2 12 M57 266 [(0, .ref (B.1 + p0)), (1, .int p1), (3, .ref (B.1 + p3)), (4, .int (1 + x2)), (5, .int t3), (6, .int t5), (7, .int x8), (8, .int x11), (9, .int x14)] [.int r59, .int x14, .int x56]) (fun r59 h => ?_) (fun h => ?_)
                      · obtain ⟨t58, rfl⟩ : ∃ z, z = r59 := ⟨_, rfl⟩
                        show KK X B L 12 2 12 M57 266 [(0, .ref (B.1 + p0)), (1, .int p1), (3, .ref (B.1 + p3)), (4, .int (1 + x2)), (5, .int t3), (6, .int t5), (7, .int x8), (8, .int x11), (9, .int x14)] [.int t58, .int x14, .int x56]
                        refine k_iadd G (dc d_La_isWhySo 142 rfl) ?_
                        refine k_icmp_ne G (dc d_La_isWhySo 143 rfl) (tgt := 341) rfl (fun c60 => ?_) (fun c60 => ?_)
                        · replace h := kOk_n c60 h
                          refine k_iconst G (dc d_La_isWhySo 180 rfl) cI_0 ?_
                          refine k_sub [0, 2, 7, 8] rfl ?_
                          have h9 := kOk_s h
                          exact h9
                        · replace h := kOk_p c60 h
                          refine k_iload G (dc d_La_isWhySo 144 rfl) 6 rfl ?_
                          refine k_if_gt G (dc d_La_isWhySo 145 rfl) (tgt := 337) rfl (fun c61 => ?_) (fun c61 => ?_)
                          · replace h := kOk_p c61 h
                            refine k_iconst G (dc d_La_isWhySo 178 rfl) cI_1 ?_
                            refine k_goto G (dc d_La_isWhySo 179 rfl) (tgt := 342) rfl ?_
                            refine k_sub [0, 2, 7, 8] rfl ?_
                            have h9 := kOk_s h
                            exact h9
                          · replace h := kOk_n c61 h
                            refine k_aload_n G (dc d_La_isWhySo 146 rfl) 0 rfl rfl ?_
                            refine k_iload G (dc d_La_isWhySo 147 rfl) 7 rfl ?_
                            refine k_iconst G (dc d_La_isWhySo 148 rfl) cI_0 ?_
                            obtain ⟨x63, e62, h⟩ := kOk_b h
                            refine k_cVI G (dc d_La_isWhySo 149 rfl) kc7 (okL_lt hp0 (o := 0) 0 rfl) (okL_k hp0 (o := 0) 0 rfl) mi_SR_decreeOf mv_SR_decreeOf rfl ml_RL_69 (c_Sn_decreeOf (gst G) hp0 e62) rfl rfl ⟨rfl, rfl⟩ rfl ⟨rfl, rfl⟩ ⟨rfl, rfl⟩ ?_
                            refine k_iload_n G (dc d_La_isWhySo 150 rfl) 1 rfl rfl ?_
                            refine k_icmp_ne G (dc d_La_isWhySo 151 rfl) (tgt := 341) rfl (fun c64 => ?_) (fun c64 => ?_)
                            · replace h := kOk_n c64 h
                              refine k_iconst G (dc d_La_isWhySo 180 rfl) cI_0 ?_
                              refine k_sub [0, 2, 7, 8] rfl ?_
                              have h9 := kOk_s h
                              exact h9
                            · replace h := kOk_p c64 h
                              refine k_aload_n G (dc d_La_isWhySo 152 rfl) 0 rfl rfl ?_
                              refine k_iload G (dc d_La_isWhySo 153 rfl) 7 rfl ?_
                              refine k_iconst G (dc d_La_isWhySo 154 rfl) cI_1 ?_
                              obtain ⟨x66, e65, h⟩ := kOk_b h
                              refine k_cVI G (dc d_La_isWhySo 155 rfl) kc7 (okL_lt hp0 (o := 0) 0 rfl) (okL_k hp0 (o := 0) 0 rfl) mi_SR_decreeOf mv_SR_decreeOf rfl ml_RL_69 (c_Sn_decreeOf (gst G) hp0 e65) rfl rfl ⟨rfl, rfl⟩ rfl ⟨rfl, rfl⟩ ⟨rfl, rfl⟩ ?_
                              refine k_iload G (dc d_La_isWhySo 156 rfl) 3 rfl ?_
                              refine k_icmp_ne G (dc d_La_isWhySo 157 rfl) (tgt := 341) rfl (fun c67 => ?_) (fun c67 => ?_)
                              · replace h := kOk_n c67 h
                                refine k_iconst G (dc d_La_isWhySo 180 rfl) cI_0 ?_
                                refine k_sub [0, 2, 7, 8] rfl ?_
                                have h9 := kOk_s h
                                exact h9
                              · replace h := kOk_p c67 h
                                refine k_aload_n G (dc d_La_isWhySo 158 rfl) 0 rfl rfl ?_
                                refine k_iload G (dc d_La_isWhySo 159 rfl) 7 rfl ?_
                                refine k_iconst G (dc d_La_isWhySo 160 rfl) cI_2 ?_
                                obtain ⟨x69, e68, h⟩ := kOk_b h
                                refine k_cVI G (dc d_La_isWhySo 161 rfl) kc7 (okL_lt hp0 (o := 0) 0 rfl) (okL_k hp0 (o := 0) 0 rfl) mi_SR_decreeOf mv_SR_decreeOf rfl ml_RL_69 (c_Sn_decreeOf (gst G) hp0 e68) rfl rfl ⟨rfl, rfl⟩ rfl ⟨rfl, rfl⟩ ⟨rfl, rfl⟩ ?_
                                refine k_iload G (dc d_La_isWhySo 162 rfl) 4 rfl ?_
                                refine k_icmp_ne G (dc d_La_isWhySo 163 rfl) (tgt := 341) rfl (fun c70 => ?_) (fun c70 => ?_)
                                · replace h := kOk_n c70 h
                                  refine k_iconst G (dc d_La_isWhySo 180 rfl) cI_0 ?_
                                  refine k_sub [0, 2, 7, 8] rfl ?_
                                  have h9 := kOk_s h
                                  exact h9
                                · replace h := kOk_p c70 h
                                  refine k_aload_n G (dc d_La_isWhySo 164 rfl) 0 rfl rfl ?_
                                  refine k_iload G (dc d_La_isWhySo 165 rfl) 7 rfl ?_
                                  refine k_iconst G (dc d_La_isWhySo 166 rfl) cI_3 ?_
                                  obtain ⟨x72, e71, h⟩ := kOk_b h
                                  refine k_cVI G (dc d_La_isWhySo 167 rfl) kc7 (okL_lt hp0 (o := 0) 0 rfl) (okL_k hp0 (o := 0) 0 rfl) mi_SR_decreeOf mv_SR_decreeOf rfl ml_RL_69 (c_Sn_decreeOf (gst G) hp0 e71) rfl rfl ⟨rfl, rfl⟩ rfl ⟨rfl, rfl⟩ ⟨rfl, rfl⟩ ?_
                                  refine k_iload G (dc d_La_isWhySo 168 rfl) 5 rfl ?_
                                  refine k_icmp_ne G (dc d_La_isWhySo 169 rfl) (tgt := 341) rfl (fun c73 => ?_) (fun c73 => ?_)
                                  · replace h := kOk_n c73 h
                                    refine k_iconst G (dc d_La_isWhySo 180 rfl) cI_0 ?_
                                    refine k_sub [0, 2, 7, 8] rfl ?_
                                    have h9 := kOk_s h
                                    exact h9
                                  · replace h := kOk_p c73 h
                                    refine k_aload_n G (dc d_La_isWhySo 170 rfl) 0 rfl rfl ?_
                                    refine k_iload G (dc d_La_isWhySo 171 rfl) 7 rfl ?_
                                    refine k_iconst G (dc d_La_isWhySo 172 rfl) cI_4 ?_
                                    obtain ⟨x75, e74, h⟩ := kOk_b h
                                    refine k_cVI G (dc d_La_isWhySo 173 rfl) kc7 (okL_lt hp0 (o := 0) 0 rfl) (okL_k hp0 (o := 0) 0 rfl) mi_SR_decreeOf mv_SR_decreeOf rfl ml_RL_69 (c_Sn_decreeOf (gst G) hp0 e74) rfl rfl ⟨rfl, rfl⟩ rfl ⟨rfl, rfl⟩ ⟨rfl, rfl⟩ ?_
                                    refine k_aload_n G (dc d_La_isWhySo 174 rfl) 0 rfl rfl ?_
                                    refine k_iconst G (dc d_La_isWhySo 175 rfl) cI_3 ?_
                                    obtain ⟨⟨x77, M78⟩, e76, h⟩ := kOk_b h
                                    refine k_cVI G (dc d_La_isWhySo 176 rfl) kc7 (okL_lt hp0 (o := 0) 0 rfl) (okL_k hp0 (o := 0) 0 rfl) mi_SR_about mv_SR_about rfl ml_RL_60 (c_Sn_about (gst G) hp0 e76) rfl rfl ⟨rfl, rfl⟩ rfl ⟨rfl, rfl⟩ ⟨rfl, rfl⟩ ?_
                                    refine k_icmp_ne G (dc d_La_isWhySo 177 rfl) (tgt := 341) rfl (fun c79 => ?_) (fun c79 => ?_)
                                    · replace h := kOk_n c79 h
                                      refine k_iconst G (dc d_La_isWhySo 180 rfl) cI_0 ?_
                                      refine k_sub [0, 2, 7, 8] rfl ?_
                                      have h9 := kOk_s h
                                      exact h9
                                    · replace h := kOk_p c79 h
                                      refine k_iconst G (dc d_La_isWhySo 178 rfl) cI_1 ?_
                                      refine k_goto G (dc d_La_isWhySo 179 rfl) (tgt := 342) rfl ?_
                                      refine k_sub [0, 2, 7, 8] rfl ?_
                                      have h9 := kOk_s h
                                      exact h9
                      · refine k_if_ne G (dc d_La_isWhySo 138 rfl) (tgt := 265) rfl (fun c80 => ?_) (fun c80 => ?_)
                        · replace h := kOk_n c80 h
                          refine k_iconst G (dc d_La_isWhySo 141 rfl) cI_1 ?_
                          have h9 := kOk_s h
                          exact h9
                        · replace h := kOk_p c80 h
                          refine k_iconst G (dc d_La_isWhySo 139 rfl) cI_0 ?_
                          refine k_goto G (dc d_La_isWhySo 140 rfl) (tgt := 266) rfl ?_
                          have h9 := kOk_s h
                          exact h9
                  · refine k_if_ne G (dc d_La_isWhySo 127 rfl) (tgt := 243) rfl (fun c81 => ?_) (fun c81 => ?_)
                    · replace h := kOk_n c81 h
                      refine k_iconst G (dc d_La_isWhySo 130 rfl) cI_0 ?_
                      refine k_sub [2, 3, 4, 5, 6, 7, 8, 9, 10] rfl ?_
                      have h9 := kOk_s h
                      exact h9
                    · replace h := kOk_p c81 h
                      refine k_iconst G (dc d_La_isWhySo 128 rfl) cI_1 ?_
                      refine k_goto G (dc d_La_isWhySo 129 rfl) (tgt := 244) rfl ?_
                      refine k_sub [2, 3, 4, 5, 6, 7, 8, 9, 10] rfl ?_
                      have h9 := kOk_s h
                      exact h9
        · replace h := kOk_p c22 h
          refine k_iload G (dc d_La_isWhySo 94 rfl) 1 rfl ?_
          refine kJ h (fun r84 => KK X B L 12 2 12 r84.2 208 [] [.int r84.1]) (fun r84 h => ?_) (fun h => ?_)
          · obtain ⟨t82, M83⟩ := r84
            show KK X B L 12 2 12 M83 208 [] [.int t82]
            obtain ⟨z85, e86, h⟩ := kOk_b h
            obtain ⟨e86, nz85, -⟩ := kz_ok e86
            rw [e86]
            exact (kOk_s h) _ _ _ _ rfl rfl nz85 (dc d_La_isWhySo 112 rfl)
          · refine k_if_eq G (dc d_La_isWhySo 95 rfl) (tgt := 207) rfl (fun c87 => ?_) (fun c87 => ?_)
            · replace h := kOk_p c87 h
              refine k_iconst G (dc d_La_isWhySo 111 rfl) cI_0 ?_
              refine k_sub [] rfl ?_
              have h9 := kOk_s h
              exact h9
            · replace h := kOk_n c87 h
              refine k_iload G (dc d_La_isWhySo 96 rfl) 0 rfl ?_
              refine k_iconst G (dc d_La_isWhySo 97 rfl) cI_3 ?_
              refine k_icmp_ne G (dc d_La_isWhySo 98 rfl) (tgt := 207) rfl (fun c88 => ?_) (fun c88 => ?_)
              · replace h := kOk_n c88 h
                refine k_iconst G (dc d_La_isWhySo 111 rfl) cI_0 ?_
                refine k_sub [] rfl ?_
                have h9 := kOk_s h
                exact h9
              · replace h := kOk_p c88 h
                refine k_aload_n G (dc d_La_isWhySo 99 rfl) 2 rfl rfl ?_
                refine k_iconst G (dc d_La_isWhySo 100 rfl) cI_1 ?_
                obtain ⟨⟨x90, M91⟩, e89, h⟩ := kOk_b h
                refine k_cVI G (dc d_La_isWhySo 101 rfl) kc7 (okL_lt hp0 (o := 0) 0 rfl) (okL_k hp0 (o := 0) 0 rfl) mi_SR_about mv_SR_about rfl ml_RL_60 (c_Sn_about (gst G) hp0 e89) rfl rfl ⟨rfl, rfl⟩ rfl ⟨rfl, rfl⟩ ⟨rfl, rfl⟩ ?_
                refine k_bipush G (dc d_La_isWhySo 102 rfl) cB_10 ?_
                refine k_icmp_ne G (dc d_La_isWhySo 103 rfl) (tgt := 207) rfl (fun c92 => ?_) (fun c92 => ?_)
                · replace h := kOk_n c92 h
                  refine k_iconst G (dc d_La_isWhySo 111 rfl) cI_0 ?_
                  refine k_sub [] rfl ?_
                  have h9 := kOk_s h
                  exact h9
                · replace h := kOk_p c92 h
                  refine k_aload_n G (dc d_La_isWhySo 104 rfl) 2 rfl rfl ?_
                  refine k_bipush G (dc d_La_isWhySo 105 rfl) cB_8 ?_
                  obtain ⟨⟨x94, M95⟩, e93, h⟩ := kOk_b h
                  refine k_cVI G (dc d_La_isWhySo 106 rfl) kc7 (okL_lt hp0 (o := 0) 0 rfl) (okL_k hp0 (o := 0) 0 rfl) mi_SR_about mv_SR_about rfl ml_RL_60 (c_Sn_about (gst G) hp0 e93) rfl rfl ⟨rfl, rfl⟩ rfl ⟨rfl, rfl⟩ ⟨rfl, rfl⟩ ?_
                  refine k_iload G (dc d_La_isWhySo 107 rfl) 10 rfl ?_
                  refine k_icmp_ne G (dc d_La_isWhySo 108 rfl) (tgt := 207) rfl (fun c96 => ?_) (fun c96 => ?_)
                  · replace h := kOk_n c96 h
                    refine k_iconst G (dc d_La_isWhySo 111 rfl) cI_0 ?_
                    refine k_sub [] rfl ?_
                    have h9 := kOk_s h
                    exact h9
                  · replace h := kOk_p c96 h
                    refine k_iconst G (dc d_La_isWhySo 109 rfl) cI_1 ?_
                    refine k_goto G (dc d_La_isWhySo 110 rfl) (tgt := 208) rfl ?_
                    refine k_sub [] rfl ?_
                    have h9 := kOk_s h
                    exact h9
      · refine k_if_lt G (dc d_La_isWhySo 48 rfl) (tgt := 147) rfl (fun c97 => ?_) (fun c97 => ?_)
        · replace h := kOk_p c97 h
          refine k_iconst G (dc d_La_isWhySo 81 rfl) cI_0 ?_
          refine k_sub [4, 5, 6, 7, 8, 3, 2, 1, 0] rfl ?_
          have h9 := kOk_s h
          exact h9
        · replace h := kOk_n c97 h
          refine k_iload G (dc d_La_isWhySo 49 rfl) 2 rfl ?_
          refine k_iconst G (dc d_La_isWhySo 50 rfl) cI_3 ?_
          refine k_icmp_ge G (dc d_La_isWhySo 51 rfl) (tgt := 147) rfl (fun c98 => ?_) (fun c98 => ?_)
          · replace h := kOk_p c98 h
            refine k_iconst G (dc d_La_isWhySo 81 rfl) cI_0 ?_
            refine k_sub [4, 5, 6, 7, 8, 3, 2, 1, 0] rfl ?_
            have h9 := kOk_s h
            exact h9
          · replace h := kOk_n c98 h
            refine k_iload_n G (dc d_La_isWhySo 52 rfl) 5 rfl rfl ?_
            refine k_if_ne G (dc d_La_isWhySo 53 rfl) (tgt := 120) rfl (fun c99 => ?_) (fun c99 => ?_)
            · replace h := kOk_n c99 h
              refine k_iload_n G (dc d_La_isWhySo 68 rfl) 5 rfl rfl ?_
              refine k_if_eq G (dc d_La_isWhySo 69 rfl) (tgt := 130) rfl (fun c100 => ?_) (fun c100 => ?_)
              · replace h := kOk_p c100 h
                refine k_aload_n G (dc d_La_isWhySo 73 rfl) 4 rfl rfl ?_
                refine k_iconst G (dc d_La_isWhySo 74 rfl) cI_0 ?_
                obtain ⟨⟨x102, M103⟩, e101, h⟩ := kOk_b h
                refine k_cVI G (dc d_La_isWhySo 75 rfl) kc7 (okL_lt hp0 (o := 0) 0 rfl) (okL_k hp0 (o := 0) 0 rfl) mi_SR_about mv_SR_about rfl ml_RL_60 (c_Sn_about (gst G) hp0 e101) rfl rfl ⟨rfl, rfl⟩ rfl ⟨rfl, rfl⟩ ⟨rfl, rfl⟩ ?_
                refine k_if_gt G (dc d_La_isWhySo 76 rfl) (tgt := 143) rfl (fun c104 => ?_) (fun c104 => ?_)
                · replace h := kOk_p c104 h
                  refine k_iconst G (dc d_La_isWhySo 79 rfl) cI_1 ?_
                  refine k_goto G (dc d_La_isWhySo 80 rfl) (tgt := 148) rfl ?_
                  refine k_sub [4, 5, 6, 7, 8, 3, 2, 1, 0] rfl ?_
                  have h9 := kOk_s h
                  exact h9
                · replace h := kOk_n c104 h
                  refine k_iload G (dc d_La_isWhySo 77 rfl) 2 rfl ?_
                  refine k_if_ne G (dc d_La_isWhySo 78 rfl) (tgt := 147) rfl (fun c105 => ?_) (fun c105 => ?_)
                  · replace h := kOk_n c105 h
                    refine k_iconst G (dc d_La_isWhySo 81 rfl) cI_0 ?_
                    refine k_sub [4, 5, 6, 7, 8, 3, 2, 1, 0] rfl ?_
                    have h9 := kOk_s h
                    exact h9
                  · replace h := kOk_p c105 h
                    refine k_iconst G (dc d_La_isWhySo 79 rfl) cI_1 ?_
                    refine k_goto G (dc d_La_isWhySo 80 rfl) (tgt := 148) rfl ?_
                    refine k_sub [4, 5, 6, 7, 8, 3, 2, 1, 0] rfl ?_
                    have h9 := kOk_s h
                    exact h9
              · replace h := kOk_n c100 h
                refine k_iload G (dc d_La_isWhySo 70 rfl) 2 rfl ?_
                refine k_iconst G (dc d_La_isWhySo 71 rfl) cI_1 ?_
                refine k_icmp_eq G (dc d_La_isWhySo 72 rfl) (tgt := 147) rfl (fun c106 => ?_) (fun c106 => ?_)
                · replace h := kOk_p c106 h
                  refine k_iconst G (dc d_La_isWhySo 81 rfl) cI_0 ?_
                  refine k_sub [4, 5, 6, 7, 8, 3, 2, 1, 0] rfl ?_
                  have h9 := kOk_s h
                  exact h9
                · replace h := kOk_n c106 h
                  refine k_aload_n G (dc d_La_isWhySo 73 rfl) 4 rfl rfl ?_
                  refine k_iconst G (dc d_La_isWhySo 74 rfl) cI_0 ?_
                  obtain ⟨⟨x108, M109⟩, e107, h⟩ := kOk_b h
                  refine k_cVI G (dc d_La_isWhySo 75 rfl) kc7 (okL_lt hp0 (o := 0) 0 rfl) (okL_k hp0 (o := 0) 0 rfl) mi_SR_about mv_SR_about rfl ml_RL_60 (c_Sn_about (gst G) hp0 e107) rfl rfl ⟨rfl, rfl⟩ rfl ⟨rfl, rfl⟩ ⟨rfl, rfl⟩ ?_
                  refine k_if_gt G (dc d_La_isWhySo 76 rfl) (tgt := 143) rfl (fun c110 => ?_) (fun c110 => ?_)
                  · replace h := kOk_p c110 h
                    refine k_iconst G (dc d_La_isWhySo 79 rfl) cI_1 ?_
                    refine k_goto G (dc d_La_isWhySo 80 rfl) (tgt := 148) rfl ?_
                    refine k_sub [4, 5, 6, 7, 8, 3, 2, 1, 0] rfl ?_
                    have h9 := kOk_s h
                    exact h9
                  · replace h := kOk_n c110 h
                    refine k_iload G (dc d_La_isWhySo 77 rfl) 2 rfl ?_
                    refine k_if_ne G (dc d_La_isWhySo 78 rfl) (tgt := 147) rfl (fun c111 => ?_) (fun c111 => ?_)
                    · replace h := kOk_n c111 h
                      refine k_iconst G (dc d_La_isWhySo 81 rfl) cI_0 ?_
                      refine k_sub [4, 5, 6, 7, 8, 3, 2, 1, 0] rfl ?_
                      have h9 := kOk_s h
                      exact h9
                    · replace h := kOk_p c111 h
                      refine k_iconst G (dc d_La_isWhySo 79 rfl) cI_1 ?_
                      refine k_goto G (dc d_La_isWhySo 80 rfl) (tgt := 148) rfl ?_
                      refine k_sub [4, 5, 6, 7, 8, 3, 2, 1, 0] rfl ?_
                      have h9 := kOk_s h
                      exact h9
            · replace h := kOk_p c99 h
              refine k_aload_n G (dc d_La_isWhySo 54 rfl) 4 rfl rfl ?_
              obtain ⟨⟨x113, M114⟩, e112, h⟩ := kOk_b h
              refine k_cVI G (dc d_La_isWhySo 55 rfl) kc7 (okL_lt hp0 (o := 0) 0 rfl) (okL_k hp0 (o := 0) 0 rfl) mi_SR_droppable mv_SR_droppable rfl ml_RL_90 (c_SR_droppable (gst G) hp0 e112) rfl rfl ⟨rfl, rfl⟩ rfl ⟨rfl, rfl⟩ ⟨rfl, rfl⟩ ?_
              refine k_iload G (dc d_La_isWhySo 56 rfl) 7 rfl ?_
              refine k_iconst G (dc d_La_isWhySo 57 rfl) cI_1 ?_
              refine k_isub G (dc d_La_isWhySo 58 rfl) ?_
              refine k_ishr G (dc d_La_isWhySo 59 rfl) ?_
              refine k_iconst G (dc d_La_isWhySo 60 rfl) cI_1 ?_
              refine k_iand G (dc d_La_isWhySo 61 rfl) ?_
              refine k_iload G (dc d_La_isWhySo 62 rfl) 2 rfl ?_
              refine kJ h (fun r116 => KK X B L 12 0 0 M114 117 [(0, .ref (B.1 + p0)), (1, .int p1), (3, .ref (B.1 + p3)), (4, .int (1 + x2)), (5, .int t3), (6, .int t5), (7, .int x8), (8, .int x11), (9, .int x14)] [.int r116, .int ((jshr x113 ((1 + x2) - 1)) &&& 1)]) (fun r116 h => ?_) (fun h => ?_)
              · obtain ⟨t115, rfl⟩ : ∃ z, z = r116 := ⟨_, rfl⟩
                show KK X B L 12 0 0 M114 117 [(0, .ref (B.1 + p0)), (1, .int p1), (3, .ref (B.1 + p3)), (4, .int (1 + x2)), (5, .int t3), (6, .int t5), (7, .int x8), (8, .int x11), (9, .int x14)] [.int t115, .int ((jshr x113 ((1 + x2) - 1)) &&& 1)]
                refine k_icmp_ne G (dc d_La_isWhySo 67 rfl) (tgt := 147) rfl (fun c117 => ?_) (fun c117 => ?_)
                · replace h := kOk_n c117 h
                  refine k_iconst G (dc d_La_isWhySo 81 rfl) cI_0 ?_
                  have h9 := kOk_s h
                  exact h9
                · replace h := kOk_p c117 h
                  refine k_iload_n G (dc d_La_isWhySo 68 rfl) 1 rfl rfl ?_
                  refine k_if_eq G (dc d_La_isWhySo 69 rfl) (tgt := 130) rfl (fun c118 => ?_) (fun c118 => ?_)
                  · replace h := kOk_p c118 h
                    refine k_aload_n G (dc d_La_isWhySo 73 rfl) 0 rfl rfl ?_
                    refine k_iconst G (dc d_La_isWhySo 74 rfl) cI_0 ?_
                    obtain ⟨⟨x120, M121⟩, e119, h⟩ := kOk_b h
                    refine k_cVI G (dc d_La_isWhySo 75 rfl) kc7 (okL_lt hp0 (o := 0) 0 rfl) (okL_k hp0 (o := 0) 0 rfl) mi_SR_about mv_SR_about rfl ml_RL_60 (c_Sn_about (gst G) hp0 e119) rfl rfl ⟨rfl, rfl⟩ rfl ⟨rfl, rfl⟩ ⟨rfl, rfl⟩ ?_
                    refine k_if_gt G (dc d_La_isWhySo 76 rfl) (tgt := 143) rfl (fun c122 => ?_) (fun c122 => ?_)
                    · replace h := kOk_p c122 h
                      refine k_iconst G (dc d_La_isWhySo 79 rfl) cI_1 ?_
                      refine k_goto G (dc d_La_isWhySo 80 rfl) (tgt := 148) rfl ?_
                      have h9 := kOk_s h
                      exact h9
                    · replace h := kOk_n c122 h
                      refine k_iload G (dc d_La_isWhySo 77 rfl) 6 rfl ?_
                      refine k_if_ne G (dc d_La_isWhySo 78 rfl) (tgt := 147) rfl (fun c123 => ?_) (fun c123 => ?_)
                      · replace h := kOk_n c123 h
                        refine k_iconst G (dc d_La_isWhySo 81 rfl) cI_0 ?_
                        have h9 := kOk_s h
                        exact h9
                      · replace h := kOk_p c123 h
                        refine k_iconst G (dc d_La_isWhySo 79 rfl) cI_1 ?_
                        refine k_goto G (dc d_La_isWhySo 80 rfl) (tgt := 148) rfl ?_
                        have h9 := kOk_s h
                        exact h9
                  · replace h := kOk_n c118 h
                    refine k_iload G (dc d_La_isWhySo 70 rfl) 6 rfl ?_
                    refine k_iconst G (dc d_La_isWhySo 71 rfl) cI_1 ?_
                    refine k_icmp_eq G (dc d_La_isWhySo 72 rfl) (tgt := 147) rfl (fun c124 => ?_) (fun c124 => ?_)
                    · replace h := kOk_p c124 h
                      refine k_iconst G (dc d_La_isWhySo 81 rfl) cI_0 ?_
                      have h9 := kOk_s h
                      exact h9
                    · replace h := kOk_n c124 h
                      refine k_aload_n G (dc d_La_isWhySo 73 rfl) 0 rfl rfl ?_
                      refine k_iconst G (dc d_La_isWhySo 74 rfl) cI_0 ?_
                      obtain ⟨⟨x126, M127⟩, e125, h⟩ := kOk_b h
                      refine k_cVI G (dc d_La_isWhySo 75 rfl) kc7 (okL_lt hp0 (o := 0) 0 rfl) (okL_k hp0 (o := 0) 0 rfl) mi_SR_about mv_SR_about rfl ml_RL_60 (c_Sn_about (gst G) hp0 e125) rfl rfl ⟨rfl, rfl⟩ rfl ⟨rfl, rfl⟩ ⟨rfl, rfl⟩ ?_
                      refine k_if_gt G (dc d_La_isWhySo 76 rfl) (tgt := 143) rfl (fun c128 => ?_) (fun c128 => ?_)
                      · replace h := kOk_p c128 h
                        refine k_iconst G (dc d_La_isWhySo 79 rfl) cI_1 ?_
                        refine k_goto G (dc d_La_isWhySo 80 rfl) (tgt := 148) rfl ?_
                        have h9 := kOk_s h
                        exact h9
                      · replace h := kOk_n c128 h
                        refine k_iload G (dc d_La_isWhySo 77 rfl) 6 rfl ?_
                        refine k_if_ne G (dc d_La_isWhySo 78 rfl) (tgt := 147) rfl (fun c129 => ?_) (fun c129 => ?_)
                        · replace h := kOk_n c129 h
                          refine k_iconst G (dc d_La_isWhySo 81 rfl) cI_0 ?_
                          have h9 := kOk_s h
                          exact h9
                        · replace h := kOk_p c129 h
                          refine k_iconst G (dc d_La_isWhySo 79 rfl) cI_1 ?_
                          refine k_goto G (dc d_La_isWhySo 80 rfl) (tgt := 148) rfl ?_
                          have h9 := kOk_s h
                          exact h9
              · refine k_if_ne G (dc d_La_isWhySo 63 rfl) (tgt := 116) rfl (fun c130 => ?_) (fun c130 => ?_)
                · replace h := kOk_n c130 h
                  refine k_iconst G (dc d_La_isWhySo 66 rfl) cI_0 ?_
                  refine k_sub [4, 5, 6, 7, 8, 3, 2, 1, 0] rfl ?_
                  have h9 := kOk_s h
                  exact h9
                · replace h := kOk_p c130 h
                  refine k_iconst G (dc d_La_isWhySo 64 rfl) cI_1 ?_
                  refine k_goto G (dc d_La_isWhySo 65 rfl) (tgt := 117) rfl ?_
                  refine k_sub [4, 5, 6, 7, 8, 3, 2, 1, 0] rfl ?_
                  have h9 := kOk_s h
                  exact h9
    · refine k_icmp_ne G (dc d_La_isWhySo 21 rfl) (tgt := 50) rfl (fun c131 => ?_) (fun c131 => ?_)
      · replace h := kOk_n c131 h
        refine k_iconst G (dc d_La_isWhySo 30 rfl) cI_0 ?_
        refine k_sub [1, 2, 4, 5, 0] rfl ?_
        have h9 := kOk_s h
        exact h9
      · replace h := kOk_p c131 h
        refine k_iconst G (dc d_La_isWhySo 22 rfl) cI_1 ?_
        refine k_iload_n G (dc d_La_isWhySo 23 rfl) 3 rfl rfl ?_
        refine k_bipush G (dc d_La_isWhySo 24 rfl) cB_6 ?_
        refine k_ishr G (dc d_La_isWhySo 25 rfl) ?_
        refine k_bipush G (dc d_La_isWhySo 26 rfl) cB_6 ?_
        obtain ⟨x133, e132, h⟩ := kOk_b h
        refine k_cSI G (dc d_La_isWhySo 27 rfl) mi_La_low ms_La_low ml_RL_44 (c_La_low (gst G)  e132) rfl rfl ⟨rfl, rfl⟩ rfl ⟨rfl, rfl⟩ ⟨rfl, rfl⟩ ?_
        refine k_iadd G (dc d_La_isWhySo 28 rfl) ?_
        refine k_goto G (dc d_La_isWhySo 29 rfl) (tgt := 51) rfl ?_
        refine k_sub [1, 2, 4, 5, 0] rfl ?_
        have h9 := kOk_s h
        exact h9
  · refine k_icmp_ne G (dc d_La_isWhySo 8 rfl) (tgt := 28) rfl (fun c134 => ?_) (fun c134 => ?_)
    · replace h := kOk_n c134 h
      refine k_iconst G (dc d_La_isWhySo 17 rfl) cI_0 ?_
      refine k_sub [1, 2, 3, 4, 0] rfl ?_
      have h9 := kOk_s h
      exact h9
    · replace h := kOk_p c134 h
      refine k_iconst G (dc d_La_isWhySo 9 rfl) cI_1 ?_
      refine k_iload_n G (dc d_La_isWhySo 10 rfl) 3 rfl rfl ?_
      refine k_iconst G (dc d_La_isWhySo 11 rfl) cI_3 ?_
      refine k_ishr G (dc d_La_isWhySo 12 rfl) ?_
      refine k_bipush G (dc d_La_isWhySo 13 rfl) cB_6 ?_
      obtain ⟨x136, e135, h⟩ := kOk_b h
      refine k_cSI G (dc d_La_isWhySo 14 rfl) mi_La_low ms_La_low ml_RL_44 (c_La_low (gst G)  e135) rfl rfl ⟨rfl, rfl⟩ rfl ⟨rfl, rfl⟩ ⟨rfl, rfl⟩ ?_
      refine k_iadd G (dc d_La_isWhySo 15 rfl) ?_
      refine k_goto G (dc d_La_isWhySo 16 rfl) (tgt := 29) rfl ?_
      refine k_sub [1, 2, 3, 4, 0] rfl ?_
      have h9 := kOk_s h
      exact h9
theorem c_La_isWhySo {l : Launch} {B : KB} {L : KLay} {M : KMem} {p0 : Nat} {p1 : Int32} {p2 : Int32} {p3 : Nat} {p3n : Nat} (hst : l.stackTraces = false) (hx : B.2.2.2 = false) (hp0 : okL L p0 srT) (hp3 : arL L p3 9 p3n) {r : Int32} {M' : KMem} (e : m_La_isWhySo p0 p1 p2 p3 p3n M = some (r, M')) : CtrN l B yL_isWhySo cL_isWhySo 12 (some .boolean) rm_La_isWhySo [.ref (B.1 + p0), .int p1, .int p2, .ref (B.1 + p3)] L M (some (.int r)) L M' :=
  mk_I rfl hst rfl (fun X hl G _ R => b_La_isWhySo G hx hp0 hp3 ⟨_, e, R⟩)
