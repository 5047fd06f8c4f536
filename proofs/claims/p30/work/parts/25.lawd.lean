/-! laid by wip/p30/g30.py: La_isWorthSo -/
def I_La_isWorthSo : List (Nat × Instr × Nat) := [(0, .aload_n 0, 1), (1, .iload_n 1, 1), (2, .invokevirtual 97, 3), (5, .istore_n 3, 1), (6, .aload_n 0, 1), (7, .iload_n 1, 1), (8, .bipush 7, 2), (10, .invokevirtual 66, 3), (13, .istore 4, 2), (15, .aload_n 0, 1), (16, .iload_n 1, 1), (17, .iconst 5, 1), (18, .invokevirtual 66, 3), (21, .istore 5, 2), (23, .iload_n 3, 1), (24, .iconst (-1), 1), (25, .if_icmp .eq 14, 3), (28, .iload_n 3, 1), (29, .ifCond .le 14, 3), (32, .iload_n 3, 1), (33, .sipush 200, 3), (36, .if_icmp .gt 7, 3), (39, .iconst 1, 1), (40, .goto 4, 3), (43, .iconst 0, 1), (44, .istore 6, 2), (46, .iload 6, 2), (48, .ifCond .eq 82, 3), (51, .aload_n 0, 1), (52, .iload_n 1, 1), (53, .iconst 3, 1), (54, .invokevirtual 66, 3), (57, .iconst 1, 1), (58, .if_icmp .eq 8, 3), (61, .iload_n 3, 1), (62, .iconst (-1), 1), (63, .if_icmp .ne 67, 3), (66, .aload_n 0, 1), (67, .iload_n 2, 1), (68, .invokevirtual 84, 3), (71, .aload_n 0, 1), (72, .iload_n 2, 1), (73, .bipush 7, 2), (75, .iadd, 1), (76, .invokevirtual 84, 3), (79, .if_icmp .gt 51, 3), (82, .aload_n 0, 1), (83, .iload_n 2, 1), (84, .invokevirtual 84, 3), (87, .ifCond .lt 43, 3), (90, .aload_n 0, 1), (91, .iload_n 2, 1), (92, .invokevirtual 84, 3), (95, .aload_n 0, 1), (96, .iconst 2, 1), (97, .invokevirtual 60, 3), (100, .if_icmp .ne 7, 3), (103, .iconst 1, 1), (104, .goto 4, 3), (107, .iconst 0, 1), (108, .aload_n 0, 1), (109, .bipush 11, 2), (111, .invokevirtual 60, 3), (114, .iload_n 2, 1), (115, .if_icmp .gt 7, 3), (118, .iconst 1, 1), (119, .goto 4, 3), (122, .iconst 0, 1), (123, .if_icmp .ne 7, 3), (126, .iconst 1, 1), (127, .goto 4, 3), (130, .iconst 0, 1), (131, .istore 6, 2), (133, .iload_n 3, 1), (134, .iconst 1, 1), (135, .if_icmp .le 53, 3), (138, .iload_n 3, 1), (139, .bipush 61, 2), (141, .if_icmp .ge 47, 3), (144, .iload 6, 2), (146, .ifCond .eq 39, 3), (149, .aload_n 0, 1), (150, .iload_n 3, 1), (151, .iconst 1, 1), (152, .isub, 1), (153, .invokevirtual 21, 3), (156, .ifCond .lt 29, 3), (159, .aload_n 0, 1), (160, .iload_n 1, 1), (161, .bipush 7, 2), (163, .invokevirtual 66, 3), (166, .iload 4, 2), (168, .isub, 1), (169, .iload 5, 2), (171, .if_icmp .gt 14, 3), (174, .aload_n 0, 1), (175, .invokevirtual 40, 3), (178, .ifCond .lt 7, 3), (181, .iconst 1, 1), (182, .goto 4, 3), (185, .iconst 0, 1), (186, .istore 6, 2), (188, .iload_n 3, 1), (189, .ifCond .le 51, 3), (192, .iload_n 3, 1), (193, .bipush 61, 2), (195, .if_icmp .ge 45, 3), (198, .iload 6, 2), (200, .ifCond .eq 37, 3), (203, .aload_n 0, 1), (204, .iload_n 3, 1), (205, .invokevirtual 21, 3), (208, .ifCond .lt 29, 3), (211, .aload_n 0, 1), (212, .iload_n 1, 1), (213, .bipush 7, 2), (215, .invokevirtual 66, 3), (218, .iload 4, 2), (220, .isub, 1), (221, .iload 5, 2), (223, .if_icmp .le 14, 3), (226, .aload_n 0, 1), (227, .invokevirtual 40, 3), (230, .ifCond .lt 7, 3), (233, .iconst 1, 1), (234, .goto 4, 3), (237, .iconst 0, 1), (238, .istore 6, 2), (240, .aload_n 0, 1), (241, .bipush 7, 2), (243, .invokevirtual 60, 3), (246, .istore 7, 2), (248, .iload 6, 2), (250, .ifCond .eq 71, 3), (253, .aload_n 0, 1), (254, .iload_n 1, 1), (255, .invokevirtual 18, 3), (258, .iload 5, 2), (260, .if_icmp .ne 61, 3), (263, .aload_n 0, 1), (264, .iload_n 1, 1), (265, .iconst 3, 1), (266, .invokevirtual 66, 3), (269, .ifCond .ne 52, 3), (272, .aload_n 0, 1), (273, .iload_n 1, 1), (274, .iconst 2, 1), (275, .invokevirtual 66, 3), (278, .aload_n 0, 1), (279, .iload_n 1, 1), (280, .iconst 1, 1), (281, .invokevirtual 75, 3), (284, .if_icmp .ne 37, 3), (287, .aload_n 0, 1), (288, .bipush 7, 2), (290, .invokevirtual 60, 3), (293, .iload 7, 2), (295, .iload 5, 2), (297, .iadd, 1), (298, .if_icmp .ne 23, 3), (301, .aload_n 0, 1), (302, .iload_n 1, 1), (303, .invokevirtual 97, 3), (306, .iconst (-1), 1), (307, .if_icmp .ne 14, 3), (310, .aload_n 0, 1), (311, .invokevirtual 40, 3), (314, .ifCond .lt 7, 3), (317, .iconst 1, 1), (318, .goto 4, 3), (321, .iconst 0, 1), (322, .istore 6, 2), (324, .iload 6, 2), (326, .ifCond .eq 30, 3), (329, .aload_n 0, 1), (330, .iload_n 1, 1), (331, .iconst 5, 1), (332, .invokevirtual 66, 3), (335, .iload 5, 2), (337, .if_icmp .ne 19, 3), (340, .aload_n 0, 1), (341, .iload_n 1, 1), (342, .bipush 7, 2), (344, .invokevirtual 66, 3), (347, .iload 4, 2), (349, .if_icmp .ne 7, 3), (352, .iconst 1, 1), (353, .goto 4, 3), (356, .iconst 0, 1), (357, .ireturn, 1)]
set_option maxRecDepth 100000 in
theorem d_La_isWorthSo : decA cL_isWorthSo I_La_isWorthSo = true := by decide +kernel
abbrev rm_La_isWorthSo : Room := ({ frames := 8, cells := 0, slots := 0, locals := 190 } : Room)
def m_La_isWorthSo (p0 : Nat) (p1 : Int32) (p2 : Int32) (M : KMem) : Option (Int32 × KMem) :=
 Option.bind (m_Sn_worthIn p0 p1 M) fun (x2, M3) =>
 Option.bind (m_Sn_signOf p0 p1 7 M3) fun (x5, M6) =>
 Option.bind (m_Sn_signOf p0 p1 5 M6) fun (x8, M9) =>
 Option.bind (α := Int32) (if x2 = (-1) then
 (some 1)
 else
 (if x2 ≤ 0 then
 (some 0)
 else
 (if 200 < x2 then
 (some 0)
 else
 (some 1)))) fun t10 =>
 Option.bind (α := Int32 × KMem) (if t10 = 0 then
 (some (0, M9))
 else
 (Option.bind (m_Sn_signOf p0 p1 3 M9) fun (x107, M108) =>
 if x107 = 1 then
 (Option.bind (m_Sn_payable p0 p2 M108) fun (x111, M112) =>
 Option.bind (m_Sn_payable p0 (p2 + 7) M112) fun (x114, M115) =>
 if x114 < x111 then
 (some (0, M115))
 else
 (Option.bind (m_Sn_payable p0 p2 M115) fun (x118, M119) =>
 if x118 < 0 then
 (some (0, M119))
 else
 (Option.bind (m_Sn_payable p0 p2 M119) fun (x122, M123) =>
 Option.bind (m_Sn_about p0 2 M123) fun (x125, M126) =>
 Option.bind (α := Int32) (if x122 = x125 then
 (some 1)
 else
 (some 0)) fun t127 =>
 Option.bind (m_Sn_about p0 11 M126) fun (x130, M131) =>
 Option.bind (α := Int32) (if p2 < x130 then
 (some 0)
 else
 (some 1)) fun t132 =>
 if t127 = t132 then
 (some (1, M131))
 else
 (some (0, M131)))))
 else
 (if x2 = (-1) then
 (Option.bind (m_Sn_payable p0 p2 M108) fun (x139, M140) =>
 Option.bind (m_Sn_payable p0 (p2 + 7) M140) fun (x142, M143) =>
 if x142 < x139 then
 (some (0, M143))
 else
 (Option.bind (m_Sn_payable p0 p2 M143) fun (x146, M147) =>
 if x146 < 0 then
 (some (0, M147))
 else
 (Option.bind (m_Sn_payable p0 p2 M147) fun (x150, M151) =>
 Option.bind (m_Sn_about p0 2 M151) fun (x153, M154) =>
 Option.bind (α := Int32) (if x150 = x153 then
 (some 1)
 else
 (some 0)) fun t155 =>
 Option.bind (m_Sn_about p0 11 M154) fun (x158, M159) =>
 Option.bind (α := Int32) (if p2 < x158 then
 (some 0)
 else
 (some 1)) fun t160 =>
 if t155 = t160 then
 (some (1, M159))
 else
 (some (0, M159)))))
 else
 (some (0, M108))))) fun (t12, M13) =>
 Option.bind (α := Int32 × KMem) (if x2 ≤ 1 then
 (some (t12, M13))
 else
 (if 61 ≤ x2 then
 (some (t12, M13))
 else
 (Option.bind (α := Int32 × KMem) (if t12 = 0 then
 (some (0, M13))
 else
 (Option.bind (m_Sn_months p0 (x2 - 1) M13) fun (x94, M95) =>
 if x94 < 0 then
 (some (0, M95))
 else
 (Option.bind (m_Sn_signOf p0 p1 7 M95) fun (x98, M99) =>
 if x8 < (x98 - x5) then
 (some (0, M99))
 else
 (Option.bind (m_Sn_undo p0 M99) fun (x102, M103) =>
 if x102 < 0 then
 (some (0, M103))
 else
 (some (1, M103)))))) fun (t89, M90) =>
 some (t89, M90)))) fun (v6_15, M16) =>
 Option.bind (α := Int32 × KMem) (if x2 ≤ 0 then
 (some (v6_15, M16))
 else
 (if 61 ≤ x2 then
 (some (v6_15, M16))
 else
 (Option.bind (α := Int32 × KMem) (if v6_15 = 0 then
 (some (0, M16))
 else
 (Option.bind (m_Sn_months p0 x2 M16) fun (x76, M77) =>
 if x76 < 0 then
 (some (0, M77))
 else
 (Option.bind (m_Sn_signOf p0 p1 7 M77) fun (x80, M81) =>
 if (x80 - x5) ≤ x8 then
 (some (0, M81))
 else
 (Option.bind (m_Sn_undo p0 M81) fun (x84, M85) =>
 if x84 < 0 then
 (some (0, M85))
 else
 (some (1, M85)))))) fun (t71, M72) =>
 some (t71, M72)))) fun (v6_18, M19) =>
 Option.bind (m_Sn_about p0 7 M19) fun (x22, M23) =>
 Option.bind (α := Int32 × KMem) (if v6_18 = 0 then
 (some (0, M23))
 else
 (Option.bind (m_Sn_paint p0 p1 M23) fun (x43, M44) =>
 if x43 = x8 then
 (Option.bind (m_Sn_signOf p0 p1 3 M44) fun (x47, M48) =>
 if x47 = 0 then
 (Option.bind (m_Sn_signOf p0 p1 2 M48) fun (x51, M52) =>
 Option.bind (m_Sn_right p0 p1 1 M52) fun (x54, M55) =>
 if x51 = x54 then
 (Option.bind (m_Sn_about p0 7 M55) fun (x58, M59) =>
 if x58 = (x22 + x8) then
 (Option.bind (m_Sn_worthIn p0 p1 M59) fun (x62, M63) =>
 if x62 = (-1) then
 (Option.bind (m_Sn_undo p0 M63) fun (x66, M67) =>
 if x66 < 0 then
 (some (0, M67))
 else
 (some (1, M67)))
 else
 (some (0, M63)))
 else
 (some (0, M59)))
 else
 (some (0, M55)))
 else
 (some (0, M48)))
 else
 (some (0, M44)))) fun (t24, M25) =>
 Option.bind (α := Int32 × KMem) (if t24 = 0 then
 (some (0, M25))
 else
 (Option.bind (m_Sn_signOf p0 p1 5 M25) fun (x34, M35) =>
 if x34 = x8 then
 (Option.bind (m_Sn_signOf p0 p1 7 M35) fun (x38, M39) =>
 if x38 = x5 then
 (some (1, M39))
 else
 (some (0, M39)))
 else
 (some (0, M35)))) fun (t27, M28) =>
 Option.bind (kz t27) fun z30 =>
 some (z30, M28)
set_option maxHeartbeats 4000000 in
set_option maxRecDepth 100000 in
theorem b_La_isWorthSo {X : KX} {B : KB} {L : KLay} {M : KMem} {p0 : Nat} {p1 : Int32} {p2 : Int32} (G : Good X B RL cL_isWorthSo 8 rm_La_isWorthSo) (hx : B.2.2.2 = false) (hp0 : okL L p0 srT) (h : kOk (m_La_isWorthSo p0 p1 p2 M) (fun r => RI X B L 8 cL_isWorthSo .boolean rm_La_isWorthSo r.1 r.2)) : KK X B L 8 0 0 M 0 [(0, .ref (B.1 + p0)), (1, .int p1), (2, .int p2)] [] := by
  unfold m_La_isWorthSo at h
  refine k_aload_n G (dc d_La_isWorthSo 0 rfl) 0 rfl rfl ?_
  refine k_iload_n G (dc d_La_isWorthSo 1 rfl) 1 rfl rfl ?_
  obtain ⟨⟨x2, M3⟩, e1, h⟩ := kOk_b h
  refine k_cVI G (dc d_La_isWorthSo 2 rfl) kc7 (okL_lt hp0 (o := 0) 0 rfl) (okL_k hp0 (o := 0) 0 rfl) mi_SR_worthIn mv_SR_worthIn rfl ml_RL_97 (c_Sn_worthIn (gst G) hp0 e1) rfl rfl ⟨rfl, rfl⟩ rfl ⟨rfl, rfl⟩ ⟨rfl, rfl⟩ ?_
  refine k_istore_n G (dc d_La_isWorthSo 3 rfl) (ls' := [(3, .int x2), (0, .ref (B.1 + p0)), (1, .int p1), (2, .int p2)]) rfl rfl rfl ?_
  refine k_aload_n G (dc d_La_isWorthSo 4 rfl) 1 rfl rfl ?_
  refine k_iload_n G (dc d_La_isWorthSo 5 rfl) 2 rfl rfl ?_
  refine k_bipush G (dc d_La_isWorthSo 6 rfl) cB_7 ?_
  obtain ⟨⟨x5, M6⟩, e4, h⟩ := kOk_b h
  refine k_cVI G (dc d_La_isWorthSo 7 rfl) kc7 (okL_lt hp0 (o := 0) 0 rfl) (okL_k hp0 (o := 0) 0 rfl) mi_SR_signOf mv_SR_signOf rfl ml_RL_66 (c_Sn_signOf (gst G) hp0 e4) rfl rfl ⟨rfl, rfl⟩ rfl ⟨rfl, rfl⟩ ⟨rfl, rfl⟩ ?_
  refine k_istore G (dc d_La_isWorthSo 8 rfl) (ls' := [(4, .int x5), (3, .int x2), (0, .ref (B.1 + p0)), (1, .int p1), (2, .int p2)]) rfl rfl ?_
  refine k_aload_n G (dc d_La_isWorthSo 9 rfl) 2 rfl rfl ?_
  refine k_iload_n G (dc d_La_isWorthSo 10 rfl) 3 rfl rfl ?_
  refine k_iconst G (dc d_La_isWorthSo 11 rfl) cI_5 ?_
  obtain ⟨⟨x8, M9⟩, e7, h⟩ := kOk_b h
  refine k_cVI G (dc d_La_isWorthSo 12 rfl) kc7 (okL_lt hp0 (o := 0) 0 rfl) (okL_k hp0 (o := 0) 0 rfl) mi_SR_signOf mv_SR_signOf rfl ml_RL_66 (c_Sn_signOf (gst G) hp0 e7) rfl rfl ⟨rfl, rfl⟩ rfl ⟨rfl, rfl⟩ ⟨rfl, rfl⟩ ?_
  refine k_istore G (dc d_La_isWorthSo 13 rfl) (ls' := [(5, .int x8), (4, .int x5), (3, .int x2), (0, .ref (B.1 + p0)), (1, .int p1), (2, .int p2)]) rfl rfl ?_
  refine k_iload_n G (dc d_La_isWorthSo 14 rfl) 2 rfl rfl ?_
  refine k_iconst G (dc d_La_isWorthSo 15 rfl) cI_m1 ?_
  refine kJ h (fun r11 => KK X B L 8 0 0 M9 44 [(0, .ref (B.1 + p0)), (1, .int p1), (2, .int p2), (3, .int x2), (4, .int x5), (5, .int x8)] [.int r11]) (fun r11 h => ?_) (fun h => ?_)
  · obtain ⟨t10, rfl⟩ : ∃ z, z = r11 := ⟨_, rfl⟩
    show KK X B L 8 0 0 M9 44 [(0, .ref (B.1 + p0)), (1, .int p1), (2, .int p2), (3, .int x2), (4, .int x5), (5, .int x8)] [.int t10]
    refine k_istore G (dc d_La_isWorthSo 25 rfl) (ls' := [(6, .int t10), (0, .ref (B.1 + p0)), (1, .int p1), (2, .int p2), (3, .int x2), (4, .int x5), (5, .int x8)]) rfl rfl ?_
    refine k_iload G (dc d_La_isWorthSo 26 rfl) 0 rfl ?_
    refine kJ h (fun r14 => KK X B L 8 0 0 r14.2 131 [(0, .ref (B.1 + p0)), (1, .int p1), (3, .int x2), (4, .int x5), (5, .int x8)] [.int r14.1]) (fun r14 h => ?_) (fun h => ?_)
    · obtain ⟨t12, M13⟩ := r14
      show KK X B L 8 0 0 M13 131 [(0, .ref (B.1 + p0)), (1, .int p1), (3, .int x2), (4, .int x5), (5, .int x8)] [.int t12]
      refine k_istore G (dc d_La_isWorthSo 72 rfl) (ls' := [(6, .int t12), (0, .ref (B.1 + p0)), (1, .int p1), (3, .int x2), (4, .int x5), (5, .int x8)]) rfl rfl ?_
      refine k_iload_n G (dc d_La_isWorthSo 73 rfl) 3 rfl rfl ?_
      refine k_iconst G (dc d_La_isWorthSo 74 rfl) cI_1 ?_
      refine kJ h (fun r17 => KK X B L 8 0 0 r17.2 188 [(0, .ref (B.1 + p0)), (1, .int p1), (3, .int x2), (4, .int x5), (5, .int x8), (6, .int r17.1)] []) (fun r17 h => ?_) (fun h => ?_)
      · obtain ⟨v6_15, M16⟩ := r17
        show KK X B L 8 0 0 M16 188 [(0, .ref (B.1 + p0)), (1, .int p1), (3, .int x2), (4, .int x5), (5, .int x8), (6, .int v6_15)] []
        refine k_iload_n G (dc d_La_isWorthSo 102 rfl) 2 rfl rfl ?_
        refine kJ h (fun r20 => KK X B L 8 0 0 r20.2 240 [(0, .ref (B.1 + p0)), (1, .int p1), (4, .int x5), (5, .int x8), (6, .int r20.1)] []) (fun r20 h => ?_) (fun h => ?_)
        · obtain ⟨v6_18, M19⟩ := r20
          show KK X B L 8 0 0 M19 240 [(0, .ref (B.1 + p0)), (1, .int p1), (4, .int x5), (5, .int x8), (6, .int v6_18)] []
          refine k_aload_n G (dc d_La_isWorthSo 128 rfl) 0 rfl rfl ?_
          refine k_bipush G (dc d_La_isWorthSo 129 rfl) cB_7 ?_
          obtain ⟨⟨x22, M23⟩, e21, h⟩ := kOk_b h
          refine k_cVI G (dc d_La_isWorthSo 130 rfl) kc7 (okL_lt hp0 (o := 0) 0 rfl) (okL_k hp0 (o := 0) 0 rfl) mi_SR_about mv_SR_about rfl ml_RL_60 (c_Sn_about (gst G) hp0 e21) rfl rfl ⟨rfl, rfl⟩ rfl ⟨rfl, rfl⟩ ⟨rfl, rfl⟩ ?_
          refine k_istore G (dc d_La_isWorthSo 131 rfl) (ls' := [(7, .int x22), (0, .ref (B.1 + p0)), (1, .int p1), (4, .int x5), (5, .int x8), (6, .int v6_18)]) rfl rfl ?_
          refine k_iload G (dc d_La_isWorthSo 132 rfl) 5 rfl ?_
          refine kJ h (fun r26 => KK X B L 8 0 0 r26.2 322 [(0, .ref (B.1 + p0)), (1, .int p1), (4, .int x5), (5, .int x8)] [.int r26.1]) (fun r26 h => ?_) (fun h => ?_)
          · obtain ⟨t24, M25⟩ := r26
            show KK X B L 8 0 0 M25 322 [(0, .ref (B.1 + p0)), (1, .int p1), (4, .int x5), (5, .int x8)] [.int t24]
            refine k_istore G (dc d_La_isWorthSo 171 rfl) (ls' := [(6, .int t24), (0, .ref (B.1 + p0)), (1, .int p1), (4, .int x5), (5, .int x8)]) rfl rfl ?_
            refine k_iload G (dc d_La_isWorthSo 172 rfl) 0 rfl ?_
            refine kJ h (fun r29 => KK X B L 8 0 0 r29.2 357 [] [.int r29.1]) (fun r29 h => ?_) (fun h => ?_)
            · obtain ⟨t27, M28⟩ := r29
              show KK X B L 8 0 0 M28 357 [] [.int t27]
              obtain ⟨z30, e31, h⟩ := kOk_b h
              obtain ⟨e31, nz30, -⟩ := kz_ok e31
              rw [e31]
              exact (kOk_s h) _ _ _ _ rfl rfl nz30 (dc d_La_isWorthSo 189 rfl)
            · refine k_if_eq G (dc d_La_isWorthSo 173 rfl) (tgt := 356) rfl (fun c32 => ?_) (fun c32 => ?_)
              · replace h := kOk_p c32 h
                refine k_iconst G (dc d_La_isWorthSo 188 rfl) cI_0 ?_
                refine k_sub [] rfl ?_
                have h9 := kOk_s h
                exact h9
              · replace h := kOk_n c32 h
                refine k_aload_n G (dc d_La_isWorthSo 174 rfl) 1 rfl rfl ?_
                refine k_iload_n G (dc d_La_isWorthSo 175 rfl) 2 rfl rfl ?_
                refine k_iconst G (dc d_La_isWorthSo 176 rfl) cI_5 ?_
                obtain ⟨⟨x34, M35⟩, e33, h⟩ := kOk_b h
                refine k_cVI G (dc d_La_isWorthSo 177 rfl) kc7 (okL_lt hp0 (o := 0) 0 rfl) (okL_k hp0 (o := 0) 0 rfl) mi_SR_signOf mv_SR_signOf rfl ml_RL_66 (c_Sn_signOf (gst G) hp0 e33) rfl rfl ⟨rfl, rfl⟩ rfl ⟨rfl, rfl⟩ ⟨rfl, rfl⟩ ?_
                refine k_iload G (dc d_La_isWorthSo 178 rfl) 4 rfl ?_
                refine k_icmp_ne G (dc d_La_isWorthSo 179 rfl) (tgt := 356) rfl (fun c36 => ?_) (fun c36 => ?_)
                · replace h := kOk_n c36 h
                  refine k_iconst G (dc d_La_isWorthSo 188 rfl) cI_0 ?_
                  refine k_sub [] rfl ?_
                  have h9 := kOk_s h
                  exact h9
                · replace h := kOk_p c36 h
                  refine k_aload_n G (dc d_La_isWorthSo 180 rfl) 1 rfl rfl ?_
                  refine k_iload_n G (dc d_La_isWorthSo 181 rfl) 2 rfl rfl ?_
                  refine k_bipush G (dc d_La_isWorthSo 182 rfl) cB_7 ?_
                  obtain ⟨⟨x38, M39⟩, e37, h⟩ := kOk_b h
                  refine k_cVI G (dc d_La_isWorthSo 183 rfl) kc7 (okL_lt hp0 (o := 0) 0 rfl) (okL_k hp0 (o := 0) 0 rfl) mi_SR_signOf mv_SR_signOf rfl ml_RL_66 (c_Sn_signOf (gst G) hp0 e37) rfl rfl ⟨rfl, rfl⟩ rfl ⟨rfl, rfl⟩ ⟨rfl, rfl⟩ ?_
                  refine k_iload G (dc d_La_isWorthSo 184 rfl) 3 rfl ?_
                  refine k_icmp_ne G (dc d_La_isWorthSo 185 rfl) (tgt := 356) rfl (fun c40 => ?_) (fun c40 => ?_)
                  · replace h := kOk_n c40 h
                    refine k_iconst G (dc d_La_isWorthSo 188 rfl) cI_0 ?_
                    refine k_sub [] rfl ?_
                    have h9 := kOk_s h
                    exact h9
                  · replace h := kOk_p c40 h
                    refine k_iconst G (dc d_La_isWorthSo 186 rfl) cI_1 ?_
                    refine k_goto G (dc d_La_isWorthSo 187 rfl) (tgt := 357) rfl ?_
                    refine k_sub [] rfl ?_
                    have h9 := kOk_s h
                    exact h9
          · refine k_if_eq G (dc d_La_isWorthSo 133 rfl) (tgt := 321) rfl (fun c41 => ?_) (fun c41 => ?_)
            · replace h := kOk_p c41 h
              refine k_iconst G (dc d_La_isWorthSo 170 rfl) cI_0 ?_
              refine k_sub [1, 2, 3, 4] rfl ?_
              have h9 := kOk_s h
              exact h9
            · replace h := kOk_n c41 h
              refine k_aload_n G (dc d_La_isWorthSo 134 rfl) 1 rfl rfl ?_
              refine k_iload_n G (dc d_La_isWorthSo 135 rfl) 2 rfl rfl ?_
              obtain ⟨⟨x43, M44⟩, e42, h⟩ := kOk_b h
              refine k_cVI G (dc d_La_isWorthSo 136 rfl) kc7 (okL_lt hp0 (o := 0) 0 rfl) (okL_k hp0 (o := 0) 0 rfl) mi_SR_paint mv_SR_paint rfl ml_RL_18 (c_Sn_paint (gst G) hx hp0 e42) rfl rfl ⟨rfl, rfl⟩ rfl ⟨rfl, rfl⟩ ⟨rfl, rfl⟩ ?_
              refine k_iload G (dc d_La_isWorthSo 137 rfl) 4 rfl ?_
              refine k_icmp_ne G (dc d_La_isWorthSo 138 rfl) (tgt := 321) rfl (fun c45 => ?_) (fun c45 => ?_)
              · replace h := kOk_n c45 h
                refine k_iconst G (dc d_La_isWorthSo 170 rfl) cI_0 ?_
                refine k_sub [1, 2, 3, 4] rfl ?_
                have h9 := kOk_s h
                exact h9
              · replace h := kOk_p c45 h
                refine k_aload_n G (dc d_La_isWorthSo 139 rfl) 1 rfl rfl ?_
                refine k_iload_n G (dc d_La_isWorthSo 140 rfl) 2 rfl rfl ?_
                refine k_iconst G (dc d_La_isWorthSo 141 rfl) cI_3 ?_
                obtain ⟨⟨x47, M48⟩, e46, h⟩ := kOk_b h
                refine k_cVI G (dc d_La_isWorthSo 142 rfl) kc7 (okL_lt hp0 (o := 0) 0 rfl) (okL_k hp0 (o := 0) 0 rfl) mi_SR_signOf mv_SR_signOf rfl ml_RL_66 (c_Sn_signOf (gst G) hp0 e46) rfl rfl ⟨rfl, rfl⟩ rfl ⟨rfl, rfl⟩ ⟨rfl, rfl⟩ ?_
                refine k_if_ne G (dc d_La_isWorthSo 143 rfl) (tgt := 321) rfl (fun c49 => ?_) (fun c49 => ?_)
                · replace h := kOk_n c49 h
                  refine k_iconst G (dc d_La_isWorthSo 170 rfl) cI_0 ?_
                  refine k_sub [1, 2, 3, 4] rfl ?_
                  have h9 := kOk_s h
                  exact h9
                · replace h := kOk_p c49 h
                  refine k_aload_n G (dc d_La_isWorthSo 144 rfl) 1 rfl rfl ?_
                  refine k_iload_n G (dc d_La_isWorthSo 145 rfl) 2 rfl rfl ?_
                  refine k_iconst G (dc d_La_isWorthSo 146 rfl) cI_2 ?_
                  obtain ⟨⟨x51, M52⟩, e50, h⟩ := kOk_b h
                  refine k_cVI G (dc d_La_isWorthSo 147 rfl) kc7 (okL_lt hp0 (o := 0) 0 rfl) (okL_k hp0 (o := 0) 0 rfl) mi_SR_signOf mv_SR_signOf rfl ml_RL_66 (c_Sn_signOf (gst G) hp0 e50) rfl rfl ⟨rfl, rfl⟩ rfl ⟨rfl, rfl⟩ ⟨rfl, rfl⟩ ?_
                  refine k_aload_n G (dc d_La_isWorthSo 148 rfl) 1 rfl rfl ?_
                  refine k_iload_n G (dc d_La_isWorthSo 149 rfl) 2 rfl rfl ?_
                  refine k_iconst G (dc d_La_isWorthSo 150 rfl) cI_1 ?_
                  obtain ⟨⟨x54, M55⟩, e53, h⟩ := kOk_b h
                  refine k_cVI G (dc d_La_isWorthSo 151 rfl) kc7 (okL_lt hp0 (o := 0) 0 rfl) (okL_k hp0 (o := 0) 0 rfl) mi_SR_right mv_SR_right rfl ml_RL_75 (c_Sn_right (gst G) hp0 e53) rfl rfl ⟨rfl, rfl⟩ rfl ⟨rfl, rfl⟩ ⟨rfl, rfl⟩ ?_
                  refine k_icmp_ne G (dc d_La_isWorthSo 152 rfl) (tgt := 321) rfl (fun c56 => ?_) (fun c56 => ?_)
                  · replace h := kOk_n c56 h
                    refine k_iconst G (dc d_La_isWorthSo 170 rfl) cI_0 ?_
                    refine k_sub [1, 2, 3, 4] rfl ?_
                    have h9 := kOk_s h
                    exact h9
                  · replace h := kOk_p c56 h
                    refine k_aload_n G (dc d_La_isWorthSo 153 rfl) 1 rfl rfl ?_
                    refine k_bipush G (dc d_La_isWorthSo 154 rfl) cB_7 ?_
                    obtain ⟨⟨x58, M59⟩, e57, h⟩ := kOk_b h
                    refine k_cVI G (dc d_La_isWorthSo 155 rfl) kc7 (okL_lt hp0 (o := 0) 0 rfl) (okL_k hp0 (o := 0) 0 rfl) mi_SR_about mv_SR_about rfl ml_RL_60 (c_Sn_about (gst G) hp0 e57) rfl rfl ⟨rfl, rfl⟩ rfl ⟨rfl, rfl⟩ ⟨rfl, rfl⟩ ?_
                    refine k_iload G (dc d_La_isWorthSo 156 rfl) 0 rfl ?_
                    refine k_iload G (dc d_La_isWorthSo 157 rfl) 4 rfl ?_
                    refine k_iadd G (dc d_La_isWorthSo 158 rfl) ?_
                    refine k_icmp_ne G (dc d_La_isWorthSo 159 rfl) (tgt := 321) rfl (fun c60 => ?_) (fun c60 => ?_)
                    · replace h := kOk_n c60 h
                      refine k_iconst G (dc d_La_isWorthSo 170 rfl) cI_0 ?_
                      refine k_sub [1, 2, 3, 4] rfl ?_
                      have h9 := kOk_s h
                      exact h9
                    · replace h := kOk_p c60 h
                      refine k_aload_n G (dc d_La_isWorthSo 160 rfl) 1 rfl rfl ?_
                      refine k_iload_n G (dc d_La_isWorthSo 161 rfl) 2 rfl rfl ?_
                      obtain ⟨⟨x62, M63⟩, e61, h⟩ := kOk_b h
                      refine k_cVI G (dc d_La_isWorthSo 162 rfl) kc7 (okL_lt hp0 (o := 0) 0 rfl) (okL_k hp0 (o := 0) 0 rfl) mi_SR_worthIn mv_SR_worthIn rfl ml_RL_97 (c_Sn_worthIn (gst G) hp0 e61) rfl rfl ⟨rfl, rfl⟩ rfl ⟨rfl, rfl⟩ ⟨rfl, rfl⟩ ?_
                      refine k_iconst G (dc d_La_isWorthSo 163 rfl) cI_m1 ?_
                      refine k_icmp_ne G (dc d_La_isWorthSo 164 rfl) (tgt := 321) rfl (fun c64 => ?_) (fun c64 => ?_)
                      · replace h := kOk_n c64 h
                        refine k_iconst G (dc d_La_isWorthSo 170 rfl) cI_0 ?_
                        refine k_sub [1, 2, 3, 4] rfl ?_
                        have h9 := kOk_s h
                        exact h9
                      · replace h := kOk_p c64 h
                        refine k_aload_n G (dc d_La_isWorthSo 165 rfl) 1 rfl rfl ?_
                        obtain ⟨⟨x66, M67⟩, e65, h⟩ := kOk_b h
                        refine k_cVI G (dc d_La_isWorthSo 166 rfl) kc7 (okL_lt hp0 (o := 0) 0 rfl) (okL_k hp0 (o := 0) 0 rfl) mi_SR_undo mv_SR_undo rfl ml_RL_40 (c_Sn_undo (gst G) hx hp0 e65) rfl rfl ⟨rfl, rfl⟩ rfl ⟨rfl, rfl⟩ ⟨rfl, rfl⟩ ?_
                        refine k_if_lt G (dc d_La_isWorthSo 167 rfl) (tgt := 321) rfl (fun c68 => ?_) (fun c68 => ?_)
                        · replace h := kOk_p c68 h
                          refine k_iconst G (dc d_La_isWorthSo 170 rfl) cI_0 ?_
                          refine k_sub [1, 2, 3, 4] rfl ?_
                          have h9 := kOk_s h
                          exact h9
                        · replace h := kOk_n c68 h
                          refine k_iconst G (dc d_La_isWorthSo 168 rfl) cI_1 ?_
                          refine k_goto G (dc d_La_isWorthSo 169 rfl) (tgt := 322) rfl ?_
                          refine k_sub [1, 2, 3, 4] rfl ?_
                          have h9 := kOk_s h
                          exact h9
        · refine k_if_le G (dc d_La_isWorthSo 103 rfl) (tgt := 240) rfl (fun c69 => ?_) (fun c69 => ?_)
          · replace h := kOk_p c69 h
            refine k_sub [0, 1, 3, 4, 5] rfl ?_
            have h9 := kOk_s h
            exact h9
          · replace h := kOk_n c69 h
            refine k_iload_n G (dc d_La_isWorthSo 104 rfl) 2 rfl rfl ?_
            refine k_bipush G (dc d_La_isWorthSo 105 rfl) cB_61 ?_
            refine k_icmp_ge G (dc d_La_isWorthSo 106 rfl) (tgt := 240) rfl (fun c70 => ?_) (fun c70 => ?_)
            · replace h := kOk_p c70 h
              refine k_sub [0, 1, 3, 4, 5] rfl ?_
              have h9 := kOk_s h
              exact h9
            · replace h := kOk_n c70 h
              refine k_iload G (dc d_La_isWorthSo 107 rfl) 5 rfl ?_
              refine kJ h (fun r73 => KK X B L 8 0 0 r73.2 238 [(0, .ref (B.1 + p0)), (1, .int p1), (4, .int x5), (5, .int x8)] [.int r73.1]) (fun r73 h => ?_) (fun h => ?_)
              · obtain ⟨t71, M72⟩ := r73
                show KK X B L 8 0 0 M72 238 [(0, .ref (B.1 + p0)), (1, .int p1), (4, .int x5), (5, .int x8)] [.int t71]
                refine k_istore G (dc d_La_isWorthSo 127 rfl) (ls' := [(6, .int t71), (0, .ref (B.1 + p0)), (1, .int p1), (4, .int x5), (5, .int x8)]) rfl rfl ?_
                refine k_sub [1, 2, 3, 4, 0] rfl ?_
                have h9 := kOk_s h
                exact h9
              · refine k_if_eq G (dc d_La_isWorthSo 108 rfl) (tgt := 237) rfl (fun c74 => ?_) (fun c74 => ?_)
                · replace h := kOk_p c74 h
                  refine k_iconst G (dc d_La_isWorthSo 126 rfl) cI_0 ?_
                  refine k_sub [0, 1, 3, 4] rfl ?_
                  have h9 := kOk_s h
                  exact h9
                · replace h := kOk_n c74 h
                  refine k_aload_n G (dc d_La_isWorthSo 109 rfl) 0 rfl rfl ?_
                  refine k_iload_n G (dc d_La_isWorthSo 110 rfl) 2 rfl rfl ?_
                  obtain ⟨⟨x76, M77⟩, e75, h⟩ := kOk_b h
                  refine k_cVI G (dc d_La_isWorthSo 111 rfl) kc7 (okL_lt hp0 (o := 0) 0 rfl) (okL_k hp0 (o := 0) 0 rfl) mi_SR_months mv_SR_months rfl ml_RL_21 (c_Sn_months (gst G) hx hp0 e75) rfl rfl ⟨rfl, rfl⟩ rfl ⟨rfl, rfl⟩ ⟨rfl, rfl⟩ ?_
                  refine k_if_lt G (dc d_La_isWorthSo 112 rfl) (tgt := 237) rfl (fun c78 => ?_) (fun c78 => ?_)
                  · replace h := kOk_p c78 h
                    refine k_iconst G (dc d_La_isWorthSo 126 rfl) cI_0 ?_
                    refine k_sub [0, 1, 3, 4] rfl ?_
                    have h9 := kOk_s h
                    exact h9
                  · replace h := kOk_n c78 h
                    refine k_aload_n G (dc d_La_isWorthSo 113 rfl) 0 rfl rfl ?_
                    refine k_iload_n G (dc d_La_isWorthSo 114 rfl) 1 rfl rfl ?_
                    refine k_bipush G (dc d_La_isWorthSo 115 rfl) cB_7 ?_
                    obtain ⟨⟨x80, M81⟩, e79, h⟩ := kOk_b h
                    refine k_cVI G (dc d_La_isWorthSo 116 rfl) kc7 (okL_lt hp0 (o := 0) 0 rfl) (okL_k hp0 (o := 0) 0 rfl) mi_SR_signOf mv_SR_signOf rfl ml_RL_66 (c_Sn_signOf (gst G) hp0 e79) rfl rfl ⟨rfl, rfl⟩ rfl ⟨rfl, rfl⟩ ⟨rfl, rfl⟩ ?_
                    refine k_iload G (dc d_La_isWorthSo 117 rfl) 3 rfl ?_
                    refine k_isub G (dc d_La_isWorthSo 118 rfl) ?_
                    refine k_iload G (dc d_La_isWorthSo 119 rfl) 4 rfl ?_
                    refine k_icmp_le G (dc d_La_isWorthSo 120 rfl) (tgt := 237) rfl (fun c82 => ?_) (fun c82 => ?_)
                    · replace h := kOk_p c82 h
                      refine k_iconst G (dc d_La_isWorthSo 126 rfl) cI_0 ?_
                      refine k_sub [0, 1, 3, 4] rfl ?_
                      have h9 := kOk_s h
                      exact h9
                    · replace h := kOk_n c82 h
                      refine k_aload_n G (dc d_La_isWorthSo 121 rfl) 0 rfl rfl ?_
                      obtain ⟨⟨x84, M85⟩, e83, h⟩ := kOk_b h
                      refine k_cVI G (dc d_La_isWorthSo 122 rfl) kc7 (okL_lt hp0 (o := 0) 0 rfl) (okL_k hp0 (o := 0) 0 rfl) mi_SR_undo mv_SR_undo rfl ml_RL_40 (c_Sn_undo (gst G) hx hp0 e83) rfl rfl ⟨rfl, rfl⟩ rfl ⟨rfl, rfl⟩ ⟨rfl, rfl⟩ ?_
                      refine k_if_lt G (dc d_La_isWorthSo 123 rfl) (tgt := 237) rfl (fun c86 => ?_) (fun c86 => ?_)
                      · replace h := kOk_p c86 h
                        refine k_iconst G (dc d_La_isWorthSo 126 rfl) cI_0 ?_
                        refine k_sub [0, 1, 3, 4] rfl ?_
                        have h9 := kOk_s h
                        exact h9
                      · replace h := kOk_n c86 h
                        refine k_iconst G (dc d_La_isWorthSo 124 rfl) cI_1 ?_
                        refine k_goto G (dc d_La_isWorthSo 125 rfl) (tgt := 238) rfl ?_
                        refine k_sub [0, 1, 3, 4] rfl ?_
                        have h9 := kOk_s h
                        exact h9
      · refine k_icmp_le G (dc d_La_isWorthSo 75 rfl) (tgt := 188) rfl (fun c87 => ?_) (fun c87 => ?_)
        · replace h := kOk_p c87 h
          refine k_sub [1, 2, 3, 4, 5, 0] rfl ?_
          have h9 := kOk_s h
          exact h9
        · replace h := kOk_n c87 h
          refine k_iload_n G (dc d_La_isWorthSo 76 rfl) 3 rfl rfl ?_
          refine k_bipush G (dc d_La_isWorthSo 77 rfl) cB_61 ?_
          refine k_icmp_ge G (dc d_La_isWorthSo 78 rfl) (tgt := 188) rfl (fun c88 => ?_) (fun c88 => ?_)
          · replace h := kOk_p c88 h
            refine k_sub [1, 2, 3, 4, 5, 0] rfl ?_
            have h9 := kOk_s h
            exact h9
          · replace h := kOk_n c88 h
            refine k_iload G (dc d_La_isWorthSo 79 rfl) 0 rfl ?_
            refine kJ h (fun r91 => KK X B L 8 0 0 r91.2 186 [(0, .ref (B.1 + p0)), (1, .int p1), (3, .int x2), (4, .int x5), (5, .int x8)] [.int r91.1]) (fun r91 h => ?_) (fun h => ?_)
            · obtain ⟨t89, M90⟩ := r91
              show KK X B L 8 0 0 M90 186 [(0, .ref (B.1 + p0)), (1, .int p1), (3, .int x2), (4, .int x5), (5, .int x8)] [.int t89]
              refine k_istore G (dc d_La_isWorthSo 101 rfl) (ls' := [(6, .int t89), (0, .ref (B.1 + p0)), (1, .int p1), (3, .int x2), (4, .int x5), (5, .int x8)]) rfl rfl ?_
              refine k_sub [1, 2, 3, 4, 5, 0] rfl ?_
              have h9 := kOk_s h
              exact h9
            · refine k_if_eq G (dc d_La_isWorthSo 80 rfl) (tgt := 185) rfl (fun c92 => ?_) (fun c92 => ?_)
              · replace h := kOk_p c92 h
                refine k_iconst G (dc d_La_isWorthSo 100 rfl) cI_0 ?_
                refine k_sub [1, 2, 3, 4, 5] rfl ?_
                have h9 := kOk_s h
                exact h9
              · replace h := kOk_n c92 h
                refine k_aload_n G (dc d_La_isWorthSo 81 rfl) 1 rfl rfl ?_
                refine k_iload_n G (dc d_La_isWorthSo 82 rfl) 3 rfl rfl ?_
                refine k_iconst G (dc d_La_isWorthSo 83 rfl) cI_1 ?_
                refine k_isub G (dc d_La_isWorthSo 84 rfl) ?_
                obtain ⟨⟨x94, M95⟩, e93, h⟩ := kOk_b h
                refine k_cVI G (dc d_La_isWorthSo 85 rfl) kc7 (okL_lt hp0 (o := 0) 0 rfl) (okL_k hp0 (o := 0) 0 rfl) mi_SR_months mv_SR_months rfl ml_RL_21 (c_Sn_months (gst G) hx hp0 e93) rfl rfl ⟨rfl, rfl⟩ rfl ⟨rfl, rfl⟩ ⟨rfl, rfl⟩ ?_
                refine k_if_lt G (dc d_La_isWorthSo 86 rfl) (tgt := 185) rfl (fun c96 => ?_) (fun c96 => ?_)
                · replace h := kOk_p c96 h
                  refine k_iconst G (dc d_La_isWorthSo 100 rfl) cI_0 ?_
                  refine k_sub [1, 2, 3, 4, 5] rfl ?_
                  have h9 := kOk_s h
                  exact h9
                · replace h := kOk_n c96 h
                  refine k_aload_n G (dc d_La_isWorthSo 87 rfl) 1 rfl rfl ?_
                  refine k_iload_n G (dc d_La_isWorthSo 88 rfl) 2 rfl rfl ?_
                  refine k_bipush G (dc d_La_isWorthSo 89 rfl) cB_7 ?_
                  obtain ⟨⟨x98, M99⟩, e97, h⟩ := kOk_b h
                  refine k_cVI G (dc d_La_isWorthSo 90 rfl) kc7 (okL_lt hp0 (o := 0) 0 rfl) (okL_k hp0 (o := 0) 0 rfl) mi_SR_signOf mv_SR_signOf rfl ml_RL_66 (c_Sn_signOf (gst G) hp0 e97) rfl rfl ⟨rfl, rfl⟩ rfl ⟨rfl, rfl⟩ ⟨rfl, rfl⟩ ?_
                  refine k_iload G (dc d_La_isWorthSo 91 rfl) 4 rfl ?_
                  refine k_isub G (dc d_La_isWorthSo 92 rfl) ?_
                  refine k_iload G (dc d_La_isWorthSo 93 rfl) 5 rfl ?_
                  refine k_icmp_gt G (dc d_La_isWorthSo 94 rfl) (tgt := 185) rfl (fun c100 => ?_) (fun c100 => ?_)
                  · replace h := kOk_p c100 h
                    refine k_iconst G (dc d_La_isWorthSo 100 rfl) cI_0 ?_
                    refine k_sub [1, 2, 3, 4, 5] rfl ?_
                    have h9 := kOk_s h
                    exact h9
                  · replace h := kOk_n c100 h
                    refine k_aload_n G (dc d_La_isWorthSo 95 rfl) 1 rfl rfl ?_
                    obtain ⟨⟨x102, M103⟩, e101, h⟩ := kOk_b h
                    refine k_cVI G (dc d_La_isWorthSo 96 rfl) kc7 (okL_lt hp0 (o := 0) 0 rfl) (okL_k hp0 (o := 0) 0 rfl) mi_SR_undo mv_SR_undo rfl ml_RL_40 (c_Sn_undo (gst G) hx hp0 e101) rfl rfl ⟨rfl, rfl⟩ rfl ⟨rfl, rfl⟩ ⟨rfl, rfl⟩ ?_
                    refine k_if_lt G (dc d_La_isWorthSo 97 rfl) (tgt := 185) rfl (fun c104 => ?_) (fun c104 => ?_)
                    · replace h := kOk_p c104 h
                      refine k_iconst G (dc d_La_isWorthSo 100 rfl) cI_0 ?_
                      refine k_sub [1, 2, 3, 4, 5] rfl ?_
                      have h9 := kOk_s h
                      exact h9
                    · replace h := kOk_n c104 h
                      refine k_iconst G (dc d_La_isWorthSo 98 rfl) cI_1 ?_
                      refine k_goto G (dc d_La_isWorthSo 99 rfl) (tgt := 186) rfl ?_
                      refine k_sub [1, 2, 3, 4, 5] rfl ?_
                      have h9 := kOk_s h
                      exact h9
    · refine k_if_eq G (dc d_La_isWorthSo 27 rfl) (tgt := 130) rfl (fun c105 => ?_) (fun c105 => ?_)
      · replace h := kOk_p c105 h
        refine k_iconst G (dc d_La_isWorthSo 71 rfl) cI_0 ?_
        refine k_sub [1, 2, 4, 5, 6] rfl ?_
        have h9 := kOk_s h
        exact h9
      · replace h := kOk_n c105 h
        refine k_aload_n G (dc d_La_isWorthSo 28 rfl) 1 rfl rfl ?_
        refine k_iload_n G (dc d_La_isWorthSo 29 rfl) 2 rfl rfl ?_
        refine k_iconst G (dc d_La_isWorthSo 30 rfl) cI_3 ?_
        obtain ⟨⟨x107, M108⟩, e106, h⟩ := kOk_b h
        refine k_cVI G (dc d_La_isWorthSo 31 rfl) kc7 (okL_lt hp0 (o := 0) 0 rfl) (okL_k hp0 (o := 0) 0 rfl) mi_SR_signOf mv_SR_signOf rfl ml_RL_66 (c_Sn_signOf (gst G) hp0 e106) rfl rfl ⟨rfl, rfl⟩ rfl ⟨rfl, rfl⟩ ⟨rfl, rfl⟩ ?_
        refine k_iconst G (dc d_La_isWorthSo 32 rfl) cI_1 ?_
        refine k_icmp_eq G (dc d_La_isWorthSo 33 rfl) (tgt := 66) rfl (fun c109 => ?_) (fun c109 => ?_)
        · replace h := kOk_p c109 h
          refine k_aload_n G (dc d_La_isWorthSo 37 rfl) 1 rfl rfl ?_
          refine k_iload_n G (dc d_La_isWorthSo 38 rfl) 3 rfl rfl ?_
          obtain ⟨⟨x111, M112⟩, e110, h⟩ := kOk_b h
          refine k_cVI G (dc d_La_isWorthSo 39 rfl) kc7 (okL_lt hp0 (o := 0) 0 rfl) (okL_k hp0 (o := 0) 0 rfl) mi_SR_payable mv_SR_payable rfl ml_RL_84 (c_Sn_payable (gst G) hp0 e110) rfl rfl ⟨rfl, rfl⟩ rfl ⟨rfl, rfl⟩ ⟨rfl, rfl⟩ ?_
          refine k_aload_n G (dc d_La_isWorthSo 40 rfl) 1 rfl rfl ?_
          refine k_iload_n G (dc d_La_isWorthSo 41 rfl) 3 rfl rfl ?_
          refine k_bipush G (dc d_La_isWorthSo 42 rfl) cB_7 ?_
          refine k_iadd G (dc d_La_isWorthSo 43 rfl) ?_
          obtain ⟨⟨x114, M115⟩, e113, h⟩ := kOk_b h
          refine k_cVI G (dc d_La_isWorthSo 44 rfl) kc7 (okL_lt hp0 (o := 0) 0 rfl) (okL_k hp0 (o := 0) 0 rfl) mi_SR_payable mv_SR_payable rfl ml_RL_84 (c_Sn_payable (gst G) hp0 e113) rfl rfl ⟨rfl, rfl⟩ rfl ⟨rfl, rfl⟩ ⟨rfl, rfl⟩ ?_
          refine k_icmp_gt G (dc d_La_isWorthSo 45 rfl) (tgt := 130) rfl (fun c116 => ?_) (fun c116 => ?_)
          · replace h := kOk_p c116 h
            refine k_iconst G (dc d_La_isWorthSo 71 rfl) cI_0 ?_
            refine k_sub [1, 2, 4, 5, 6] rfl ?_
            have h9 := kOk_s h
            exact h9
          · replace h := kOk_n c116 h
            refine k_aload_n G (dc d_La_isWorthSo 46 rfl) 1 rfl rfl ?_
            refine k_iload_n G (dc d_La_isWorthSo 47 rfl) 3 rfl rfl ?_
            obtain ⟨⟨x118, M119⟩, e117, h⟩ := kOk_b h
            refine k_cVI G (dc d_La_isWorthSo 48 rfl) kc7 (okL_lt hp0 (o := 0) 0 rfl) (okL_k hp0 (o := 0) 0 rfl) mi_SR_payable mv_SR_payable rfl ml_RL_84 (c_Sn_payable (gst G) hp0 e117) rfl rfl ⟨rfl, rfl⟩ rfl ⟨rfl, rfl⟩ ⟨rfl, rfl⟩ ?_
            refine k_if_lt G (dc d_La_isWorthSo 49 rfl) (tgt := 130) rfl (fun c120 => ?_) (fun c120 => ?_)
            · replace h := kOk_p c120 h
              refine k_iconst G (dc d_La_isWorthSo 71 rfl) cI_0 ?_
              refine k_sub [1, 2, 4, 5, 6] rfl ?_
              have h9 := kOk_s h
              exact h9
            · replace h := kOk_n c120 h
              refine k_aload_n G (dc d_La_isWorthSo 50 rfl) 1 rfl rfl ?_
              refine k_iload_n G (dc d_La_isWorthSo 51 rfl) 3 rfl rfl ?_
              obtain ⟨⟨x122, M123⟩, e121, h⟩ := kOk_b h
              refine k_cVI G (dc d_La_isWorthSo 52 rfl) kc7 (okL_lt hp0 (o := 0) 0 rfl) (okL_k hp0 (o := 0) 0 rfl) mi_SR_payable mv_SR_payable rfl ml_RL_84 (c_Sn_payable (gst G) hp0 e121) rfl rfl ⟨rfl, rfl⟩ rfl ⟨rfl, rfl⟩ ⟨rfl, rfl⟩ ?_
              refine k_aload_n G (dc d_La_isWorthSo 53 rfl) 1 rfl rfl ?_
              refine k_iconst G (dc d_La_isWorthSo 54 rfl) cI_2 ?_
              obtain ⟨⟨x125, M126⟩, e124, h⟩ := kOk_b h
              refine k_cVI G (dc d_La_isWorthSo 55 rfl) kc7 (okL_lt hp0 (o := 0) 0 rfl) (okL_k hp0 (o := 0) 0 rfl) mi_SR_about mv_SR_about rfl ml_RL_60 (c_Sn_about (gst G) hp0 e124) rfl rfl ⟨rfl, rfl⟩ rfl ⟨rfl, rfl⟩ ⟨rfl, rfl⟩ ?_
              refine kJ h (fun r128 => KK X B L 8 0 0 M126 108 [(0, .ref (B.1 + p0)), (1, .int p1), (2, .int p2), (3, .int x2), (4, .int x5), (5, .int x8)] [.int r128]) (fun r128 h => ?_) (fun h => ?_)
              · obtain ⟨t127, rfl⟩ : ∃ z, z = r128 := ⟨_, rfl⟩
                show KK X B L 8 0 0 M126 108 [(0, .ref (B.1 + p0)), (1, .int p1), (2, .int p2), (3, .int x2), (4, .int x5), (5, .int x8)] [.int t127]
                refine k_aload_n G (dc d_La_isWorthSo 60 rfl) 0 rfl rfl ?_
                refine k_bipush G (dc d_La_isWorthSo 61 rfl) cB_11 ?_
                obtain ⟨⟨x130, M131⟩, e129, h⟩ := kOk_b h
                refine k_cVI G (dc d_La_isWorthSo 62 rfl) kc7 (okL_lt hp0 (o := 0) 0 rfl) (okL_k hp0 (o := 0) 0 rfl) mi_SR_about mv_SR_about rfl ml_RL_60 (c_Sn_about (gst G) hp0 e129) rfl rfl ⟨rfl, rfl⟩ rfl ⟨rfl, rfl⟩ ⟨rfl, rfl⟩ ?_
                refine k_iload_n G (dc d_La_isWorthSo 63 rfl) 2 rfl rfl ?_
                refine kJ h (fun r133 => KK X B L 8 0 0 M131 123 [(0, .ref (B.1 + p0)), (1, .int p1), (3, .int x2), (4, .int x5), (5, .int x8)] [.int r133, .int t127]) (fun r133 h => ?_) (fun h => ?_)
                · obtain ⟨t132, rfl⟩ : ∃ z, z = r133 := ⟨_, rfl⟩
                  show KK X B L 8 0 0 M131 123 [(0, .ref (B.1 + p0)), (1, .int p1), (3, .int x2), (4, .int x5), (5, .int x8)] [.int t132, .int t127]
                  refine k_icmp_ne G (dc d_La_isWorthSo 68 rfl) (tgt := 130) rfl (fun c134 => ?_) (fun c134 => ?_)
                  · replace h := kOk_n c134 h
                    refine k_iconst G (dc d_La_isWorthSo 71 rfl) cI_0 ?_
                    have h9 := kOk_s h
                    exact h9
                  · replace h := kOk_p c134 h
                    refine k_iconst G (dc d_La_isWorthSo 69 rfl) cI_1 ?_
                    refine k_goto G (dc d_La_isWorthSo 70 rfl) (tgt := 131) rfl ?_
                    have h9 := kOk_s h
                    exact h9
                · refine k_icmp_gt G (dc d_La_isWorthSo 64 rfl) (tgt := 122) rfl (fun c135 => ?_) (fun c135 => ?_)
                  · replace h := kOk_p c135 h
                    refine k_iconst G (dc d_La_isWorthSo 67 rfl) cI_0 ?_
                    refine k_sub [0, 1, 3, 4, 5] rfl ?_
                    have h9 := kOk_s h
                    exact h9
                  · replace h := kOk_n c135 h
                    refine k_iconst G (dc d_La_isWorthSo 65 rfl) cI_1 ?_
                    refine k_goto G (dc d_La_isWorthSo 66 rfl) (tgt := 123) rfl ?_
                    refine k_sub [0, 1, 3, 4, 5] rfl ?_
                    have h9 := kOk_s h
                    exact h9
              · refine k_icmp_ne G (dc d_La_isWorthSo 56 rfl) (tgt := 107) rfl (fun c136 => ?_) (fun c136 => ?_)
                · replace h := kOk_n c136 h
                  refine k_iconst G (dc d_La_isWorthSo 59 rfl) cI_0 ?_
                  refine k_sub [1, 2, 3, 4, 5, 6] rfl ?_
                  have h9 := kOk_s h
                  exact h9
                · replace h := kOk_p c136 h
                  refine k_iconst G (dc d_La_isWorthSo 57 rfl) cI_1 ?_
                  refine k_goto G (dc d_La_isWorthSo 58 rfl) (tgt := 108) rfl ?_
                  refine k_sub [1, 2, 3, 4, 5, 6] rfl ?_
                  have h9 := kOk_s h
                  exact h9
        · replace h := kOk_n c109 h
          refine k_iload_n G (dc d_La_isWorthSo 34 rfl) 4 rfl rfl ?_
          refine k_iconst G (dc d_La_isWorthSo 35 rfl) cI_m1 ?_
          refine k_icmp_ne G (dc d_La_isWorthSo 36 rfl) (tgt := 130) rfl (fun c137 => ?_) (fun c137 => ?_)
          · replace h := kOk_n c137 h
            refine k_iconst G (dc d_La_isWorthSo 71 rfl) cI_0 ?_
            refine k_sub [1, 2, 4, 5, 6] rfl ?_
            have h9 := kOk_s h
            exact h9
          · replace h := kOk_p c137 h
            refine k_aload_n G (dc d_La_isWorthSo 37 rfl) 1 rfl rfl ?_
            refine k_iload_n G (dc d_La_isWorthSo 38 rfl) 3 rfl rfl ?_
            obtain ⟨⟨x139, M140⟩, e138, h⟩ := kOk_b h
            refine k_cVI G (dc d_La_isWorthSo 39 rfl) kc7 (okL_lt hp0 (o := 0) 0 rfl) (okL_k hp0 (o := 0) 0 rfl) mi_SR_payable mv_SR_payable rfl ml_RL_84 (c_Sn_payable (gst G) hp0 e138) rfl rfl ⟨rfl, rfl⟩ rfl ⟨rfl, rfl⟩ ⟨rfl, rfl⟩ ?_
            refine k_aload_n G (dc d_La_isWorthSo 40 rfl) 1 rfl rfl ?_
            refine k_iload_n G (dc d_La_isWorthSo 41 rfl) 3 rfl rfl ?_
            refine k_bipush G (dc d_La_isWorthSo 42 rfl) cB_7 ?_
            refine k_iadd G (dc d_La_isWorthSo 43 rfl) ?_
            obtain ⟨⟨x142, M143⟩, e141, h⟩ := kOk_b h
            refine k_cVI G (dc d_La_isWorthSo 44 rfl) kc7 (okL_lt hp0 (o := 0) 0 rfl) (okL_k hp0 (o := 0) 0 rfl) mi_SR_payable mv_SR_payable rfl ml_RL_84 (c_Sn_payable (gst G) hp0 e141) rfl rfl ⟨rfl, rfl⟩ rfl ⟨rfl, rfl⟩ ⟨rfl, rfl⟩ ?_
            refine k_icmp_gt G (dc d_La_isWorthSo 45 rfl) (tgt := 130) rfl (fun c144 => ?_) (fun c144 => ?_)
            · replace h := kOk_p c144 h
              refine k_iconst G (dc d_La_isWorthSo 71 rfl) cI_0 ?_
              refine k_sub [1, 2, 4, 5, 6] rfl ?_
              have h9 := kOk_s h
              exact h9
            · replace h := kOk_n c144 h
              refine k_aload_n G (dc d_La_isWorthSo 46 rfl) 1 rfl rfl ?_
              refine k_iload_n G (dc d_La_isWorthSo 47 rfl) 3 rfl rfl ?_
              obtain ⟨⟨x146, M147⟩, e145, h⟩ := kOk_b h
              refine k_cVI G (dc d_La_isWorthSo 48 rfl) kc7 (okL_lt hp0 (o := 0) 0 rfl) (okL_k hp0 (o := 0) 0 rfl) mi_SR_payable mv_SR_payable rfl ml_RL_84 (c_Sn_payable (gst G) hp0 e145) rfl rfl ⟨rfl, rfl⟩ rfl ⟨rfl, rfl⟩ ⟨rfl, rfl⟩ ?_
              refine k_if_lt G (dc d_La_isWorthSo 49 rfl) (tgt := 130) rfl (fun c148 => ?_) (fun c148 => ?_)
              · replace h := kOk_p c148 h
                refine k_iconst G (dc d_La_isWorthSo 71 rfl) cI_0 ?_
                refine k_sub [1, 2, 4, 5, 6] rfl ?_
                have h9 := kOk_s h
                exact h9
              · replace h := kOk_n c148 h
                refine k_aload_n G (dc d_La_isWorthSo 50 rfl) 1 rfl rfl ?_
                refine k_iload_n G (dc d_La_isWorthSo 51 rfl) 3 rfl rfl ?_
                obtain ⟨⟨x150, M151⟩, e149, h⟩ := kOk_b h
                refine k_cVI G (dc d_La_isWorthSo 52 rfl) kc7 (okL_lt hp0 (o := 0) 0 rfl) (okL_k hp0 (o := 0) 0 rfl) mi_SR_payable mv_SR_payable rfl ml_RL_84 (c_Sn_payable (gst G) hp0 e149) rfl rfl ⟨rfl, rfl⟩ rfl ⟨rfl, rfl⟩ ⟨rfl, rfl⟩ ?_
                refine k_aload_n G (dc d_La_isWorthSo 53 rfl) 1 rfl rfl ?_
                refine k_iconst G (dc d_La_isWorthSo 54 rfl) cI_2 ?_
                obtain ⟨⟨x153, M154⟩, e152, h⟩ := kOk_b h
                refine k_cVI G (dc d_La_isWorthSo 55 rfl) kc7 (okL_lt hp0 (o := 0) 0 rfl) (okL_k hp0 (o := 0) 0 rfl) mi_SR_about mv_SR_about rfl ml_RL_60 (c_Sn_about (gst G) hp0 e152) rfl rfl ⟨rfl, rfl⟩ rfl ⟨rfl, rfl⟩ ⟨rfl, rfl⟩ ?_
                refine kJ h (fun r156 => KK X B L 8 0 0 M154 108 [(0, .ref (B.1 + p0)), (1, .int p1), (2, .int p2), (3, .int x2), (4, .int x5), (5, .int x8)] [.int r156]) (fun r156 h => ?_) (fun h => ?_)
                · obtain ⟨t155, rfl⟩ : ∃ z, z = r156 := ⟨_, rfl⟩
                  show KK X B L 8 0 0 M154 108 [(0, .ref (B.1 + p0)), (1, .int p1), (2, .int p2), (3, .int x2), (4, .int x5), (5, .int x8)] [.int t155]
                  refine k_aload_n G (dc d_La_isWorthSo 60 rfl) 0 rfl rfl ?_
                  refine k_bipush G (dc d_La_isWorthSo 61 rfl) cB_11 ?_
                  obtain ⟨⟨x158, M159⟩, e157, h⟩ := kOk_b h
                  refine k_cVI G (dc d_La_isWorthSo 62 rfl) kc7 (okL_lt hp0 (o := 0) 0 rfl) (okL_k hp0 (o := 0) 0 rfl) mi_SR_about mv_SR_about rfl ml_RL_60 (c_Sn_about (gst G) hp0 e157) rfl rfl ⟨rfl, rfl⟩ rfl ⟨rfl, rfl⟩ ⟨rfl, rfl⟩ ?_
                  refine k_iload_n G (dc d_La_isWorthSo 63 rfl) 2 rfl rfl ?_
                  refine kJ h (fun r161 => KK X B L 8 0 0 M159 123 [(0, .ref (B.1 + p0)), (1, .int p1), (3, .int x2), (4, .int x5), (5, .int x8)] [.int r161, .int t155]) (fun r161 h => ?_) (fun h => ?_)
                  · obtain ⟨t160, rfl⟩ : ∃ z, z = r161 := ⟨_, rfl⟩
                    show KK X B L 8 0 0 M159 123 [(0, .ref (B.1 + p0)), (1, .int p1), (3, .int x2), (4, .int x5), (5, .int x8)] [.int t160, .int t155]
                    refine k_icmp_ne G (dc d_La_isWorthSo 68 rfl) (tgt := 130) rfl (fun c162 => ?_) (fun c162 => ?_)
                    · replace h := kOk_n c162 h
                      refine k_iconst G (dc d_La_isWorthSo 71 rfl) cI_0 ?_
                      have h9 := kOk_s h
                      exact h9
                    · replace h := kOk_p c162 h
                      refine k_iconst G (dc d_La_isWorthSo 69 rfl) cI_1 ?_
                      refine k_goto G (dc d_La_isWorthSo 70 rfl) (tgt := 131) rfl ?_
                      have h9 := kOk_s h
                      exact h9
                  · refine k_icmp_gt G (dc d_La_isWorthSo 64 rfl) (tgt := 122) rfl (fun c163 => ?_) (fun c163 => ?_)
                    · replace h := kOk_p c163 h
                      refine k_iconst G (dc d_La_isWorthSo 67 rfl) cI_0 ?_
                      refine k_sub [0, 1, 3, 4, 5] rfl ?_
                      have h9 := kOk_s h
                      exact h9
                    · replace h := kOk_n c163 h
                      refine k_iconst G (dc d_La_isWorthSo 65 rfl) cI_1 ?_
                      refine k_goto G (dc d_La_isWorthSo 66 rfl) (tgt := 123) rfl ?_
                      refine k_sub [0, 1, 3, 4, 5] rfl ?_
                      have h9 := kOk_s h
                      exact h9
                · refine k_icmp_ne G (dc d_La_isWorthSo 56 rfl) (tgt := 107) rfl (fun c164 => ?_) (fun c164 => ?_)
                  · replace h := kOk_n c164 h
                    refine k_iconst G (dc d_La_isWorthSo 59 rfl) cI_0 ?_
                    refine k_sub [1, 2, 3, 4, 5, 6] rfl ?_
                    have h9 := kOk_s h
                    exact h9
                  · replace h := kOk_p c164 h
                    refine k_iconst G (dc d_La_isWorthSo 57 rfl) cI_1 ?_
                    refine k_goto G (dc d_La_isWorthSo 58 rfl) (tgt := 108) rfl ?_
                    refine k_sub [1, 2, 3, 4, 5, 6] rfl ?_
                    have h9 := kOk_s h
                    exact h9
  · refine k_icmp_eq G (dc d_La_isWorthSo 16 rfl) (tgt := 39) rfl (fun c165 => ?_) (fun c165 => ?_)
    · replace h := kOk_p c165 h
      refine k_iconst G (dc d_La_isWorthSo 22 rfl) cI_1 ?_
      refine k_goto G (dc d_La_isWorthSo 23 rfl) (tgt := 44) rfl ?_
      refine k_sub [3, 4, 5, 2, 1, 0] rfl ?_
      have h9 := kOk_s h
      exact h9
    · replace h := kOk_n c165 h
      refine k_iload_n G (dc d_La_isWorthSo 17 rfl) 2 rfl rfl ?_
      refine k_if_le G (dc d_La_isWorthSo 18 rfl) (tgt := 43) rfl (fun c166 => ?_) (fun c166 => ?_)
      · replace h := kOk_p c166 h
        refine k_iconst G (dc d_La_isWorthSo 24 rfl) cI_0 ?_
        refine k_sub [3, 4, 5, 2, 1, 0] rfl ?_
        have h9 := kOk_s h
        exact h9
      · replace h := kOk_n c166 h
        refine k_iload_n G (dc d_La_isWorthSo 19 rfl) 2 rfl rfl ?_
        refine k_sipush G (dc d_La_isWorthSo 20 rfl) cS_200 ?_
        refine k_icmp_gt G (dc d_La_isWorthSo 21 rfl) (tgt := 43) rfl (fun c167 => ?_) (fun c167 => ?_)
        · replace h := kOk_p c167 h
          refine k_iconst G (dc d_La_isWorthSo 24 rfl) cI_0 ?_
          refine k_sub [3, 4, 5, 2, 1, 0] rfl ?_
          have h9 := kOk_s h
          exact h9
        · replace h := kOk_n c167 h
          refine k_iconst G (dc d_La_isWorthSo 22 rfl) cI_1 ?_
          refine k_goto G (dc d_La_isWorthSo 23 rfl) (tgt := 44) rfl ?_
          refine k_sub [3, 4, 5, 2, 1, 0] rfl ?_
          have h9 := kOk_s h
          exact h9
theorem c_La_isWorthSo {l : Launch} {B : KB} {L : KLay} {M : KMem} {p0 : Nat} {p1 : Int32} {p2 : Int32} (hst : l.stackTraces = false) (hx : B.2.2.2 = false) (hp0 : okL L p0 srT) {r : Int32} {M' : KMem} (e : m_La_isWorthSo p0 p1 p2 M = some (r, M')) : CtrN l B yL_isWorthSo cL_isWorthSo 8 (some .boolean) rm_La_isWorthSo [.ref (B.1 + p0), .int p1, .int p2] L M (some (.int r)) L M' :=
  mk_I rfl hst rfl (fun X hl G _ R => b_La_isWorthSo G hx hp0 ⟨_, e, R⟩)
