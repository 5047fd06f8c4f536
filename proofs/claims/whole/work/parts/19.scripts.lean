/-! laid by wip/whole/lay.py: Sc_isGiven, Sc_monthsPass, Sc_succeeds -/
def I_Sc_isGiven : List (Nat × Instr × Nat) := [(0, .iload_n 1, 1), (1, .iload_n 2, 1), (2, .iload_n 3, 1), (3, .iload 4, 2), (5, .invokestatic 52, 3), (8, .ifCond .eq 19, 3), (11, .aload_n 0, 1), (12, .iload_n 1, 1), (13, .iload_n 2, 1), (14, .iload_n 3, 1), (15, .iload 4, 2), (17, .invokevirtual 58, 3), (20, .ifCond .ne 7, 3), (23, .iconst 1, 1), (24, .goto 4, 3), (27, .iconst 0, 1), (28, .ireturn, 1)]
set_option maxRecDepth 100000 in
theorem d_Sc_isGiven : decA cX5_isGiven I_Sc_isGiven = true := by decide +kernel
abbrev rm_Sc_isGiven : Room := ({ frames := 4, cells := 0, slots := 0, locals := 102 } : Room)
def m_Sc_isGiven (p0 : Nat) (p1 : Int32) (p2 : Int32) (p3 : Int32) (p4 : Int32) (M : KMem) : Option (Int32 × KMem) :=
 Option.bind (m_De_canBe p1 p2 p3 p4) fun x2 =>
 Option.bind (α := Int32 × KMem) (if x2 = 0 then
 (some (0, M))
 else
 (Option.bind (m_Tw_giveDecree p0 p1 p2 p3 p4 M) fun (x10, M11) =>
 if x10 = 0 then
 (some (1, M11))
 else
 (some (0, M11)))) fun (t3, M4) =>
 Option.bind (kz t3) fun z6 =>
 some (z6, M4)
set_option maxHeartbeats 4000000 in
set_option maxRecDepth 100000 in
theorem b_Sc_isGiven {X : KX} {B : KB} {L : KLay} {M : KMem} {p0 : Nat} {p1 : Int32} {p2 : Int32} {p3 : Int32} {p4 : Int32} (G : Good X B RX5 cX5_isGiven 5 rm_Sc_isGiven) (hx : B.2.2.2 = false) (hp0 : okL L p0 twT) (h : kOk (m_Sc_isGiven p0 p1 p2 p3 p4 M) (fun r => RI X B L 5 cX5_isGiven .boolean rm_Sc_isGiven r.1 r.2)) : KK X B L 5 0 0 M 0 [(0, .ref (B.1 + p0)), (1, .int p1), (2, .int p2), (3, .int p3), (4, .int p4)] [] := by
  unfold m_Sc_isGiven at h
  refine k_iload_n G (dc d_Sc_isGiven 0 rfl) 1 rfl rfl ?_
  refine k_iload_n G (dc d_Sc_isGiven 1 rfl) 2 rfl rfl ?_
  refine k_iload_n G (dc d_Sc_isGiven 2 rfl) 3 rfl rfl ?_
  refine k_iload G (dc d_Sc_isGiven 3 rfl) 4 rfl ?_
  obtain ⟨x2, e1, h⟩ := kOk_b h
  refine k_cSI G (dc d_Sc_isGiven 4 rfl) mi_De_canBe ms_De_canBe ml_RX5_52 (c_De_canBe (gst G)  e1) rfl rfl ⟨rfl, rfl⟩ rfl ⟨rfl, rfl⟩ ⟨rfl, rfl⟩ ?_
  refine kJ h (fun r5 => KK X B L 5 0 0 r5.2 28 [] [.int r5.1]) (fun r5 h => ?_) (fun h => ?_)
  · obtain ⟨t3, M4⟩ := r5
    show KK X B L 5 0 0 M4 28 [] [.int t3]
    obtain ⟨z6, e7, h⟩ := kOk_b h
    obtain ⟨e7, nz6, -⟩ := kz_ok e7
    rw [e7]
    exact (kOk_s h) _ _ _ _ rfl rfl nz6 (dc d_Sc_isGiven 16 rfl)
  · refine k_if_eq G (dc d_Sc_isGiven 5 rfl) (tgt := 27) rfl (fun c8 => ?_) (fun c8 => ?_)
    · replace h := kOk_p c8 h
      refine k_iconst G (dc d_Sc_isGiven 15 rfl) cI_0 ?_
      refine k_sub [] rfl ?_
      have h9 := kOk_s h
      exact h9
    · replace h := kOk_n c8 h
      refine k_aload_n G (dc d_Sc_isGiven 6 rfl) 0 rfl rfl ?_
      refine k_iload_n G (dc d_Sc_isGiven 7 rfl) 1 rfl rfl ?_
      refine k_iload_n G (dc d_Sc_isGiven 8 rfl) 2 rfl rfl ?_
      refine k_iload_n G (dc d_Sc_isGiven 9 rfl) 3 rfl rfl ?_
      refine k_iload G (dc d_Sc_isGiven 10 rfl) 4 rfl ?_
      obtain ⟨⟨x10, M11⟩, e9, h⟩ := kOk_b h
      refine k_cVI G (dc d_Sc_isGiven 11 rfl) kc6 (okL_lt hp0 (o := 0) 0 rfl) (okL_k hp0 (o := 0) 0 rfl) mi_Tw_giveDecree mv_Tw_giveDecree rfl ml_RX5_58 (c_Tw_giveDecree (gst G) hx hp0 e9) rfl rfl ⟨rfl, rfl⟩ rfl ⟨rfl, rfl⟩ ⟨rfl, rfl⟩ ?_
      refine k_if_ne G (dc d_Sc_isGiven 12 rfl) (tgt := 27) rfl (fun c12 => ?_) (fun c12 => ?_)
      · replace h := kOk_n c12 h
        refine k_iconst G (dc d_Sc_isGiven 15 rfl) cI_0 ?_
        refine k_sub [] rfl ?_
        have h9 := kOk_s h
        exact h9
      · replace h := kOk_p c12 h
        refine k_iconst G (dc d_Sc_isGiven 13 rfl) cI_1 ?_
        refine k_goto G (dc d_Sc_isGiven 14 rfl) (tgt := 28) rfl ?_
        refine k_sub [] rfl ?_
        have h9 := kOk_s h
        exact h9
theorem c_Sc_isGiven {l : Launch} {B : KB} {L : KLay} {M : KMem} {p0 : Nat} {p1 : Int32} {p2 : Int32} {p3 : Int32} {p4 : Int32} (hst : l.stackTraces = false) (hx : B.2.2.2 = false) (hp0 : okL L p0 twT) {r : Int32} {M' : KMem} (e : m_Sc_isGiven p0 p1 p2 p3 p4 M = some (r, M')) : CtrN l B yX5_isGiven cX5_isGiven 5 (some .boolean) rm_Sc_isGiven [.ref (B.1 + p0), .int p1, .int p2, .int p3, .int p4] L M (some (.int r)) L M' :=
  mk_I rfl hst rfl (fun X hl G _ R => b_Sc_isGiven G hx hp0 ⟨_, e, R⟩)
def I_Sc_monthsPass : List (Nat × Instr × Nat) := [(0, .iload_n 1, 1), (1, .iconst 1, 1), (2, .if_icmp .lt 9, 3), (5, .iload_n 1, 1), (6, .bipush 60, 2), (8, .if_icmp .le 5, 3), (11, .iconst 0, 1), (12, .ireturn, 1), (13, .aload_n 0, 1), (14, .iload_n 1, 1), (15, .invokevirtual 62, 3), (18, .pop, 1), (19, .iconst 1, 1), (20, .ireturn, 1)]
set_option maxRecDepth 100000 in
theorem d_Sc_monthsPass : decA cX5_monthsPass I_Sc_monthsPass = true := by decide +kernel
abbrev rm_Sc_monthsPass : Room := ({ frames := 4, cells := 0, slots := 0, locals := 90 } : Room)
def m_Sc_monthsPass (p0 : Nat) (p1 : Int32) (M : KMem) : Option (Int32 × KMem) :=
 if p1 < 1 then
 (Option.bind (kz 0) fun z2 =>
 some (z2, M))
 else
 (if p1 ≤ 60 then
 (Option.bind (m_Tw_passMonths p0 p1 M) fun (x6, M7) =>
 Option.bind (kz 1) fun z8 =>
 some (z8, M7))
 else
 (Option.bind (kz 0) fun z10 =>
 some (z10, M)))
set_option maxHeartbeats 4000000 in
set_option maxRecDepth 100000 in
theorem b_Sc_monthsPass {X : KX} {B : KB} {L : KLay} {M : KMem} {p0 : Nat} {p1 : Int32} (G : Good X B RX5 cX5_monthsPass 2 rm_Sc_monthsPass) (hp0 : okL L p0 twT) (h : kOk (m_Sc_monthsPass p0 p1 M) (fun r => RI X B L 2 cX5_monthsPass .boolean rm_Sc_monthsPass r.1 r.2)) : KK X B L 2 0 0 M 0 [(0, .ref (B.1 + p0)), (1, .int p1)] [] := by
  unfold m_Sc_monthsPass at h
  refine k_iload_n G (dc d_Sc_monthsPass 0 rfl) 1 rfl rfl ?_
  refine k_iconst G (dc d_Sc_monthsPass 1 rfl) cI_1 ?_
  refine k_icmp_lt G (dc d_Sc_monthsPass 2 rfl) (tgt := 11) rfl (fun c1 => ?_) (fun c1 => ?_)
  · replace h := kOk_p c1 h
    refine k_iconst G (dc d_Sc_monthsPass 6 rfl) cI_0 ?_
    obtain ⟨z2, e3, h⟩ := kOk_b h
    obtain ⟨e3, nz2, -⟩ := kz_ok e3
    rw [e3]
    exact (kOk_s h) _ _ _ _ rfl rfl nz2 (dc d_Sc_monthsPass 7 rfl)
  · replace h := kOk_n c1 h
    refine k_iload_n G (dc d_Sc_monthsPass 3 rfl) 1 rfl rfl ?_
    refine k_bipush G (dc d_Sc_monthsPass 4 rfl) cB_60 ?_
    refine k_icmp_le G (dc d_Sc_monthsPass 5 rfl) (tgt := 13) rfl (fun c4 => ?_) (fun c4 => ?_)
    · replace h := kOk_p c4 h
      refine k_aload_n G (dc d_Sc_monthsPass 8 rfl) 0 rfl rfl ?_
      refine k_iload_n G (dc d_Sc_monthsPass 9 rfl) 1 rfl rfl ?_
      obtain ⟨⟨x6, M7⟩, e5, h⟩ := kOk_b h
      refine k_cVI G (dc d_Sc_monthsPass 10 rfl) kc6 (okL_lt hp0 (o := 0) 0 rfl) (okL_k hp0 (o := 0) 0 rfl) mi_Tw_passMonths mv_Tw_passMonths rfl ml_RX5_62 (c_Tw_passMonths (gst G) hp0 e5) rfl rfl ⟨rfl, rfl⟩ rfl ⟨rfl, rfl⟩ ⟨rfl, rfl⟩ ?_
      refine k_pop G (dc d_Sc_monthsPass 11 rfl) rfl ?_
      refine k_iconst G (dc d_Sc_monthsPass 12 rfl) cI_1 ?_
      obtain ⟨z8, e9, h⟩ := kOk_b h
      obtain ⟨e9, nz8, -⟩ := kz_ok e9
      rw [e9]
      exact (kOk_s h) _ _ _ _ rfl rfl nz8 (dc d_Sc_monthsPass 13 rfl)
    · replace h := kOk_n c4 h
      refine k_iconst G (dc d_Sc_monthsPass 6 rfl) cI_0 ?_
      obtain ⟨z10, e11, h⟩ := kOk_b h
      obtain ⟨e11, nz10, -⟩ := kz_ok e11
      rw [e11]
      exact (kOk_s h) _ _ _ _ rfl rfl nz10 (dc d_Sc_monthsPass 7 rfl)
theorem c_Sc_monthsPass {l : Launch} {B : KB} {L : KLay} {M : KMem} {p0 : Nat} {p1 : Int32} (hst : l.stackTraces = false) (hp0 : okL L p0 twT) {r : Int32} {M' : KMem} (e : m_Sc_monthsPass p0 p1 M = some (r, M')) : CtrN l B yX5_monthsPass cX5_monthsPass 2 (some .boolean) rm_Sc_monthsPass [.ref (B.1 + p0), .int p1] L M (some (.int r)) L M' :=
  mk_I rfl hst rfl (fun X hl G _ R => b_Sc_monthsPass G hp0 ⟨_, e, R⟩)
def I_Sc_succeeds : List (Nat × Instr × Nat) := [(0, .iload_n 1, 1), (1, .sipush 1000, 3), (4, .idiv, 1), (5, .istore_n 2, 1), (6, .iload_n 1, 1), (7, .bipush 100, 2), (9, .idiv, 1), (10, .bipush 10, 2), (12, .irem, 1), (13, .istore_n 3, 1), (14, .iload_n 1, 1), (15, .bipush 10, 2), (17, .idiv, 1), (18, .bipush 10, 2), (20, .irem, 1), (21, .istore 4, 2), (23, .iload_n 1, 1), (24, .bipush 10, 2), (26, .irem, 1), (27, .istore 5, 2), (29, .iload_n 2, 1), (30, .tableswitch 270 1 9 #[50, 78, 89, 113, 138, 159, 190, 219, 243], 50), (80, .iload 5, 2), (82, .ifCond .ne 24, 3), (85, .iload_n 3, 1), (86, .iconst 1, 1), (87, .if_icmp .eq 19, 3), (90, .aload_n 0, 1), (91, .iload_n 3, 1), (92, .iload 4, 2), (94, .iconst 0, 1), (95, .iconst 0, 1), (96, .invokestatic 9, 3), (99, .ifCond .eq 7, 3), (102, .iconst 1, 1), (103, .goto 4, 3), (106, .iconst 0, 1), (107, .ireturn, 1), (108, .aload_n 0, 1), (109, .iconst 1, 1), (110, .iload_n 3, 1), (111, .iload 4, 2), (113, .iload 5, 2), (115, .invokestatic 9, 3), (118, .ireturn, 1), (119, .iload 4, 2), (121, .ifCond .ne 20, 3), (124, .iload 5, 2), (126, .ifCond .ne 15, 3), (129, .aload_n 0, 1), (130, .iload_n 3, 1), (131, .invokevirtual 15, 3), (134, .ifCond .ne 7, 3), (137, .iconst 1, 1), (138, .goto 4, 3), (141, .iconst 0, 1), (142, .ireturn, 1), (143, .iload 4, 2), (145, .ifCond .ne 21, 3), (148, .iload 5, 2), (150, .ifCond .ne 16, 3), (153, .aload_n 0, 1), (154, .iload_n 3, 1), (155, .invokevirtual 21, 3), (158, .iconst (-1), 1), (159, .if_icmp .eq 7, 3), (162, .iconst 1, 1), (163, .goto 4, 3), (166, .iconst 0, 1), (167, .ireturn, 1), (168, .iload_n 3, 1), (169, .ifCond .ne 18, 3), (172, .aload_n 0, 1), (173, .iload_n 1, 1), (174, .bipush 100, 2), (176, .irem, 1), (177, .invokestatic 24, 3), (180, .ifCond .eq 7, 3), (183, .iconst 1, 1), (184, .goto 4, 3), (187, .iconst 0, 1), (188, .ireturn, 1), (189, .iload_n 3, 1), (190, .ifCond .ne 28, 3), (193, .iload 4, 2), (195, .ifCond .ne 23, 3), (198, .iload 5, 2), (200, .iconst 1, 1), (201, .if_icmp .lt 17, 3), (204, .aload_n 0, 1), (205, .iload 5, 2), (207, .invokevirtual 28, 3), (210, .iconst (-1), 1), (211, .if_icmp .eq 7, 3), (214, .iconst 1, 1), (215, .goto 4, 3), (218, .iconst 0, 1), (219, .ireturn, 1), (220, .iload 4, 2), (222, .ifCond .ne 25, 3), (225, .aload_n 0, 1), (226, .iload_n 3, 1), (227, .invokevirtual 31, 3), (230, .ifCond .eq 17, 3), (233, .aload_n 0, 1), (234, .iload_n 3, 1), (235, .invokevirtual 35, 3), (238, .iload 5, 2), (240, .if_icmp .gt 7, 3), (243, .iconst 1, 1), (244, .goto 4, 3), (247, .iconst 0, 1), (248, .ireturn, 1), (249, .iload_n 3, 1), (250, .ifCond .ne 21, 3), (253, .iload 4, 2), (255, .ifCond .ne 16, 3), (258, .aload_n 0, 1), (259, .invokevirtual 38, 3), (262, .iload 5, 2), (264, .if_icmp .gt 7, 3), (267, .iconst 1, 1), (268, .goto 4, 3), (271, .iconst 0, 1), (272, .ireturn, 1), (273, .iload_n 3, 1), (274, .iconst 4, 1), (275, .if_icmp .ge 23, 3), (278, .aload_n 0, 1), (279, .getfield 42, 3), (282, .getfield 46, 3), (285, .iload_n 3, 1), (286, .iaload, 1), (287, .iload_n 1, 1), (288, .bipush 100, 2), (290, .irem, 1), (291, .if_icmp .lt 7, 3), (294, .iconst 1, 1), (295, .goto 4, 3), (298, .iconst 0, 1), (299, .ireturn, 1), (300, .iconst 0, 1), (301, .ireturn, 1)]
set_option maxRecDepth 100000 in
theorem d_Sc_succeeds : decA cX5_succeeds I_Sc_succeeds = true := by decide +kernel
abbrev rm_Sc_succeeds : Room := ({ frames := 6, cells := 0, slots := 0, locals := 137 } : Room)
def m_Sc_succeeds (p0 : Nat) (p1 : Int32) (M : KMem) : Option (Int32 × KMem) :=
 if (p1 / 1000) = 1 then
 (Option.bind (α := Int32 × KMem) (if (jrem p1 10) = 0 then
 (if (jrem (p1 / 100) 10) = 1 then
 (some (0, M))
 else
 (Option.bind (m_Sc_isGiven p0 (jrem (p1 / 100) 10) (jrem (p1 / 10) 10) 0 0 M) fun (x18, M19) =>
 if x18 = 0 then
 (some (0, M19))
 else
 (some (1, M19))))
 else
 (some (0, M))) fun (t10, M11) =>
 Option.bind (kz t10) fun z13 =>
 some (z13, M11))
 else
 (if (p1 / 1000) = 2 then
 (Option.bind (m_Sc_isGiven p0 1 (jrem (p1 / 100) 10) (jrem (p1 / 10) 10) (jrem p1 10) M) fun (x23, M24) =>
 Option.bind (kz x23) fun z25 =>
 some (z25, M24))
 else
 (if (p1 / 1000) = 3 then
 (Option.bind (α := Int32 × KMem) (if (jrem (p1 / 10) 10) = 0 then
 (if (jrem p1 10) = 0 then
 (Option.bind (m_Tw_takeDecree p0 (jrem (p1 / 100) 10) M) fun (x36, M37) =>
 if x36 = 0 then
 (some (1, M37))
 else
 (some (0, M37)))
 else
 (some (0, M)))
 else
 (some (0, M))) fun (t28, M29) =>
 Option.bind (kz t28) fun z31 =>
 some (z31, M29))
 else
 (if (p1 / 1000) = 4 then
 (Option.bind (α := Int32 × KMem) (if (jrem (p1 / 10) 10) = 0 then
 (if (jrem p1 10) = 0 then
 (Option.bind (m_Tw_repaint p0 (jrem (p1 / 100) 10) M) fun (x48, M49) =>
 if x48 = (-1) then
 (some (0, M49))
 else
 (some (1, M49)))
 else
 (some (0, M)))
 else
 (some (0, M))) fun (t40, M41) =>
 Option.bind (kz t40) fun z43 =>
 some (z43, M41))
 else
 (if (p1 / 1000) = 5 then
 (Option.bind (α := Int32 × KMem) (if (jrem (p1 / 100) 10) = 0 then
 (Option.bind (m_Sc_monthsPass p0 (jrem p1 100) M) fun (x59, M60) =>
 if x59 = 0 then
 (some (0, M60))
 else
 (some (1, M60)))
 else
 (some (0, M))) fun (t52, M53) =>
 Option.bind (kz t52) fun z55 =>
 some (z55, M53))
 else
 (if (p1 / 1000) = 6 then
 (Option.bind (α := Int32 × KMem) (if (jrem (p1 / 100) 10) = 0 then
 (if (jrem (p1 / 10) 10) = 0 then
 (if (jrem p1 10) < 1 then
 (some (0, M))
 else
 (Option.bind (m_Tw_forgive p0 (jrem p1 10) M) fun (x72, M73) =>
 if x72 = (-1) then
 (some (0, M73))
 else
 (some (1, M73))))
 else
 (some (0, M)))
 else
 (some (0, M))) fun (t63, M64) =>
 Option.bind (kz t63) fun z66 =>
 some (z66, M64))
 else
 (if (p1 / 1000) = 7 then
 (Option.bind (α := Int32 × KMem) (if (jrem (p1 / 10) 10) = 0 then
 (Option.bind (m_Tw_hasSign p0 (jrem (p1 / 100) 10) M) fun x83 =>
 if x83 = 0 then
 (some (0, M))
 else
 (Option.bind (m_Tw_lettersWrong p0 (jrem (p1 / 100) 10) M) fun (x86, M87) =>
 if (jrem p1 10) < x86 then
 (some (0, M87))
 else
 (some (1, M87))))
 else
 (some (0, M))) fun (t76, M77) =>
 Option.bind (kz t76) fun z79 =>
 some (z79, M77))
 else
 (if (p1 / 1000) = 8 then
 (Option.bind (α := Int32) (if (jrem (p1 / 100) 10) = 0 then
 (if (jrem (p1 / 10) 10) = 0 then
 (Option.bind (m_Tw_wrongSigns p0 M) fun x97 =>
 if (jrem p1 10) < x97 then
 (some 0)
 else
 (some 1))
 else
 (some 0))
 else
 (some 0)) fun t90 =>
 Option.bind (kz t90) fun z92 =>
 some (z92, M))
 else
 (if (p1 / 1000) = 9 then
 (Option.bind (α := Int32) (if 4 ≤ (jrem (p1 / 100) 10) then
 (some 0)
 else
 (Option.bind (rdI M (p0 + 10) 4 (jrem (p1 / 100) 10)) fun x106 =>
 if x106 < (jrem p1 100) then
 (some 0)
 else
 (some 1))) fun t100 =>
 Option.bind (kz t100) fun z102 =>
 some (z102, M))
 else
 (Option.bind (kz 0) fun z109 =>
 some (z109, M))))))))))
set_option maxHeartbeats 4000000 in
set_option maxRecDepth 100000 in
theorem b_Sc_succeeds {X : KX} {B : KB} {L : KLay} {M : KMem} {p0 : Nat} {p1 : Int32} (G : Good X B RX5 cX5_succeeds 6 rm_Sc_succeeds) (hx : B.2.2.2 = false) (hp0 : okL L p0 twT) (h : kOk (m_Sc_succeeds p0 p1 M) (fun r => RI X B L 6 cX5_succeeds .boolean rm_Sc_succeeds r.1 r.2)) : KK X B L 6 0 0 M 0 [(0, .ref (B.1 + p0)), (1, .int p1)] [] := by
  unfold m_Sc_succeeds at h
  refine k_iload_n G (dc d_Sc_succeeds 0 rfl) 1 rfl rfl ?_
  refine k_sipush G (dc d_Sc_succeeds 1 rfl) cS_1000 ?_
  refine k_idiv G (dc d_Sc_succeeds 2 rfl) czI_1000 ?_
  refine k_istore_n G (dc d_Sc_succeeds 3 rfl) (ls' := [(2, .int (p1 / 1000)), (0, .ref (B.1 + p0)), (1, .int p1)]) rfl rfl rfl ?_
  refine k_iload_n G (dc d_Sc_succeeds 4 rfl) 2 rfl rfl ?_
  refine k_bipush G (dc d_Sc_succeeds 5 rfl) cB_100 ?_
  refine k_idiv G (dc d_Sc_succeeds 6 rfl) czI_100 ?_
  refine k_bipush G (dc d_Sc_succeeds 7 rfl) cB_10 ?_
  refine k_irem G (dc d_Sc_succeeds 8 rfl) czI_10 ?_
  refine k_istore_n G (dc d_Sc_succeeds 9 rfl) (ls' := [(3, .int (jrem (p1 / 100) 10)), (2, .int (p1 / 1000)), (0, .ref (B.1 + p0)), (1, .int p1)]) rfl rfl rfl ?_
  refine k_iload_n G (dc d_Sc_succeeds 10 rfl) 3 rfl rfl ?_
  refine k_bipush G (dc d_Sc_succeeds 11 rfl) cB_10 ?_
  refine k_idiv G (dc d_Sc_succeeds 12 rfl) czI_10 ?_
  refine k_bipush G (dc d_Sc_succeeds 13 rfl) cB_10 ?_
  refine k_irem G (dc d_Sc_succeeds 14 rfl) czI_10 ?_
  refine k_istore G (dc d_Sc_succeeds 15 rfl) (ls' := [(4, .int (jrem (p1 / 10) 10)), (3, .int (jrem (p1 / 100) 10)), (2, .int (p1 / 1000)), (0, .ref (B.1 + p0)), (1, .int p1)]) rfl rfl ?_
  refine k_iload_n G (dc d_Sc_succeeds 16 rfl) 4 rfl rfl ?_
  refine k_bipush G (dc d_Sc_succeeds 17 rfl) cB_10 ?_
  refine k_irem G (dc d_Sc_succeeds 18 rfl) czI_10 ?_
  refine k_istore G (dc d_Sc_succeeds 19 rfl) (ls' := [(5, .int (jrem p1 10)), (4, .int (jrem (p1 / 10) 10)), (3, .int (jrem (p1 / 100) 10)), (2, .int (p1 / 1000)), (0, .ref (B.1 + p0)), (1, .int p1)]) rfl rfl ?_
  refine k_iload_n G (dc d_Sc_succeeds 20 rfl) 3 rfl rfl ?_
  by_cases c1 : (p1 / 1000) = 1
  · replace h := kOk_p c1 h
    refine k_tsI G (dc d_Sc_succeeds 21 rfl) (off := 50) (tgt := 80) c1 (by decide) (by decide) (by decide) (by decide) ?_
    refine k_iload G (dc d_Sc_succeeds 22 rfl) 0 rfl ?_
    refine kJ h (fun r12 => KK X B L 6 0 0 r12.2 107 [] [.int r12.1]) (fun r12 h => ?_) (fun h => ?_)
    · obtain ⟨t10, M11⟩ := r12
      show KK X B L 6 0 0 M11 107 [] [.int t10]
      obtain ⟨z13, e14, h⟩ := kOk_b h
      obtain ⟨e14, nz13, -⟩ := kz_ok e14
      rw [e14]
      exact (kOk_s h) _ _ _ _ rfl rfl nz13 (dc d_Sc_succeeds 37 rfl)
    · refine k_if_ne G (dc d_Sc_succeeds 23 rfl) (tgt := 106) rfl (fun c15 => ?_) (fun c15 => ?_)
      · replace h := kOk_n c15 h
        refine k_iconst G (dc d_Sc_succeeds 36 rfl) cI_0 ?_
        refine k_sub [] rfl ?_
        have h9 := kOk_s h
        exact h9
      · replace h := kOk_p c15 h
        refine k_iload_n G (dc d_Sc_succeeds 24 rfl) 2 rfl rfl ?_
        refine k_iconst G (dc d_Sc_succeeds 25 rfl) cI_1 ?_
        refine k_icmp_eq G (dc d_Sc_succeeds 26 rfl) (tgt := 106) rfl (fun c16 => ?_) (fun c16 => ?_)
        · replace h := kOk_p c16 h
          refine k_iconst G (dc d_Sc_succeeds 36 rfl) cI_0 ?_
          refine k_sub [] rfl ?_
          have h9 := kOk_s h
          exact h9
        · replace h := kOk_n c16 h
          refine k_aload_n G (dc d_Sc_succeeds 27 rfl) 4 rfl rfl ?_
          refine k_iload_n G (dc d_Sc_succeeds 28 rfl) 2 rfl rfl ?_
          refine k_iload G (dc d_Sc_succeeds 29 rfl) 1 rfl ?_
          refine k_iconst G (dc d_Sc_succeeds 30 rfl) cI_0 ?_
          refine k_iconst G (dc d_Sc_succeeds 31 rfl) cI_0 ?_
          obtain ⟨⟨x18, M19⟩, e17, h⟩ := kOk_b h
          refine k_cSI G (dc d_Sc_succeeds 32 rfl) mi_Sc_isGiven ms_Sc_isGiven ml_RX5_9 (c_Sc_isGiven (gst G) hx hp0 e17) rfl rfl ⟨rfl, rfl⟩ rfl ⟨rfl, rfl⟩ ⟨rfl, rfl⟩ ?_
          refine k_if_eq G (dc d_Sc_succeeds 33 rfl) (tgt := 106) rfl (fun c20 => ?_) (fun c20 => ?_)
          · replace h := kOk_p c20 h
            refine k_iconst G (dc d_Sc_succeeds 36 rfl) cI_0 ?_
            refine k_sub [] rfl ?_
            have h9 := kOk_s h
            exact h9
          · replace h := kOk_n c20 h
            refine k_iconst G (dc d_Sc_succeeds 34 rfl) cI_1 ?_
            refine k_goto G (dc d_Sc_succeeds 35 rfl) (tgt := 107) rfl ?_
            refine k_sub [] rfl ?_
            have h9 := kOk_s h
            exact h9
  · replace h := kOk_n c1 h
    by_cases c2 : (p1 / 1000) = 2
    · replace h := kOk_p c2 h
      refine k_tsI G (dc d_Sc_succeeds 21 rfl) (off := 78) (tgt := 108) c2 (by decide) (by decide) (by decide) (by decide) ?_
      refine k_aload_n G (dc d_Sc_succeeds 38 rfl) 4 rfl rfl ?_
      refine k_iconst G (dc d_Sc_succeeds 39 rfl) cI_1 ?_
      refine k_iload_n G (dc d_Sc_succeeds 40 rfl) 2 rfl rfl ?_
      refine k_iload G (dc d_Sc_succeeds 41 rfl) 1 rfl ?_
      refine k_iload G (dc d_Sc_succeeds 42 rfl) 0 rfl ?_
      obtain ⟨⟨x23, M24⟩, e22, h⟩ := kOk_b h
      refine k_cSI G (dc d_Sc_succeeds 43 rfl) mi_Sc_isGiven ms_Sc_isGiven ml_RX5_9 (c_Sc_isGiven (gst G) hx hp0 e22) rfl rfl ⟨rfl, rfl⟩ rfl ⟨rfl, rfl⟩ ⟨rfl, rfl⟩ ?_
      obtain ⟨z25, e26, h⟩ := kOk_b h
      obtain ⟨e26, nz25, -⟩ := kz_ok e26
      rw [e26]
      exact (kOk_s h) _ _ _ _ rfl rfl nz25 (dc d_Sc_succeeds 44 rfl)
    · replace h := kOk_n c2 h
      by_cases c3 : (p1 / 1000) = 3
      · replace h := kOk_p c3 h
        refine k_tsI G (dc d_Sc_succeeds 21 rfl) (off := 89) (tgt := 119) c3 (by decide) (by decide) (by decide) (by decide) ?_
        refine k_iload G (dc d_Sc_succeeds 45 rfl) 1 rfl ?_
        refine kJ h (fun r30 => KK X B L 6 0 0 r30.2 142 [] [.int r30.1]) (fun r30 h => ?_) (fun h => ?_)
        · obtain ⟨t28, M29⟩ := r30
          show KK X B L 6 0 0 M29 142 [] [.int t28]
          obtain ⟨z31, e32, h⟩ := kOk_b h
          obtain ⟨e32, nz31, -⟩ := kz_ok e32
          rw [e32]
          exact (kOk_s h) _ _ _ _ rfl rfl nz31 (dc d_Sc_succeeds 56 rfl)
        · refine k_if_ne G (dc d_Sc_succeeds 46 rfl) (tgt := 141) rfl (fun c33 => ?_) (fun c33 => ?_)
          · replace h := kOk_n c33 h
            refine k_iconst G (dc d_Sc_succeeds 55 rfl) cI_0 ?_
            refine k_sub [] rfl ?_
            have h9 := kOk_s h
            exact h9
          · replace h := kOk_p c33 h
            refine k_iload G (dc d_Sc_succeeds 47 rfl) 0 rfl ?_
            refine k_if_ne G (dc d_Sc_succeeds 48 rfl) (tgt := 141) rfl (fun c34 => ?_) (fun c34 => ?_)
            · replace h := kOk_n c34 h
              refine k_iconst G (dc d_Sc_succeeds 55 rfl) cI_0 ?_
              refine k_sub [] rfl ?_
              have h9 := kOk_s h
              exact h9
            · replace h := kOk_p c34 h
              refine k_aload_n G (dc d_Sc_succeeds 49 rfl) 4 rfl rfl ?_
              refine k_iload_n G (dc d_Sc_succeeds 50 rfl) 2 rfl rfl ?_
              obtain ⟨⟨x36, M37⟩, e35, h⟩ := kOk_b h
              refine k_cVI G (dc d_Sc_succeeds 51 rfl) kc6 (okL_lt hp0 (o := 0) 0 rfl) (okL_k hp0 (o := 0) 0 rfl) mi_Tw_takeDecree mv_Tw_takeDecree rfl ml_RX5_15 (c_Tw_takeDecree (gst G) hx hp0 e35) rfl rfl ⟨rfl, rfl⟩ rfl ⟨rfl, rfl⟩ ⟨rfl, rfl⟩ ?_
              refine k_if_ne G (dc d_Sc_succeeds 52 rfl) (tgt := 141) rfl (fun c38 => ?_) (fun c38 => ?_)
              · replace h := kOk_n c38 h
                refine k_iconst G (dc d_Sc_succeeds 55 rfl) cI_0 ?_
                refine k_sub [] rfl ?_
                have h9 := kOk_s h
                exact h9
              · replace h := kOk_p c38 h
                refine k_iconst G (dc d_Sc_succeeds 53 rfl) cI_1 ?_
                refine k_goto G (dc d_Sc_succeeds 54 rfl) (tgt := 142) rfl ?_
                refine k_sub [] rfl ?_
                have h9 := kOk_s h
                exact h9
      · replace h := kOk_n c3 h
        by_cases c4 : (p1 / 1000) = 4
        · replace h := kOk_p c4 h
          refine k_tsI G (dc d_Sc_succeeds 21 rfl) (off := 113) (tgt := 143) c4 (by decide) (by decide) (by decide) (by decide) ?_
          refine k_iload G (dc d_Sc_succeeds 57 rfl) 1 rfl ?_
          refine kJ h (fun r42 => KK X B L 6 0 0 r42.2 167 [] [.int r42.1]) (fun r42 h => ?_) (fun h => ?_)
          · obtain ⟨t40, M41⟩ := r42
            show KK X B L 6 0 0 M41 167 [] [.int t40]
            obtain ⟨z43, e44, h⟩ := kOk_b h
            obtain ⟨e44, nz43, -⟩ := kz_ok e44
            rw [e44]
            exact (kOk_s h) _ _ _ _ rfl rfl nz43 (dc d_Sc_succeeds 69 rfl)
          · refine k_if_ne G (dc d_Sc_succeeds 58 rfl) (tgt := 166) rfl (fun c45 => ?_) (fun c45 => ?_)
            · replace h := kOk_n c45 h
              refine k_iconst G (dc d_Sc_succeeds 68 rfl) cI_0 ?_
              refine k_sub [] rfl ?_
              have h9 := kOk_s h
              exact h9
            · replace h := kOk_p c45 h
              refine k_iload G (dc d_Sc_succeeds 59 rfl) 0 rfl ?_
              refine k_if_ne G (dc d_Sc_succeeds 60 rfl) (tgt := 166) rfl (fun c46 => ?_) (fun c46 => ?_)
              · replace h := kOk_n c46 h
                refine k_iconst G (dc d_Sc_succeeds 68 rfl) cI_0 ?_
                refine k_sub [] rfl ?_
                have h9 := kOk_s h
                exact h9
              · replace h := kOk_p c46 h
                refine k_aload_n G (dc d_Sc_succeeds 61 rfl) 4 rfl rfl ?_
                refine k_iload_n G (dc d_Sc_succeeds 62 rfl) 2 rfl rfl ?_
                obtain ⟨⟨x48, M49⟩, e47, h⟩ := kOk_b h
                refine k_cVI G (dc d_Sc_succeeds 63 rfl) kc6 (okL_lt hp0 (o := 0) 0 rfl) (okL_k hp0 (o := 0) 0 rfl) mi_Tw_repaint mv_Tw_repaint rfl ml_RX5_21 (c_Tw_repaint (gst G) hp0 e47) rfl rfl ⟨rfl, rfl⟩ rfl ⟨rfl, rfl⟩ ⟨rfl, rfl⟩ ?_
                refine k_iconst G (dc d_Sc_succeeds 64 rfl) cI_m1 ?_
                refine k_icmp_eq G (dc d_Sc_succeeds 65 rfl) (tgt := 166) rfl (fun c50 => ?_) (fun c50 => ?_)
                · replace h := kOk_p c50 h
                  refine k_iconst G (dc d_Sc_succeeds 68 rfl) cI_0 ?_
                  refine k_sub [] rfl ?_
                  have h9 := kOk_s h
                  exact h9
                · replace h := kOk_n c50 h
                  refine k_iconst G (dc d_Sc_succeeds 66 rfl) cI_1 ?_
                  refine k_goto G (dc d_Sc_succeeds 67 rfl) (tgt := 167) rfl ?_
                  refine k_sub [] rfl ?_
                  have h9 := kOk_s h
                  exact h9
        · replace h := kOk_n c4 h
          by_cases c5 : (p1 / 1000) = 5
          · replace h := kOk_p c5 h
            refine k_tsI G (dc d_Sc_succeeds 21 rfl) (off := 138) (tgt := 168) c5 (by decide) (by decide) (by decide) (by decide) ?_
            refine k_iload_n G (dc d_Sc_succeeds 70 rfl) 2 rfl rfl ?_
            refine kJ h (fun r54 => KK X B L 6 0 0 r54.2 188 [] [.int r54.1]) (fun r54 h => ?_) (fun h => ?_)
            · obtain ⟨t52, M53⟩ := r54
              show KK X B L 6 0 0 M53 188 [] [.int t52]
              obtain ⟨z55, e56, h⟩ := kOk_b h
              obtain ⟨e56, nz55, -⟩ := kz_ok e56
              rw [e56]
              exact (kOk_s h) _ _ _ _ rfl rfl nz55 (dc d_Sc_succeeds 81 rfl)
            · refine k_if_ne G (dc d_Sc_succeeds 71 rfl) (tgt := 187) rfl (fun c57 => ?_) (fun c57 => ?_)
              · replace h := kOk_n c57 h
                refine k_iconst G (dc d_Sc_succeeds 80 rfl) cI_0 ?_
                refine k_sub [] rfl ?_
                have h9 := kOk_s h
                exact h9
              · replace h := kOk_p c57 h
                refine k_aload_n G (dc d_Sc_succeeds 72 rfl) 4 rfl rfl ?_
                refine k_iload_n G (dc d_Sc_succeeds 73 rfl) 5 rfl rfl ?_
                refine k_bipush G (dc d_Sc_succeeds 74 rfl) cB_100 ?_
                refine k_irem G (dc d_Sc_succeeds 75 rfl) czI_100 ?_
                obtain ⟨⟨x59, M60⟩, e58, h⟩ := kOk_b h
                refine k_cSI G (dc d_Sc_succeeds 76 rfl) mi_Sc_monthsPass ms_Sc_monthsPass ml_RX5_24 (c_Sc_monthsPass (gst G) hp0 e58) rfl rfl ⟨rfl, rfl⟩ rfl ⟨rfl, rfl⟩ ⟨rfl, rfl⟩ ?_
                refine k_if_eq G (dc d_Sc_succeeds 77 rfl) (tgt := 187) rfl (fun c61 => ?_) (fun c61 => ?_)
                · replace h := kOk_p c61 h
                  refine k_iconst G (dc d_Sc_succeeds 80 rfl) cI_0 ?_
                  refine k_sub [] rfl ?_
                  have h9 := kOk_s h
                  exact h9
                · replace h := kOk_n c61 h
                  refine k_iconst G (dc d_Sc_succeeds 78 rfl) cI_1 ?_
                  refine k_goto G (dc d_Sc_succeeds 79 rfl) (tgt := 188) rfl ?_
                  refine k_sub [] rfl ?_
                  have h9 := kOk_s h
                  exact h9
          · replace h := kOk_n c5 h
            by_cases c6 : (p1 / 1000) = 6
            · replace h := kOk_p c6 h
              refine k_tsI G (dc d_Sc_succeeds 21 rfl) (off := 159) (tgt := 189) c6 (by decide) (by decide) (by decide) (by decide) ?_
              refine k_iload_n G (dc d_Sc_succeeds 82 rfl) 2 rfl rfl ?_
              refine kJ h (fun r65 => KK X B L 6 0 0 r65.2 219 [] [.int r65.1]) (fun r65 h => ?_) (fun h => ?_)
              · obtain ⟨t63, M64⟩ := r65
                show KK X B L 6 0 0 M64 219 [] [.int t63]
                obtain ⟨z66, e67, h⟩ := kOk_b h
                obtain ⟨e67, nz66, -⟩ := kz_ok e67
                rw [e67]
                exact (kOk_s h) _ _ _ _ rfl rfl nz66 (dc d_Sc_succeeds 97 rfl)
              · refine k_if_ne G (dc d_Sc_succeeds 83 rfl) (tgt := 218) rfl (fun c68 => ?_) (fun c68 => ?_)
                · replace h := kOk_n c68 h
                  refine k_iconst G (dc d_Sc_succeeds 96 rfl) cI_0 ?_
                  refine k_sub [] rfl ?_
                  have h9 := kOk_s h
                  exact h9
                · replace h := kOk_p c68 h
                  refine k_iload G (dc d_Sc_succeeds 84 rfl) 1 rfl ?_
                  refine k_if_ne G (dc d_Sc_succeeds 85 rfl) (tgt := 218) rfl (fun c69 => ?_) (fun c69 => ?_)
                  · replace h := kOk_n c69 h
                    refine k_iconst G (dc d_Sc_succeeds 96 rfl) cI_0 ?_
                    refine k_sub [] rfl ?_
                    have h9 := kOk_s h
                    exact h9
                  · replace h := kOk_p c69 h
                    refine k_iload G (dc d_Sc_succeeds 86 rfl) 0 rfl ?_
                    refine k_iconst G (dc d_Sc_succeeds 87 rfl) cI_1 ?_
                    refine k_icmp_lt G (dc d_Sc_succeeds 88 rfl) (tgt := 218) rfl (fun c70 => ?_) (fun c70 => ?_)
                    · replace h := kOk_p c70 h
                      refine k_iconst G (dc d_Sc_succeeds 96 rfl) cI_0 ?_
                      refine k_sub [] rfl ?_
                      have h9 := kOk_s h
                      exact h9
                    · replace h := kOk_n c70 h
                      refine k_aload_n G (dc d_Sc_succeeds 89 rfl) 4 rfl rfl ?_
                      refine k_iload G (dc d_Sc_succeeds 90 rfl) 0 rfl ?_
                      obtain ⟨⟨x72, M73⟩, e71, h⟩ := kOk_b h
                      refine k_cVI G (dc d_Sc_succeeds 91 rfl) kc6 (okL_lt hp0 (o := 0) 0 rfl) (okL_k hp0 (o := 0) 0 rfl) mi_Tw_forgive mv_Tw_forgive rfl ml_RX5_28 (c_Tw_forgive (gst G) hp0 e71) rfl rfl ⟨rfl, rfl⟩ rfl ⟨rfl, rfl⟩ ⟨rfl, rfl⟩ ?_
                      refine k_iconst G (dc d_Sc_succeeds 92 rfl) cI_m1 ?_
                      refine k_icmp_eq G (dc d_Sc_succeeds 93 rfl) (tgt := 218) rfl (fun c74 => ?_) (fun c74 => ?_)
                      · replace h := kOk_p c74 h
                        refine k_iconst G (dc d_Sc_succeeds 96 rfl) cI_0 ?_
                        refine k_sub [] rfl ?_
                        have h9 := kOk_s h
                        exact h9
                      · replace h := kOk_n c74 h
                        refine k_iconst G (dc d_Sc_succeeds 94 rfl) cI_1 ?_
                        refine k_goto G (dc d_Sc_succeeds 95 rfl) (tgt := 219) rfl ?_
                        refine k_sub [] rfl ?_
                        have h9 := kOk_s h
                        exact h9
            · replace h := kOk_n c6 h
              by_cases c7 : (p1 / 1000) = 7
              · replace h := kOk_p c7 h
                refine k_tsI G (dc d_Sc_succeeds 21 rfl) (off := 190) (tgt := 220) c7 (by decide) (by decide) (by decide) (by decide) ?_
                refine k_iload G (dc d_Sc_succeeds 98 rfl) 1 rfl ?_
                refine kJ h (fun r78 => KK X B L 6 0 0 r78.2 248 [] [.int r78.1]) (fun r78 h => ?_) (fun h => ?_)
                · obtain ⟨t76, M77⟩ := r78
                  show KK X B L 6 0 0 M77 248 [] [.int t76]
                  obtain ⟨z79, e80, h⟩ := kOk_b h
                  obtain ⟨e80, nz79, -⟩ := kz_ok e80
                  rw [e80]
                  exact (kOk_s h) _ _ _ _ rfl rfl nz79 (dc d_Sc_succeeds 112 rfl)
                · refine k_if_ne G (dc d_Sc_succeeds 99 rfl) (tgt := 247) rfl (fun c81 => ?_) (fun c81 => ?_)
                  · replace h := kOk_n c81 h
                    refine k_iconst G (dc d_Sc_succeeds 111 rfl) cI_0 ?_
                    refine k_sub [] rfl ?_
                    have h9 := kOk_s h
                    exact h9
                  · replace h := kOk_p c81 h
                    refine k_aload_n G (dc d_Sc_succeeds 100 rfl) 4 rfl rfl ?_
                    refine k_iload_n G (dc d_Sc_succeeds 101 rfl) 2 rfl rfl ?_
                    obtain ⟨x83, e82, h⟩ := kOk_b h
                    refine k_cVI G (dc d_Sc_succeeds 102 rfl) kc6 (okL_lt hp0 (o := 0) 0 rfl) (okL_k hp0 (o := 0) 0 rfl) mi_Tw_hasSign mv_Tw_hasSign rfl ml_RX5_31 (c_Tw_hasSign (gst G) hp0 e82) rfl rfl ⟨rfl, rfl⟩ rfl ⟨rfl, rfl⟩ ⟨rfl, rfl⟩ ?_
                    refine k_if_eq G (dc d_Sc_succeeds 103 rfl) (tgt := 247) rfl (fun c84 => ?_) (fun c84 => ?_)
                    · replace h := kOk_p c84 h
                      refine k_iconst G (dc d_Sc_succeeds 111 rfl) cI_0 ?_
                      refine k_sub [] rfl ?_
                      have h9 := kOk_s h
                      exact h9
                    · replace h := kOk_n c84 h
                      refine k_aload_n G (dc d_Sc_succeeds 104 rfl) 4 rfl rfl ?_
                      refine k_iload_n G (dc d_Sc_succeeds 105 rfl) 2 rfl rfl ?_
                      obtain ⟨⟨x86, M87⟩, e85, h⟩ := kOk_b h
                      refine k_cVI G (dc d_Sc_succeeds 106 rfl) kc6 (okL_lt hp0 (o := 0) 0 rfl) (okL_k hp0 (o := 0) 0 rfl) mi_Tw_lettersWrong mv_Tw_lettersWrong rfl ml_RX5_35 (c_Tw_lettersWrong (gst G) hp0 e85) rfl rfl ⟨rfl, rfl⟩ rfl ⟨rfl, rfl⟩ ⟨rfl, rfl⟩ ?_
                      refine k_iload G (dc d_Sc_succeeds 107 rfl) 0 rfl ?_
                      refine k_icmp_gt G (dc d_Sc_succeeds 108 rfl) (tgt := 247) rfl (fun c88 => ?_) (fun c88 => ?_)
                      · replace h := kOk_p c88 h
                        refine k_iconst G (dc d_Sc_succeeds 111 rfl) cI_0 ?_
                        refine k_sub [] rfl ?_
                        have h9 := kOk_s h
                        exact h9
                      · replace h := kOk_n c88 h
                        refine k_iconst G (dc d_Sc_succeeds 109 rfl) cI_1 ?_
                        refine k_goto G (dc d_Sc_succeeds 110 rfl) (tgt := 248) rfl ?_
                        refine k_sub [] rfl ?_
                        have h9 := kOk_s h
                        exact h9
              · replace h := kOk_n c7 h
                by_cases c8 : (p1 / 1000) = 8
                · replace h := kOk_p c8 h
                  refine k_tsI G (dc d_Sc_succeeds 21 rfl) (off := 219) (tgt := 249) c8 (by decide) (by decide) (by decide) (by decide) ?_
                  refine k_iload_n G (dc d_Sc_succeeds 113 rfl) 2 rfl rfl ?_
                  refine kJ h (fun r91 => KK X B L 6 0 0 M 272 [] [.int r91]) (fun r91 h => ?_) (fun h => ?_)
                  · obtain ⟨t90, rfl⟩ : ∃ z, z = r91 := ⟨_, rfl⟩
                    show KK X B L 6 0 0 M 272 [] [.int t90]
                    obtain ⟨z92, e93, h⟩ := kOk_b h
                    obtain ⟨e93, nz92, -⟩ := kz_ok e93
                    rw [e93]
                    exact (kOk_s h) _ _ _ _ rfl rfl nz92 (dc d_Sc_succeeds 124 rfl)
                  · refine k_if_ne G (dc d_Sc_succeeds 114 rfl) (tgt := 271) rfl (fun c94 => ?_) (fun c94 => ?_)
                    · replace h := kOk_n c94 h
                      refine k_iconst G (dc d_Sc_succeeds 123 rfl) cI_0 ?_
                      refine k_sub [] rfl ?_
                      have h9 := kOk_s h
                      exact h9
                    · replace h := kOk_p c94 h
                      refine k_iload G (dc d_Sc_succeeds 115 rfl) 1 rfl ?_
                      refine k_if_ne G (dc d_Sc_succeeds 116 rfl) (tgt := 271) rfl (fun c95 => ?_) (fun c95 => ?_)
                      · replace h := kOk_n c95 h
                        refine k_iconst G (dc d_Sc_succeeds 123 rfl) cI_0 ?_
                        refine k_sub [] rfl ?_
                        have h9 := kOk_s h
                        exact h9
                      · replace h := kOk_p c95 h
                        refine k_aload_n G (dc d_Sc_succeeds 117 rfl) 4 rfl rfl ?_
                        obtain ⟨x97, e96, h⟩ := kOk_b h
                        refine k_cVI G (dc d_Sc_succeeds 118 rfl) kc6 (okL_lt hp0 (o := 0) 0 rfl) (okL_k hp0 (o := 0) 0 rfl) mi_Tw_wrongSigns mv_Tw_wrongSigns rfl ml_RX5_38 (c_Tw_wrongSigns (gst G) hp0 e96) rfl rfl ⟨rfl, rfl⟩ rfl ⟨rfl, rfl⟩ ⟨rfl, rfl⟩ ?_
                        refine k_iload G (dc d_Sc_succeeds 119 rfl) 0 rfl ?_
                        refine k_icmp_gt G (dc d_Sc_succeeds 120 rfl) (tgt := 271) rfl (fun c98 => ?_) (fun c98 => ?_)
                        · replace h := kOk_p c98 h
                          refine k_iconst G (dc d_Sc_succeeds 123 rfl) cI_0 ?_
                          refine k_sub [] rfl ?_
                          have h9 := kOk_s h
                          exact h9
                        · replace h := kOk_n c98 h
                          refine k_iconst G (dc d_Sc_succeeds 121 rfl) cI_1 ?_
                          refine k_goto G (dc d_Sc_succeeds 122 rfl) (tgt := 272) rfl ?_
                          refine k_sub [] rfl ?_
                          have h9 := kOk_s h
                          exact h9
                · replace h := kOk_n c8 h
                  by_cases c9 : (p1 / 1000) = 9
                  · replace h := kOk_p c9 h
                    refine k_tsI G (dc d_Sc_succeeds 21 rfl) (off := 243) (tgt := 273) c9 (by decide) (by decide) (by decide) (by decide) ?_
                    refine k_iload_n G (dc d_Sc_succeeds 125 rfl) 2 rfl rfl ?_
                    refine k_iconst G (dc d_Sc_succeeds 126 rfl) cI_4 ?_
                    refine kJ h (fun r101 => KK X B L 6 0 0 M 299 [] [.int r101]) (fun r101 h => ?_) (fun h => ?_)
                    · obtain ⟨t100, rfl⟩ : ∃ z, z = r101 := ⟨_, rfl⟩
                      show KK X B L 6 0 0 M 299 [] [.int t100]
                      obtain ⟨z102, e103, h⟩ := kOk_b h
                      obtain ⟨e103, nz102, -⟩ := kz_ok e103
                      rw [e103]
                      exact (kOk_s h) _ _ _ _ rfl rfl nz102 (dc d_Sc_succeeds 140 rfl)
                    · refine k_icmp_ge G (dc d_Sc_succeeds 127 rfl) (tgt := 298) rfl (fun c104 => ?_) (fun c104 => ?_)
                      · replace h := kOk_p c104 h
                        refine k_iconst G (dc d_Sc_succeeds 139 rfl) cI_0 ?_
                        refine k_sub [] rfl ?_
                        have h9 := kOk_s h
                        exact h9
                      · replace h := kOk_n c104 h
                        refine k_aload_n G (dc d_Sc_succeeds 128 rfl) 4 rfl rfl ?_
                        refine k_getR G kc6 (dc d_Sc_succeeds 129 rfl) (okL_lt hp0 (o := 0) 0 rfl) (okL_k hp0 (o := 0) 0 rfl) 0 (by decide) rfl fl_RX5_42 (p0 + 1) (okL_r hp0 (o := 0) (c := 1) 0 rfl 0 rfl) ?_
                        refine k_getR G kc5 (dc d_Sc_succeeds 130 rfl) (okL_lt hp0 (o := 1) 1 rfl) (okL_k hp0 (o := 1) 1 rfl) 8 (by decide) rfl fl_RX5_46 (p0 + 10) (okL_r hp0 (o := 1) (c := 10) 1 rfl 7 rfl) ?_
                        refine k_iload_n G (dc d_Sc_succeeds 131 rfl) 2 rfl rfl ?_
                        obtain ⟨x106, e105, h⟩ := kOk_b h
                        refine k_ild G (dc d_Sc_succeeds 132 rfl) (okL_lt hp0 (o := 10) 10 rfl) (okL_k hp0 (o := 10) 10 rfl) (okL_n hp0 (o := 10) 10 rfl) e105 ?_
                        refine k_iload_n G (dc d_Sc_succeeds 133 rfl) 5 rfl rfl ?_
                        refine k_bipush G (dc d_Sc_succeeds 134 rfl) cB_100 ?_
                        refine k_irem G (dc d_Sc_succeeds 135 rfl) czI_100 ?_
                        refine k_icmp_lt G (dc d_Sc_succeeds 136 rfl) (tgt := 298) rfl (fun c107 => ?_) (fun c107 => ?_)
                        · replace h := kOk_p c107 h
                          refine k_iconst G (dc d_Sc_succeeds 139 rfl) cI_0 ?_
                          refine k_sub [] rfl ?_
                          have h9 := kOk_s h
                          exact h9
                        · replace h := kOk_n c107 h
                          refine k_iconst G (dc d_Sc_succeeds 137 rfl) cI_1 ?_
                          refine k_goto G (dc d_Sc_succeeds 138 rfl) (tgt := 299) rfl ?_
                          refine k_sub [] rfl ?_
                          have h9 := kOk_s h
                          exact h9
                  · replace h := kOk_n c9 h
                    have hD111 : KK X B L 6 0 0 M 300 [(5, .int (jrem p1 10)), (4, .int (jrem (p1 / 10) 10)), (3, .int (jrem (p1 / 100) 10)), (2, .int (p1 / 1000)), (0, .ref (B.1 + p0)), (1, .int p1)] [] := by
                      refine k_iconst G (dc d_Sc_succeeds 141 rfl) cI_0 ?_
                      obtain ⟨z109, e110, h⟩ := kOk_b h
                      obtain ⟨e110, nz109, -⟩ := kz_ok e110
                      rw [e110]
                      exact (kOk_s h) _ _ _ _ rfl rfl nz109 (dc d_Sc_succeeds 142 rfl)
                    rcases ts_out (p1 / 1000) 1 9 with ho | ⟨k9, h91, h92, h93⟩
                    · exact k_tableOut G (dc d_Sc_succeeds 21 rfl) (tgt := 300) ho rfl hD111
                    · have h94 : k9 = 1 ∨ k9 = 2 ∨ k9 = 3 ∨ k9 = 4 ∨ k9 = 5 ∨ k9 = 6 ∨ k9 = 7 ∨ k9 = 8 ∨ k9 = 9 := by omega
                      rcases h94 with rfl | rfl | rfl | rfl | rfl | rfl | rfl | rfl | rfl
                      · exact absurd (h93.trans cI_1) c1
                      · exact absurd (h93.trans cI_2) c2
                      · exact absurd (h93.trans cI_3) c3
                      · exact absurd (h93.trans cI_4) c4
                      · exact absurd (h93.trans cI_5) c5
                      · exact absurd (h93.trans cI_6) c6
                      · exact absurd (h93.trans cI_7) c7
                      · exact absurd (h93.trans cI_8) c8
                      · exact absurd (h93.trans cI_9) c9
theorem c_Sc_succeeds {l : Launch} {B : KB} {L : KLay} {M : KMem} {p0 : Nat} {p1 : Int32} (hst : l.stackTraces = false) (hx : B.2.2.2 = false) (hp0 : okL L p0 twT) {r : Int32} {M' : KMem} (e : m_Sc_succeeds p0 p1 M = some (r, M')) : CtrN l B yX5_succeeds cX5_succeeds 6 (some .boolean) rm_Sc_succeeds [.ref (B.1 + p0), .int p1] L M (some (.int r)) L M' :=
  mk_I rfl hst rfl (fun X hl G _ R => b_Sc_succeeds G hx hp0 ⟨_, e, R⟩)
