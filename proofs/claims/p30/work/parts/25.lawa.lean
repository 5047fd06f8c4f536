/-! laid by wip/p30/g30.py: La_low, La_word, La_act, La_areAlike, La_letters -/
def I_La_low : List (Nat × Instr × Nat) := [(0, .iload_n 0, 1), (1, .ldc 7, 2), (3, .iand, 1), (4, .iload_n 1, 1), (5, .irem, 1), (6, .ireturn, 1)]
set_option maxRecDepth 100000 in
theorem d_La_low : decA cL_low I_La_low = true := by decide +kernel
abbrev rm_La_low : Room := ({ frames := 0, cells := 0, slots := 0, locals := 0 } : Room)
def m_La_low (p0 : Int32) (p1 : Int32) : Option Int32 :=
 Option.bind (rmI (p0 &&& 2147483647) p1) fun x2 =>
 some x2
set_option maxHeartbeats 4000000 in
set_option maxRecDepth 100000 in
theorem b_La_low {X : KX} {B : KB} {L : KLay} {M : KMem} {p0 : Int32} {p1 : Int32} (G : Good X B RL cL_low 2 rm_La_low)  (h : kOk (m_La_low p0 p1) (fun r => RI X B L 2 cL_low .int rm_La_low r M)) : KK X B L 2 0 0 M 0 [(0, .int p0), (1, .int p1)] [] := by
  unfold m_La_low at h
  refine k_iload_n G (dc d_La_low 0 rfl) 0 rfl rfl ?_
  refine k_ldc G (dc d_La_low 1 rfl) ld_RL_7 ?_
  refine k_iand G (dc d_La_low 2 rfl) ?_
  refine k_iload_n G (dc d_La_low 3 rfl) 1 rfl rfl ?_
  obtain ⟨x2, e1, h⟩ := kOk_b h
  refine k_iremV G (dc d_La_low 4 rfl) e1 ?_
  exact (kOk_s h) _ _ _ _ rfl rfl rfl (dc d_La_low 5 rfl)
theorem c_La_low {l : Launch} {B : KB} {L : KLay} {M : KMem} {p0 : Int32} {p1 : Int32} (hst : l.stackTraces = false)  {r : Int32} (e : m_La_low p0 p1 = some r) : CtrN l B yL_low cL_low 2 (some .int) rm_La_low [.int p0, .int p1] L M (some (.int r)) L M :=
  mk_I rfl hst rfl (fun X hl G _ R => b_La_low G  ⟨_, e, R⟩)
def I_La_word : List (Nat × Instr × Nat) := [(0, .iconst 1, 1), (1, .iload_n 0, 1), (2, .bipush 8, 2), (4, .invokestatic 44, 3), (7, .iadd, 1), (8, .istore_n 1, 1), (9, .iconst 0, 1), (10, .istore_n 2, 1), (11, .iconst 0, 1), (12, .istore_n 3, 1), (13, .iload_n 3, 1), (14, .iload_n 1, 1), (15, .if_icmp .ge 42, 3), (18, .bipush 10, 2), (20, .iload_n 2, 1), (21, .imul, 1), (22, .iconst 1, 1), (23, .iadd, 1), (24, .iload_n 0, 1), (25, .iconst 3, 1), (26, .iconst 2, 1), (27, .iload_n 3, 1), (28, .imul, 1), (29, .iadd, 1), (30, .ishr, 1), (31, .iload_n 0, 1), (32, .bipush 19, 2), (34, .ishr, 1), (35, .iconst 1, 1), (36, .iand, 1), (37, .ifCond .ne 8, 3), (40, .bipush 6, 2), (42, .goto 4, 3), (45, .iconst 3, 1), (46, .invokestatic 44, 3), (49, .iadd, 1), (50, .istore_n 2, 1), (51, .iinc 3 1, 3), (54, .goto (-41), 3), (57, .iload_n 2, 1), (58, .ireturn, 1)]
set_option maxRecDepth 100000 in
theorem d_La_word : decA cL_word I_La_word = true := by decide +kernel
abbrev rm_La_word : Room := ({ frames := 1, cells := 0, slots := 0, locals := 21 } : Room)
def m_La_word_l13 (p0 : Int32) (x2 : Int32) : (Int32 × Int32) → Option ((Int32 × Int32) ⊕ Int32) := fun (v2_3, v3_4) =>
 if (1 + x2) ≤ v3_4 then
 (some (.inr v2_3))
 else
 (Option.bind (α := Int32) (if ((jshr p0 19) &&& 1) = 0 then
 (some 6)
 else
 (some 3)) fun t6 =>
 Option.bind (m_La_low (jshr p0 (3 + (2 * v3_4))) t6) fun x9 =>
 some (.inl (((10 * v2_3) + 1) + x9, v3_4 + 1)))
def m_La_word (p0 : Int32) : Option Int32 :=
 Option.bind (m_La_low p0 8) fun x2 =>
 Option.bind (α := Int32) (kLp (m_La_word_l13 p0 x2) kFU (0, 0)) fun v2_11 =>
 some v2_11
set_option maxHeartbeats 4000000 in
set_option maxRecDepth 100000 in
theorem b_La_word {X : KX} {B : KB} {L : KLay} {M : KMem} {p0 : Int32} (G : Good X B RL cL_word 4 rm_La_word)  (h : kOk (m_La_word p0) (fun r => RI X B L 4 cL_word .int rm_La_word r M)) : KK X B L 4 0 0 M 0 [(0, .int p0)] [] := by
  unfold m_La_word at h
  refine k_iconst G (dc d_La_word 0 rfl) cI_1 ?_
  refine k_iload_n G (dc d_La_word 1 rfl) 0 rfl rfl ?_
  refine k_bipush G (dc d_La_word 2 rfl) cB_8 ?_
  obtain ⟨x2, e1, h⟩ := kOk_b h
  refine k_cSI G (dc d_La_word 3 rfl) mi_La_low ms_La_low ml_RL_44 (c_La_low (gst G)  e1) rfl rfl ⟨rfl, rfl⟩ rfl ⟨rfl, rfl⟩ ⟨rfl, rfl⟩ ?_
  refine k_iadd G (dc d_La_word 4 rfl) ?_
  refine k_istore_n G (dc d_La_word 5 rfl) (ls' := [(1, .int (1 + x2)), (0, .int p0)]) rfl rfl rfl ?_
  refine k_iconst G (dc d_La_word 6 rfl) cI_0 ?_
  refine k_istore_n G (dc d_La_word 7 rfl) (ls' := [(2, .int 0), (1, .int (1 + x2)), (0, .int p0)]) rfl rfl rfl ?_
  refine k_iconst G (dc d_La_word 8 rfl) cI_0 ?_
  refine k_istore_n G (dc d_La_word 9 rfl) (ls' := [(3, .int 0), (2, .int 0), (1, .int (1 + x2)), (0, .int p0)]) rfl rfl rfl ?_
  refine kJ h (fun r12 => KK X B L 4 0 0 M 57 [(2, .int r12)] []) (fun r12 h => ?_) (fun h => ?_)
  · obtain ⟨v2_11, rfl⟩ : ∃ z, z = r12 := ⟨_, rfl⟩
    show KK X B L 4 0 0 M 57 [(2, .int v2_11)] []
    refine k_iload_n G (dc d_La_word 39 rfl) 0 rfl rfl ?_
    exact (kOk_s h) _ _ _ _ rfl rfl rfl (dc d_La_word 40 rfl)
  · refine k_sub [3, 2, 1, 0] rfl ?_
    refine kLp_ok (P := fun s13 => KK X B L 4 0 0 M 13 [(0, .int p0), (1, .int (1 + x2)), (2, .int s13.1), (3, .int s13.2)] []) (fun s13 h => ?_) kFU _ h
    obtain ⟨v2_3, v3_4⟩ := s13
    unfold m_La_word_l13 at h
    show KK X B L 4 0 0 M 13 [(0, .int p0), (1, .int (1 + x2)), (2, .int v2_3), (3, .int v3_4)] []
    refine k_iload_n G (dc d_La_word 10 rfl) 3 rfl rfl ?_
    refine k_iload_n G (dc d_La_word 11 rfl) 1 rfl rfl ?_
    refine k_icmp_ge G (dc d_La_word 12 rfl) (tgt := 57) rfl (fun c5 => ?_) (fun c5 => ?_)
    · replace h := kOk_p c5 h
      refine k_sub [2] rfl ?_
      have h9 := kOk_s h
      exact h9
    · replace h := kOk_n c5 h
      refine k_bipush G (dc d_La_word 13 rfl) cB_10 ?_
      refine k_iload_n G (dc d_La_word 14 rfl) 2 rfl rfl ?_
      refine k_imul G (dc d_La_word 15 rfl) ?_
      refine k_iconst G (dc d_La_word 16 rfl) cI_1 ?_
      refine k_iadd G (dc d_La_word 17 rfl) ?_
      refine k_iload_n G (dc d_La_word 18 rfl) 0 rfl rfl ?_
      refine k_iconst G (dc d_La_word 19 rfl) cI_3 ?_
      refine k_iconst G (dc d_La_word 20 rfl) cI_2 ?_
      refine k_iload_n G (dc d_La_word 21 rfl) 3 rfl rfl ?_
      refine k_imul G (dc d_La_word 22 rfl) ?_
      refine k_iadd G (dc d_La_word 23 rfl) ?_
      refine k_ishr G (dc d_La_word 24 rfl) ?_
      refine k_iload_n G (dc d_La_word 25 rfl) 0 rfl rfl ?_
      refine k_bipush G (dc d_La_word 26 rfl) cB_19 ?_
      refine k_ishr G (dc d_La_word 27 rfl) ?_
      refine k_iconst G (dc d_La_word 28 rfl) cI_1 ?_
      refine k_iand G (dc d_La_word 29 rfl) ?_
      refine kJ h (fun r7 => KK X B L 4 0 0 M 46 [(0, .int p0), (1, .int (1 + x2)), (3, .int v3_4)] [.int r7, .int (jshr p0 (3 + (2 * v3_4))), .int ((10 * v2_3) + 1)]) (fun r7 h => ?_) (fun h => ?_)
      · obtain ⟨t6, rfl⟩ : ∃ z, z = r7 := ⟨_, rfl⟩
        show KK X B L 4 0 0 M 46 [(0, .int p0), (1, .int (1 + x2)), (3, .int v3_4)] [.int t6, .int (jshr p0 (3 + (2 * v3_4))), .int ((10 * v2_3) + 1)]
        obtain ⟨x9, e8, h⟩ := kOk_b h
        refine k_cSI G (dc d_La_word 34 rfl) mi_La_low ms_La_low ml_RL_44 (c_La_low (gst G)  e8) rfl rfl ⟨rfl, rfl⟩ rfl ⟨rfl, rfl⟩ ⟨rfl, rfl⟩ ?_
        refine k_iadd G (dc d_La_word 35 rfl) ?_
        refine k_istore_n G (dc d_La_word 36 rfl) (ls' := [(2, .int (((10 * v2_3) + 1) + x9)), (0, .int p0), (1, .int (1 + x2)), (3, .int v3_4)]) rfl rfl rfl ?_
        refine k_iinc G (dc d_La_word 37 rfl) (ls' := [(3, .int (v3_4 + 1)), (2, .int (((10 * v2_3) + 1) + x9)), (0, .int p0), (1, .int (1 + x2))]) 3 rfl cI_1 rfl rfl ?_
        refine k_goto G (dc d_La_word 38 rfl) (tgt := 13) rfl ?_
        refine k_sub [2, 3, 1, 0] rfl ?_
        have h9 := kOk_s h
        exact h9
      · refine k_if_ne G (dc d_La_word 30 rfl) (tgt := 45) rfl (fun c10 => ?_) (fun c10 => ?_)
        · replace h := kOk_n c10 h
          refine k_iconst G (dc d_La_word 33 rfl) cI_3 ?_
          refine k_sub [0, 1, 3] rfl ?_
          have h9 := kOk_s h
          exact h9
        · replace h := kOk_p c10 h
          refine k_bipush G (dc d_La_word 31 rfl) cB_6 ?_
          refine k_goto G (dc d_La_word 32 rfl) (tgt := 46) rfl ?_
          refine k_sub [0, 1, 3] rfl ?_
          have h9 := kOk_s h
          exact h9
theorem c_La_word {l : Launch} {B : KB} {L : KLay} {M : KMem} {p0 : Int32} (hst : l.stackTraces = false)  {r : Int32} (e : m_La_word p0 = some r) : CtrN l B yL_word cL_word 4 (some .int) rm_La_word [.int p0] L M (some (.int r)) L M :=
  mk_I rfl hst rfl (fun X hl G _ R => b_La_word G  ⟨_, e, R⟩)
def I_La_act : List (Nat × Instr × Nat) := [(0, .iload_n 1, 1), (1, .bipush 32, 2), (3, .invokestatic 44, 3), (6, .istore_n 3, 1), (7, .iload_n 1, 1), (8, .iconst 5, 1), (9, .ishr, 1), (10, .istore 4, 2), (12, .iload_n 1, 1), (13, .bipush 22, 2), (15, .ishr, 1), (16, .bipush 7, 2), (18, .invokestatic 44, 3), (21, .ifCond .le 7, 3), (24, .iconst 1, 1), (25, .goto 4, 3), (28, .iconst 0, 1), (29, .istore 5, 2), (31, .iload_n 3, 1), (32, .bipush 10, 2), (34, .if_icmp .ge 50, 3), (37, .aload_n 0, 1), (38, .iconst 0, 1), (39, .iload 4, 2), (41, .iload 5, 2), (43, .ifCond .eq 7, 3), (46, .iconst 3, 1), (47, .goto 4, 3), (50, .iconst 5, 1), (51, .invokestatic 44, 3), (54, .iload 5, 2), (56, .ifCond .eq 13, 3), (59, .iload 4, 2), (61, .iconst 2, 1), (62, .ishr, 1), (63, .invokestatic 49, 3), (66, .goto 13, 3), (69, .iload 4, 2), (71, .iconst 2, 1), (72, .ishr, 1), (73, .sipush 700, 3), (76, .invokestatic 44, 3), (79, .aload_n 2, 1), (80, .invokestatic 52, 3), (83, .ireturn, 1), (84, .iload_n 3, 1), (85, .bipush 17, 2), (87, .if_icmp .ge 126, 3), (90, .iload 4, 2), (92, .iconst 5, 1), (93, .invokestatic 44, 3), (96, .iconst 3, 1), (97, .if_icmp .ge 7, 3), (100, .iconst 1, 1), (101, .goto 18, 3), (104, .iload 4, 2), (106, .iconst 5, 1), (107, .invokestatic 44, 3), (110, .iconst 3, 1), (111, .if_icmp .ne 7, 3), (114, .iconst 0, 1), (115, .goto 4, 3), (118, .iconst 2, 1), (119, .istore 6, 2), (121, .aload_n 0, 1), (122, .iload 6, 2), (124, .iload 4, 2), (126, .iconst 3, 1), (127, .ishr, 1), (128, .iload 5, 2), (130, .ifCond .eq 8, 3), (133, .bipush 6, 2), (135, .goto 5, 3), (138, .bipush 8, 2), (140, .invokestatic 44, 3), (143, .iload 5, 2), (145, .ifCond .eq 7, 3), (148, .iconst 1, 1), (149, .goto 4, 3), (152, .iconst 0, 1), (153, .iadd, 1), (154, .iload 5, 2), (156, .ifCond .eq 13, 3), (159, .iload 6, 2), (161, .iconst 1, 1), (162, .if_icmp .eq 7, 3), (165, .iconst 0, 1), (166, .goto 15, 3), (169, .iconst 1, 1), (170, .iload 4, 2), (172, .bipush 6, 2), (174, .ishr, 1), (175, .bipush 6, 2), (177, .invokestatic 44, 3), (180, .iadd, 1), (181, .iload 5, 2), (183, .ifCond .eq 13, 3), (186, .iload 6, 2), (188, .iconst 1, 1), (189, .if_icmp .eq 7, 3), (192, .iconst 0, 1), (193, .goto 15, 3), (196, .iconst 1, 1), (197, .iload 4, 2), (199, .bipush 9, 2), (201, .ishr, 1), (202, .bipush 6, 2), (204, .invokestatic 44, 3), (207, .iadd, 1), (208, .aload_n 2, 1), (209, .invokestatic 56, 3), (212, .ireturn, 1), (213, .iload_n 3, 1), (214, .bipush 19, 2), (216, .if_icmp .ge 44, 3), (219, .aload_n 0, 1), (220, .iconst 1, 1), (221, .iload 4, 2), (223, .iload 5, 2), (225, .ifCond .eq 19, 3), (228, .aload_n 0, 1), (229, .iconst 1, 1), (230, .invokevirtual 60, 3), (233, .ifCond .le 11, 3), (236, .aload_n 0, 1), (237, .iconst 1, 1), (238, .invokevirtual 60, 3), (241, .goto 10, 3), (244, .aload_n 0, 1), (245, .iconst 1, 1), (246, .invokevirtual 60, 3), (249, .iconst 1, 1), (250, .iadd, 1), (251, .invokestatic 44, 3), (254, .iconst 0, 1), (255, .aload_n 2, 1), (256, .invokestatic 52, 3), (259, .ireturn, 1), (260, .iload_n 3, 1), (261, .bipush 23, 2), (263, .if_icmp .ge 44, 3), (266, .aload_n 0, 1), (267, .iconst 2, 1), (268, .iload 4, 2), (270, .iload 5, 2), (272, .ifCond .eq 19, 3), (275, .aload_n 0, 1), (276, .iconst 0, 1), (277, .invokevirtual 60, 3), (280, .ifCond .le 11, 3), (283, .aload_n 0, 1), (284, .iconst 0, 1), (285, .invokevirtual 60, 3), (288, .goto 10, 3), (291, .aload_n 0, 1), (292, .iconst 0, 1), (293, .invokevirtual 60, 3), (296, .iconst 1, 1), (297, .iadd, 1), (298, .invokestatic 44, 3), (301, .iconst 0, 1), (302, .aload_n 2, 1), (303, .invokestatic 52, 3), (306, .ireturn, 1), (307, .iload_n 3, 1), (308, .bipush 25, 2), (310, .if_icmp .ge 30, 3), (313, .aload_n 0, 1), (314, .iconst 4, 1), (315, .iload 4, 2), (317, .iload 5, 2), (319, .ifCond .eq 8, 3), (322, .bipush 10, 2), (324, .goto 5, 3), (327, .bipush 12, 2), (329, .invokestatic 44, 3), (332, .iconst 0, 1), (333, .aload_n 2, 1), (334, .invokestatic 52, 3), (337, .goto 76, 3), (340, .iload_n 3, 1), (341, .bipush 25, 2), (343, .if_icmp .ne 46, 3), (346, .aload_n 0, 1), (347, .iconst 5, 1), (348, .iload 4, 2), (350, .iload 5, 2), (352, .ifCond .eq 7, 3), (355, .iconst 2, 1), (356, .goto 4, 3), (359, .iconst 3, 1), (360, .invokestatic 44, 3), (363, .iload 4, 2), (365, .iconst 2, 1), (366, .ishr, 1), (367, .iload 5, 2), (369, .ifCond .eq 8, 3), (372, .bipush 21, 2), (374, .goto 5, 3), (377, .bipush 25, 2), (379, .invokestatic 44, 3), (382, .aload_n 2, 1), (383, .invokestatic 52, 3), (386, .goto 27, 3), (389, .aload_n 0, 1), (390, .iconst 3, 1), (391, .iload 4, 2), (393, .iload 5, 2), (395, .ifCond .eq 8, 3), (398, .bipush 9, 2), (400, .goto 5, 3), (403, .bipush 70, 2), (405, .invokestatic 44, 3), (408, .iconst 0, 1), (409, .aload_n 2, 1), (410, .invokestatic 52, 3), (413, .ireturn, 1)]
set_option maxRecDepth 100000 in
theorem d_La_act : decA cL_act I_La_act = true := by decide +kernel
abbrev rm_La_act : Room := ({ frames := 9, cells := 2, slots := 12, locals := 183 } : Room)
def m_La_act (p0 : Nat) (p1 : Int32) (p2 : Nat) (p2n : Nat) (M : KMem) : Option (Int32 × KMem) :=
 Option.bind (m_La_low p1 32) fun x2 =>
 Option.bind (m_La_low (jshr p1 22) 7) fun x4 =>
 Option.bind (α := Int32) (if x4 ≤ 0 then
 (some 0)
 else
 (some 1)) fun t5 =>
 if 10 ≤ x2 then
 (if 17 ≤ x2 then
 (if 19 ≤ x2 then
 (if 23 ≤ x2 then
 (Option.bind (α := Int32 × KMem) (if 25 ≤ x2 then
 (if x2 = 25 then
 (Option.bind (α := Int32) (if t5 = 0 then
 (some 3)
 else
 (some 2)) fun t24 =>
 Option.bind (m_La_low (jshr p1 5) t24) fun x27 =>
 Option.bind (α := Int32) (if t5 = 0 then
 (some 25)
 else
 (some 21)) fun t28 =>
 Option.bind (m_La_low (jshr (jshr p1 5) 2) t28) fun x31 =>
 Option.bind (m_La_changes p0 5 x27 x31 p2 p2n M) fun (x33, M34) =>
 some (x33, M34))
 else
 (Option.bind (α := Int32) (if t5 = 0 then
 (some 70)
 else
 (some 9)) fun t16 =>
 Option.bind (m_La_low (jshr p1 5) t16) fun x19 =>
 Option.bind (m_La_changes p0 3 x19 0 p2 p2n M) fun (x21, M22) =>
 some (x21, M22)))
 else
 (Option.bind (α := Int32) (if t5 = 0 then
 (some 12)
 else
 (some 10)) fun t37 =>
 Option.bind (m_La_low (jshr p1 5) t37) fun x40 =>
 Option.bind (m_La_changes p0 4 x40 0 p2 p2n M) fun (x42, M43) =>
 some (x42, M43))) fun (t11, M12) =>
 some (t11, M12))
 else
 (Option.bind (α := Int32 × KMem) (if t5 = 0 then
 (Option.bind (m_Sn_about p0 0 M) fun (x55, M56) =>
 some (x55 + 1, M56))
 else
 (Option.bind (m_Sn_about p0 0 M) fun (x58, M59) =>
 if x58 ≤ 0 then
 (Option.bind (m_Sn_about p0 0 M59) fun (x62, M63) =>
 some (x62 + 1, M63))
 else
 (Option.bind (m_Sn_about p0 0 M59) fun (x65, M66) =>
 some (x65, M66)))) fun (t45, M46) =>
 Option.bind (m_La_low (jshr p1 5) t45) fun x49 =>
 Option.bind (m_La_changes p0 2 x49 0 p2 p2n M46) fun (x51, M52) =>
 some (x51, M52)))
 else
 (Option.bind (α := Int32 × KMem) (if t5 = 0 then
 (Option.bind (m_Sn_about p0 1 M) fun (x77, M78) =>
 some (x77 + 1, M78))
 else
 (Option.bind (m_Sn_about p0 1 M) fun (x80, M81) =>
 if x80 ≤ 0 then
 (Option.bind (m_Sn_about p0 1 M81) fun (x84, M85) =>
 some (x84 + 1, M85))
 else
 (Option.bind (m_Sn_about p0 1 M81) fun (x87, M88) =>
 some (x87, M88)))) fun (t67, M68) =>
 Option.bind (m_La_low (jshr p1 5) t67) fun x71 =>
 Option.bind (m_La_changes p0 1 x71 0 p2 p2n M68) fun (x73, M74) =>
 some (x73, M74)))
 else
 (Option.bind (m_La_low (jshr p1 5) 5) fun x90 =>
 Option.bind (α := Int32) (if 3 ≤ x90 then
 (Option.bind (m_La_low (jshr p1 5) 5) fun x122 =>
 if x122 = 3 then
 (some 0)
 else
 (some 2))
 else
 (some 1)) fun t91 =>
 Option.bind (α := Int32) (if t5 = 0 then
 (some 8)
 else
 (some 6)) fun t93 =>
 Option.bind (m_La_low (jshr (jshr p1 5) 3) t93) fun x96 =>
 Option.bind (α := Int32) (if t5 = 0 then
 (some 0)
 else
 (some 1)) fun t97 =>
 Option.bind (α := Int32) (if t5 = 0 then
 (Option.bind (m_La_low (jshr (jshr p1 5) 6) 6) fun x114 =>
 some (1 + x114))
 else
 (if t91 = 1 then
 (Option.bind (m_La_low (jshr (jshr p1 5) 6) 6) fun x117 =>
 some (1 + x117))
 else
 (some 0))) fun t99 =>
 Option.bind (α := Int32) (if t5 = 0 then
 (Option.bind (m_La_low (jshr (jshr p1 5) 9) 6) fun x108 =>
 some (1 + x108))
 else
 (if t91 = 1 then
 (Option.bind (m_La_low (jshr (jshr p1 5) 9) 6) fun x111 =>
 some (1 + x111))
 else
 (some 0))) fun t101 =>
 Option.bind (m_La_decrees p0 t91 (x96 + t97) t99 t101 p2 p2n M) fun (x104, M105) =>
 some (x104, M105)))
 else
 (Option.bind (α := Int32) (if t5 = 0 then
 (some 5)
 else
 (some 3)) fun t124 =>
 Option.bind (m_La_low (jshr p1 5) t124) fun x127 =>
 Option.bind (α := Int32) (if t5 = 0 then
 (Option.bind (m_La_low (jshr (jshr p1 5) 2) 700) fun x135 =>
 some x135)
 else
 (Option.bind (m_La_word (jshr (jshr p1 5) 2)) fun x137 =>
 some x137)) fun t128 =>
 Option.bind (m_La_changes p0 0 x127 t128 p2 p2n M) fun (x131, M132) =>
 some (x131, M132))
set_option maxHeartbeats 4000000 in
set_option maxRecDepth 100000 in
theorem b_La_act {X : KX} {B : KB} {L : KLay} {M : KMem} {p0 : Nat} {p1 : Int32} {p2 : Nat} {p2n : Nat} (G : Good X B RL cL_act 7 rm_La_act) (hx : B.2.2.2 = false) (hp0 : okL L p0 srT) (hp2 : arL L p2 9 p2n) (h : kOk (m_La_act p0 p1 p2 p2n M) (fun r => RI X B L 7 cL_act .int rm_La_act r.1 r.2)) : KK X B L 7 0 0 M 0 [(0, .ref (B.1 + p0)), (1, .int p1), (2, .ref (B.1 + p2))] [] := by
  unfold m_La_act at h
  refine k_iload_n G (dc d_La_act 0 rfl) 1 rfl rfl ?_
  refine k_bipush G (dc d_La_act 1 rfl) cB_32 ?_
  obtain ⟨x2, e1, h⟩ := kOk_b h
  refine k_cSI G (dc d_La_act 2 rfl) mi_La_low ms_La_low ml_RL_44 (c_La_low (gst G)  e1) rfl rfl ⟨rfl, rfl⟩ rfl ⟨rfl, rfl⟩ ⟨rfl, rfl⟩ ?_
  refine k_istore_n G (dc d_La_act 3 rfl) (ls' := [(3, .int x2), (0, .ref (B.1 + p0)), (1, .int p1), (2, .ref (B.1 + p2))]) rfl rfl rfl ?_
  refine k_iload_n G (dc d_La_act 4 rfl) 2 rfl rfl ?_
  refine k_iconst G (dc d_La_act 5 rfl) cI_5 ?_
  refine k_ishr G (dc d_La_act 6 rfl) ?_
  refine k_istore G (dc d_La_act 7 rfl) (ls' := [(4, .int (jshr p1 5)), (3, .int x2), (0, .ref (B.1 + p0)), (1, .int p1), (2, .ref (B.1 + p2))]) rfl rfl ?_
  refine k_iload_n G (dc d_La_act 8 rfl) 3 rfl rfl ?_
  refine k_bipush G (dc d_La_act 9 rfl) cB_22 ?_
  refine k_ishr G (dc d_La_act 10 rfl) ?_
  refine k_bipush G (dc d_La_act 11 rfl) cB_7 ?_
  obtain ⟨x4, e3, h⟩ := kOk_b h
  refine k_cSI G (dc d_La_act 12 rfl) mi_La_low ms_La_low ml_RL_44 (c_La_low (gst G)  e3) rfl rfl ⟨rfl, rfl⟩ rfl ⟨rfl, rfl⟩ ⟨rfl, rfl⟩ ?_
  refine kJ h (fun r6 => KK X B L 7 0 0 M 29 [(0, .ref (B.1 + p0)), (2, .ref (B.1 + p2)), (3, .int x2), (4, .int (jshr p1 5))] [.int r6]) (fun r6 h => ?_) (fun h => ?_)
  · obtain ⟨t5, rfl⟩ : ∃ z, z = r6 := ⟨_, rfl⟩
    show KK X B L 7 0 0 M 29 [(0, .ref (B.1 + p0)), (2, .ref (B.1 + p2)), (3, .int x2), (4, .int (jshr p1 5))] [.int t5]
    refine k_istore G (dc d_La_act 17 rfl) (ls' := [(5, .int t5), (0, .ref (B.1 + p0)), (2, .ref (B.1 + p2)), (3, .int x2), (4, .int (jshr p1 5))]) rfl rfl ?_
    refine k_iload_n G (dc d_La_act 18 rfl) 3 rfl rfl ?_
    refine k_bipush G (dc d_La_act 19 rfl) cB_10 ?_
    refine k_icmp_ge G (dc d_La_act 20 rfl) (tgt := 84) rfl (fun c7 => ?_) (fun c7 => ?_)
    · replace h := kOk_p c7 h
      refine k_iload_n G (dc d_La_act 45 rfl) 3 rfl rfl ?_
      refine k_bipush G (dc d_La_act 46 rfl) cB_17 ?_
      refine k_icmp_ge G (dc d_La_act 47 rfl) (tgt := 213) rfl (fun c8 => ?_) (fun c8 => ?_)
      · replace h := kOk_p c8 h
        refine k_iload_n G (dc d_La_act 112 rfl) 3 rfl rfl ?_
        refine k_bipush G (dc d_La_act 113 rfl) cB_19 ?_
        refine k_icmp_ge G (dc d_La_act 114 rfl) (tgt := 260) rfl (fun c9 => ?_) (fun c9 => ?_)
        · replace h := kOk_p c9 h
          refine k_iload_n G (dc d_La_act 138 rfl) 3 rfl rfl ?_
          refine k_bipush G (dc d_La_act 139 rfl) cB_23 ?_
          refine k_icmp_ge G (dc d_La_act 140 rfl) (tgt := 307) rfl (fun c10 => ?_) (fun c10 => ?_)
          · replace h := kOk_p c10 h
            refine k_iload_n G (dc d_La_act 164 rfl) 3 rfl rfl ?_
            refine k_bipush G (dc d_La_act 165 rfl) cB_25 ?_
            refine kJ h (fun r13 => KK X B L 7 2 12 r13.2 413 [] [.int r13.1]) (fun r13 h => ?_) (fun h => ?_)
            · obtain ⟨t11, M12⟩ := r13
              show KK X B L 7 2 12 M12 413 [] [.int t11]
              exact (kOk_s h) _ _ _ _ rfl rfl rfl (dc d_La_act 216 rfl)
            · refine k_icmp_ge G (dc d_La_act 166 rfl) (tgt := 340) rfl (fun c14 => ?_) (fun c14 => ?_)
              · replace h := kOk_p c14 h
                refine k_iload_n G (dc d_La_act 180 rfl) 3 rfl rfl ?_
                refine k_bipush G (dc d_La_act 181 rfl) cB_25 ?_
                refine k_icmp_ne G (dc d_La_act 182 rfl) (tgt := 389) rfl (fun c15 => ?_) (fun c15 => ?_)
                · replace h := kOk_n c15 h
                  refine k_aload_n G (dc d_La_act 204 rfl) 1 rfl rfl ?_
                  refine k_iconst G (dc d_La_act 205 rfl) cI_3 ?_
                  refine k_iload G (dc d_La_act 206 rfl) 4 rfl ?_
                  refine k_iload G (dc d_La_act 207 rfl) 0 rfl ?_
                  refine kJ h (fun r17 => KK X B L 7 0 0 M 405 [(2, .ref (B.1 + p2))] [.int r17, .int (jshr p1 5), .int 3, .ref (B.1 + p0)]) (fun r17 h => ?_) (fun h => ?_)
                  · obtain ⟨t16, rfl⟩ : ∃ z, z = r17 := ⟨_, rfl⟩
                    show KK X B L 7 0 0 M 405 [(2, .ref (B.1 + p2))] [.int t16, .int (jshr p1 5), .int 3, .ref (B.1 + p0)]
                    obtain ⟨x19, e18, h⟩ := kOk_b h
                    refine k_cSI G (dc d_La_act 212 rfl) mi_La_low ms_La_low ml_RL_44 (c_La_low (gst G)  e18) rfl rfl ⟨rfl, rfl⟩ rfl ⟨rfl, rfl⟩ ⟨rfl, rfl⟩ ?_
                    refine k_iconst G (dc d_La_act 213 rfl) cI_0 ?_
                    refine k_aload_n G (dc d_La_act 214 rfl) 0 rfl rfl ?_
                    obtain ⟨⟨x21, M22⟩, e20, h⟩ := kOk_b h
                    refine k_cSH G (dc d_La_act 215 rfl) mh_La_changes ms_La_changes ml_RL_52 (c_La_changes (gst G) hx hp0 hp2 e20) rfl rfl ⟨rfl, rfl⟩ rfl ⟨rfl, rfl⟩ ?_
                    show KK X B L 7 2 12 M22 413 [(2, .ref (B.1 + p2))] [.int x21]
                    refine k_sub [] rfl ?_
                    have h9 := kOk_s h
                    exact h9
                  · refine k_if_eq G (dc d_La_act 208 rfl) (tgt := 403) rfl (fun c23 => ?_) (fun c23 => ?_)
                    · replace h := kOk_p c23 h
                      refine k_bipush G (dc d_La_act 211 rfl) cB_70 ?_
                      refine k_sub [2] rfl ?_
                      have h9 := kOk_s h
                      exact h9
                    · replace h := kOk_n c23 h
                      refine k_bipush G (dc d_La_act 209 rfl) cB_9 ?_
                      refine k_goto G (dc d_La_act 210 rfl) (tgt := 405) rfl ?_
                      refine k_sub [2] rfl ?_
                      have h9 := kOk_s h
                      exact h9
                · replace h := kOk_p c15 h
                  refine k_aload_n G (dc d_La_act 183 rfl) 1 rfl rfl ?_
                  refine k_iconst G (dc d_La_act 184 rfl) cI_5 ?_
                  refine k_iload G (dc d_La_act 185 rfl) 4 rfl ?_
                  refine k_iload G (dc d_La_act 186 rfl) 0 rfl ?_
                  refine kJ h (fun r25 => KK X B L 7 0 0 M 360 [(2, .ref (B.1 + p2)), (4, .int (jshr p1 5)), (5, .int t5)] [.int r25, .int (jshr p1 5), .int 5, .ref (B.1 + p0)]) (fun r25 h => ?_) (fun h => ?_)
                  · obtain ⟨t24, rfl⟩ : ∃ z, z = r25 := ⟨_, rfl⟩
                    show KK X B L 7 0 0 M 360 [(2, .ref (B.1 + p2)), (4, .int (jshr p1 5)), (5, .int t5)] [.int t24, .int (jshr p1 5), .int 5, .ref (B.1 + p0)]
                    obtain ⟨x27, e26, h⟩ := kOk_b h
                    refine k_cSI G (dc d_La_act 191 rfl) mi_La_low ms_La_low ml_RL_44 (c_La_low (gst G)  e26) rfl rfl ⟨rfl, rfl⟩ rfl ⟨rfl, rfl⟩ ⟨rfl, rfl⟩ ?_
                    refine k_iload G (dc d_La_act 192 rfl) 1 rfl ?_
                    refine k_iconst G (dc d_La_act 193 rfl) cI_2 ?_
                    refine k_ishr G (dc d_La_act 194 rfl) ?_
                    refine k_iload G (dc d_La_act 195 rfl) 2 rfl ?_
                    refine kJ h (fun r29 => KK X B L 7 0 0 M 379 [(2, .ref (B.1 + p2))] [.int r29, .int (jshr (jshr p1 5) 2), .int x27, .int 5, .ref (B.1 + p0)]) (fun r29 h => ?_) (fun h => ?_)
                    · obtain ⟨t28, rfl⟩ : ∃ z, z = r29 := ⟨_, rfl⟩
                      show KK X B L 7 0 0 M 379 [(2, .ref (B.1 + p2))] [.int t28, .int (jshr (jshr p1 5) 2), .int x27, .int 5, .ref (B.1 + p0)]
                      obtain ⟨x31, e30, h⟩ := kOk_b h
                      refine k_cSI G (dc d_La_act 200 rfl) mi_La_low ms_La_low ml_RL_44 (c_La_low (gst G)  e30) rfl rfl ⟨rfl, rfl⟩ rfl ⟨rfl, rfl⟩ ⟨rfl, rfl⟩ ?_
                      refine k_aload_n G (dc d_La_act 201 rfl) 0 rfl rfl ?_
                      obtain ⟨⟨x33, M34⟩, e32, h⟩ := kOk_b h
                      refine k_cSH G (dc d_La_act 202 rfl) mh_La_changes ms_La_changes ml_RL_52 (c_La_changes (gst G) hx hp0 hp2 e32) rfl rfl ⟨rfl, rfl⟩ rfl ⟨rfl, rfl⟩ ?_
                      show KK X B L 7 2 12 M34 386 [(2, .ref (B.1 + p2))] [.int x33]
                      refine k_goto G (dc d_La_act 203 rfl) (tgt := 413) rfl ?_
                      refine k_sub [] rfl ?_
                      have h9 := kOk_s h
                      exact h9
                    · refine k_if_eq G (dc d_La_act 196 rfl) (tgt := 377) rfl (fun c35 => ?_) (fun c35 => ?_)
                      · replace h := kOk_p c35 h
                        refine k_bipush G (dc d_La_act 199 rfl) cB_25 ?_
                        refine k_sub [0] rfl ?_
                        have h9 := kOk_s h
                        exact h9
                      · replace h := kOk_n c35 h
                        refine k_bipush G (dc d_La_act 197 rfl) cB_21 ?_
                        refine k_goto G (dc d_La_act 198 rfl) (tgt := 379) rfl ?_
                        refine k_sub [0] rfl ?_
                        have h9 := kOk_s h
                        exact h9
                  · refine k_if_eq G (dc d_La_act 187 rfl) (tgt := 359) rfl (fun c36 => ?_) (fun c36 => ?_)
                    · replace h := kOk_p c36 h
                      refine k_iconst G (dc d_La_act 190 rfl) cI_3 ?_
                      refine k_sub [2, 4, 0] rfl ?_
                      have h9 := kOk_s h
                      exact h9
                    · replace h := kOk_n c36 h
                      refine k_iconst G (dc d_La_act 188 rfl) cI_2 ?_
                      refine k_goto G (dc d_La_act 189 rfl) (tgt := 360) rfl ?_
                      refine k_sub [2, 4, 0] rfl ?_
                      have h9 := kOk_s h
                      exact h9
              · replace h := kOk_n c14 h
                refine k_aload_n G (dc d_La_act 167 rfl) 1 rfl rfl ?_
                refine k_iconst G (dc d_La_act 168 rfl) cI_4 ?_
                refine k_iload G (dc d_La_act 169 rfl) 4 rfl ?_
                refine k_iload G (dc d_La_act 170 rfl) 0 rfl ?_
                refine kJ h (fun r38 => KK X B L 7 0 0 M 329 [(2, .ref (B.1 + p2))] [.int r38, .int (jshr p1 5), .int 4, .ref (B.1 + p0)]) (fun r38 h => ?_) (fun h => ?_)
                · obtain ⟨t37, rfl⟩ : ∃ z, z = r38 := ⟨_, rfl⟩
                  show KK X B L 7 0 0 M 329 [(2, .ref (B.1 + p2))] [.int t37, .int (jshr p1 5), .int 4, .ref (B.1 + p0)]
                  obtain ⟨x40, e39, h⟩ := kOk_b h
                  refine k_cSI G (dc d_La_act 175 rfl) mi_La_low ms_La_low ml_RL_44 (c_La_low (gst G)  e39) rfl rfl ⟨rfl, rfl⟩ rfl ⟨rfl, rfl⟩ ⟨rfl, rfl⟩ ?_
                  refine k_iconst G (dc d_La_act 176 rfl) cI_0 ?_
                  refine k_aload_n G (dc d_La_act 177 rfl) 0 rfl rfl ?_
                  obtain ⟨⟨x42, M43⟩, e41, h⟩ := kOk_b h
                  refine k_cSH G (dc d_La_act 178 rfl) mh_La_changes ms_La_changes ml_RL_52 (c_La_changes (gst G) hx hp0 hp2 e41) rfl rfl ⟨rfl, rfl⟩ rfl ⟨rfl, rfl⟩ ?_
                  show KK X B L 7 2 12 M43 337 [(2, .ref (B.1 + p2))] [.int x42]
                  refine k_goto G (dc d_La_act 179 rfl) (tgt := 413) rfl ?_
                  refine k_sub [] rfl ?_
                  have h9 := kOk_s h
                  exact h9
                · refine k_if_eq G (dc d_La_act 171 rfl) (tgt := 327) rfl (fun c44 => ?_) (fun c44 => ?_)
                  · replace h := kOk_p c44 h
                    refine k_bipush G (dc d_La_act 174 rfl) cB_12 ?_
                    refine k_sub [2] rfl ?_
                    have h9 := kOk_s h
                    exact h9
                  · replace h := kOk_n c44 h
                    refine k_bipush G (dc d_La_act 172 rfl) cB_10 ?_
                    refine k_goto G (dc d_La_act 173 rfl) (tgt := 329) rfl ?_
                    refine k_sub [2] rfl ?_
                    have h9 := kOk_s h
                    exact h9
          · replace h := kOk_n c10 h
            refine k_aload_n G (dc d_La_act 141 rfl) 1 rfl rfl ?_
            refine k_iconst G (dc d_La_act 142 rfl) cI_2 ?_
            refine k_iload G (dc d_La_act 143 rfl) 4 rfl ?_
            refine k_iload G (dc d_La_act 144 rfl) 0 rfl ?_
            refine kJ h (fun r47 => KK X B L 7 0 0 r47.2 298 [(2, .ref (B.1 + p2))] [.int r47.1, .int (jshr p1 5), .int 2, .ref (B.1 + p0)]) (fun r47 h => ?_) (fun h => ?_)
            · obtain ⟨t45, M46⟩ := r47
              show KK X B L 7 0 0 M46 298 [(2, .ref (B.1 + p2))] [.int t45, .int (jshr p1 5), .int 2, .ref (B.1 + p0)]
              obtain ⟨x49, e48, h⟩ := kOk_b h
              refine k_cSI G (dc d_La_act 159 rfl) mi_La_low ms_La_low ml_RL_44 (c_La_low (gst G)  e48) rfl rfl ⟨rfl, rfl⟩ rfl ⟨rfl, rfl⟩ ⟨rfl, rfl⟩ ?_
              refine k_iconst G (dc d_La_act 160 rfl) cI_0 ?_
              refine k_aload_n G (dc d_La_act 161 rfl) 0 rfl rfl ?_
              obtain ⟨⟨x51, M52⟩, e50, h⟩ := kOk_b h
              refine k_cSH G (dc d_La_act 162 rfl) mh_La_changes ms_La_changes ml_RL_52 (c_La_changes (gst G) hx hp0 hp2 e50) rfl rfl ⟨rfl, rfl⟩ rfl ⟨rfl, rfl⟩ ?_
              show KK X B L 7 2 12 M52 306 [(2, .ref (B.1 + p2))] [.int x51]
              exact (kOk_s h) _ _ _ _ rfl rfl rfl (dc d_La_act 163 rfl)
            · refine k_if_eq G (dc d_La_act 145 rfl) (tgt := 291) rfl (fun c53 => ?_) (fun c53 => ?_)
              · replace h := kOk_p c53 h
                refine k_aload_n G (dc d_La_act 154 rfl) 1 rfl rfl ?_
                refine k_iconst G (dc d_La_act 155 rfl) cI_0 ?_
                obtain ⟨⟨x55, M56⟩, e54, h⟩ := kOk_b h
                refine k_cVI G (dc d_La_act 156 rfl) kc7 (okL_lt hp0 (o := 0) 0 rfl) (okL_k hp0 (o := 0) 0 rfl) mi_SR_about mv_SR_about rfl ml_RL_60 (c_Sn_about (gst G) hp0 e54) rfl rfl ⟨rfl, rfl⟩ rfl ⟨rfl, rfl⟩ ⟨rfl, rfl⟩ ?_
                refine k_iconst G (dc d_La_act 157 rfl) cI_1 ?_
                refine k_iadd G (dc d_La_act 158 rfl) ?_
                refine k_sub [2] rfl ?_
                have h9 := kOk_s h
                exact h9
              · replace h := kOk_n c53 h
                refine k_aload_n G (dc d_La_act 146 rfl) 1 rfl rfl ?_
                refine k_iconst G (dc d_La_act 147 rfl) cI_0 ?_
                obtain ⟨⟨x58, M59⟩, e57, h⟩ := kOk_b h
                refine k_cVI G (dc d_La_act 148 rfl) kc7 (okL_lt hp0 (o := 0) 0 rfl) (okL_k hp0 (o := 0) 0 rfl) mi_SR_about mv_SR_about rfl ml_RL_60 (c_Sn_about (gst G) hp0 e57) rfl rfl ⟨rfl, rfl⟩ rfl ⟨rfl, rfl⟩ ⟨rfl, rfl⟩ ?_
                refine k_if_le G (dc d_La_act 149 rfl) (tgt := 291) rfl (fun c60 => ?_) (fun c60 => ?_)
                · replace h := kOk_p c60 h
                  refine k_aload_n G (dc d_La_act 154 rfl) 1 rfl rfl ?_
                  refine k_iconst G (dc d_La_act 155 rfl) cI_0 ?_
                  obtain ⟨⟨x62, M63⟩, e61, h⟩ := kOk_b h
                  refine k_cVI G (dc d_La_act 156 rfl) kc7 (okL_lt hp0 (o := 0) 0 rfl) (okL_k hp0 (o := 0) 0 rfl) mi_SR_about mv_SR_about rfl ml_RL_60 (c_Sn_about (gst G) hp0 e61) rfl rfl ⟨rfl, rfl⟩ rfl ⟨rfl, rfl⟩ ⟨rfl, rfl⟩ ?_
                  refine k_iconst G (dc d_La_act 157 rfl) cI_1 ?_
                  refine k_iadd G (dc d_La_act 158 rfl) ?_
                  refine k_sub [2] rfl ?_
                  have h9 := kOk_s h
                  exact h9
                · replace h := kOk_n c60 h
                  refine k_aload_n G (dc d_La_act 150 rfl) 1 rfl rfl ?_
                  refine k_iconst G (dc d_La_act 151 rfl) cI_0 ?_
                  obtain ⟨⟨x65, M66⟩, e64, h⟩ := kOk_b h
                  refine k_cVI G (dc d_La_act 152 rfl) kc7 (okL_lt hp0 (o := 0) 0 rfl) (okL_k hp0 (o := 0) 0 rfl) mi_SR_about mv_SR_about rfl ml_RL_60 (c_Sn_about (gst G) hp0 e64) rfl rfl ⟨rfl, rfl⟩ rfl ⟨rfl, rfl⟩ ⟨rfl, rfl⟩ ?_
                  refine k_goto G (dc d_La_act 153 rfl) (tgt := 298) rfl ?_
                  refine k_sub [2] rfl ?_
                  have h9 := kOk_s h
                  exact h9
        · replace h := kOk_n c9 h
          refine k_aload_n G (dc d_La_act 115 rfl) 1 rfl rfl ?_
          refine k_iconst G (dc d_La_act 116 rfl) cI_1 ?_
          refine k_iload G (dc d_La_act 117 rfl) 4 rfl ?_
          refine k_iload G (dc d_La_act 118 rfl) 0 rfl ?_
          refine kJ h (fun r69 => KK X B L 7 0 0 r69.2 251 [(2, .ref (B.1 + p2))] [.int r69.1, .int (jshr p1 5), .int 1, .ref (B.1 + p0)]) (fun r69 h => ?_) (fun h => ?_)
          · obtain ⟨t67, M68⟩ := r69
            show KK X B L 7 0 0 M68 251 [(2, .ref (B.1 + p2))] [.int t67, .int (jshr p1 5), .int 1, .ref (B.1 + p0)]
            obtain ⟨x71, e70, h⟩ := kOk_b h
            refine k_cSI G (dc d_La_act 133 rfl) mi_La_low ms_La_low ml_RL_44 (c_La_low (gst G)  e70) rfl rfl ⟨rfl, rfl⟩ rfl ⟨rfl, rfl⟩ ⟨rfl, rfl⟩ ?_
            refine k_iconst G (dc d_La_act 134 rfl) cI_0 ?_
            refine k_aload_n G (dc d_La_act 135 rfl) 0 rfl rfl ?_
            obtain ⟨⟨x73, M74⟩, e72, h⟩ := kOk_b h
            refine k_cSH G (dc d_La_act 136 rfl) mh_La_changes ms_La_changes ml_RL_52 (c_La_changes (gst G) hx hp0 hp2 e72) rfl rfl ⟨rfl, rfl⟩ rfl ⟨rfl, rfl⟩ ?_
            show KK X B L 7 2 12 M74 259 [(2, .ref (B.1 + p2))] [.int x73]
            exact (kOk_s h) _ _ _ _ rfl rfl rfl (dc d_La_act 137 rfl)
          · refine k_if_eq G (dc d_La_act 119 rfl) (tgt := 244) rfl (fun c75 => ?_) (fun c75 => ?_)
            · replace h := kOk_p c75 h
              refine k_aload_n G (dc d_La_act 128 rfl) 1 rfl rfl ?_
              refine k_iconst G (dc d_La_act 129 rfl) cI_1 ?_
              obtain ⟨⟨x77, M78⟩, e76, h⟩ := kOk_b h
              refine k_cVI G (dc d_La_act 130 rfl) kc7 (okL_lt hp0 (o := 0) 0 rfl) (okL_k hp0 (o := 0) 0 rfl) mi_SR_about mv_SR_about rfl ml_RL_60 (c_Sn_about (gst G) hp0 e76) rfl rfl ⟨rfl, rfl⟩ rfl ⟨rfl, rfl⟩ ⟨rfl, rfl⟩ ?_
              refine k_iconst G (dc d_La_act 131 rfl) cI_1 ?_
              refine k_iadd G (dc d_La_act 132 rfl) ?_
              refine k_sub [2] rfl ?_
              have h9 := kOk_s h
              exact h9
            · replace h := kOk_n c75 h
              refine k_aload_n G (dc d_La_act 120 rfl) 1 rfl rfl ?_
              refine k_iconst G (dc d_La_act 121 rfl) cI_1 ?_
              obtain ⟨⟨x80, M81⟩, e79, h⟩ := kOk_b h
              refine k_cVI G (dc d_La_act 122 rfl) kc7 (okL_lt hp0 (o := 0) 0 rfl) (okL_k hp0 (o := 0) 0 rfl) mi_SR_about mv_SR_about rfl ml_RL_60 (c_Sn_about (gst G) hp0 e79) rfl rfl ⟨rfl, rfl⟩ rfl ⟨rfl, rfl⟩ ⟨rfl, rfl⟩ ?_
              refine k_if_le G (dc d_La_act 123 rfl) (tgt := 244) rfl (fun c82 => ?_) (fun c82 => ?_)
              · replace h := kOk_p c82 h
                refine k_aload_n G (dc d_La_act 128 rfl) 1 rfl rfl ?_
                refine k_iconst G (dc d_La_act 129 rfl) cI_1 ?_
                obtain ⟨⟨x84, M85⟩, e83, h⟩ := kOk_b h
                refine k_cVI G (dc d_La_act 130 rfl) kc7 (okL_lt hp0 (o := 0) 0 rfl) (okL_k hp0 (o := 0) 0 rfl) mi_SR_about mv_SR_about rfl ml_RL_60 (c_Sn_about (gst G) hp0 e83) rfl rfl ⟨rfl, rfl⟩ rfl ⟨rfl, rfl⟩ ⟨rfl, rfl⟩ ?_
                refine k_iconst G (dc d_La_act 131 rfl) cI_1 ?_
                refine k_iadd G (dc d_La_act 132 rfl) ?_
                refine k_sub [2] rfl ?_
                have h9 := kOk_s h
                exact h9
              · replace h := kOk_n c82 h
                refine k_aload_n G (dc d_La_act 124 rfl) 1 rfl rfl ?_
                refine k_iconst G (dc d_La_act 125 rfl) cI_1 ?_
                obtain ⟨⟨x87, M88⟩, e86, h⟩ := kOk_b h
                refine k_cVI G (dc d_La_act 126 rfl) kc7 (okL_lt hp0 (o := 0) 0 rfl) (okL_k hp0 (o := 0) 0 rfl) mi_SR_about mv_SR_about rfl ml_RL_60 (c_Sn_about (gst G) hp0 e86) rfl rfl ⟨rfl, rfl⟩ rfl ⟨rfl, rfl⟩ ⟨rfl, rfl⟩ ?_
                refine k_goto G (dc d_La_act 127 rfl) (tgt := 251) rfl ?_
                refine k_sub [2] rfl ?_
                have h9 := kOk_s h
                exact h9
      · replace h := kOk_n c8 h
        refine k_iload G (dc d_La_act 48 rfl) 4 rfl ?_
        refine k_iconst G (dc d_La_act 49 rfl) cI_5 ?_
        obtain ⟨x90, e89, h⟩ := kOk_b h
        refine k_cSI G (dc d_La_act 50 rfl) mi_La_low ms_La_low ml_RL_44 (c_La_low (gst G)  e89) rfl rfl ⟨rfl, rfl⟩ rfl ⟨rfl, rfl⟩ ⟨rfl, rfl⟩ ?_
        refine k_iconst G (dc d_La_act 51 rfl) cI_3 ?_
        refine kJ h (fun r92 => KK X B L 7 0 0 M 119 [(0, .ref (B.1 + p0)), (2, .ref (B.1 + p2)), (4, .int (jshr p1 5)), (5, .int t5)] [.int r92]) (fun r92 h => ?_) (fun h => ?_)
        · obtain ⟨t91, rfl⟩ : ∃ z, z = r92 := ⟨_, rfl⟩
          show KK X B L 7 0 0 M 119 [(0, .ref (B.1 + p0)), (2, .ref (B.1 + p2)), (4, .int (jshr p1 5)), (5, .int t5)] [.int t91]
          refine k_istore G (dc d_La_act 63 rfl) (ls' := [(6, .int t91), (0, .ref (B.1 + p0)), (2, .ref (B.1 + p2)), (4, .int (jshr p1 5)), (5, .int t5)]) rfl rfl ?_
          refine k_aload_n G (dc d_La_act 64 rfl) 1 rfl rfl ?_
          refine k_iload G (dc d_La_act 65 rfl) 0 rfl ?_
          refine k_iload G (dc d_La_act 66 rfl) 3 rfl ?_
          refine k_iconst G (dc d_La_act 67 rfl) cI_3 ?_
          refine k_ishr G (dc d_La_act 68 rfl) ?_
          refine k_iload G (dc d_La_act 69 rfl) 4 rfl ?_
          refine kJ h (fun r94 => KK X B L 7 0 0 M 140 [(2, .ref (B.1 + p2)), (4, .int (jshr p1 5)), (5, .int t5), (6, .int t91)] [.int r94, .int (jshr (jshr p1 5) 3), .int t91, .ref (B.1 + p0)]) (fun r94 h => ?_) (fun h => ?_)
          · obtain ⟨t93, rfl⟩ : ∃ z, z = r94 := ⟨_, rfl⟩
            show KK X B L 7 0 0 M 140 [(2, .ref (B.1 + p2)), (4, .int (jshr p1 5)), (5, .int t5), (6, .int t91)] [.int t93, .int (jshr (jshr p1 5) 3), .int t91, .ref (B.1 + p0)]
            obtain ⟨x96, e95, h⟩ := kOk_b h
            refine k_cSI G (dc d_La_act 74 rfl) mi_La_low ms_La_low ml_RL_44 (c_La_low (gst G)  e95) rfl rfl ⟨rfl, rfl⟩ rfl ⟨rfl, rfl⟩ ⟨rfl, rfl⟩ ?_
            refine k_iload G (dc d_La_act 75 rfl) 2 rfl ?_
            refine kJ h (fun r98 => KK X B L 7 0 0 M 153 [(2, .ref (B.1 + p2)), (4, .int (jshr p1 5)), (5, .int t5), (6, .int t91)] [.int r98, .int x96, .int t91, .ref (B.1 + p0)]) (fun r98 h => ?_) (fun h => ?_)
            · obtain ⟨t97, rfl⟩ : ∃ z, z = r98 := ⟨_, rfl⟩
              show KK X B L 7 0 0 M 153 [(2, .ref (B.1 + p2)), (4, .int (jshr p1 5)), (5, .int t5), (6, .int t91)] [.int t97, .int x96, .int t91, .ref (B.1 + p0)]
              refine k_iadd G (dc d_La_act 80 rfl) ?_
              refine k_iload G (dc d_La_act 81 rfl) 2 rfl ?_
              refine kJ h (fun r100 => KK X B L 7 0 0 M 181 [(2, .ref (B.1 + p2)), (4, .int (jshr p1 5)), (5, .int t5), (6, .int t91)] [.int r100, .int (x96 + t97), .int t91, .ref (B.1 + p0)]) (fun r100 h => ?_) (fun h => ?_)
              · obtain ⟨t99, rfl⟩ : ∃ z, z = r100 := ⟨_, rfl⟩
                show KK X B L 7 0 0 M 181 [(2, .ref (B.1 + p2)), (4, .int (jshr p1 5)), (5, .int t5), (6, .int t91)] [.int t99, .int (x96 + t97), .int t91, .ref (B.1 + p0)]
                refine k_iload G (dc d_La_act 95 rfl) 2 rfl ?_
                refine kJ h (fun r102 => KK X B L 7 0 0 M 208 [(2, .ref (B.1 + p2))] [.int r102, .int t99, .int (x96 + t97), .int t91, .ref (B.1 + p0)]) (fun r102 h => ?_) (fun h => ?_)
                · obtain ⟨t101, rfl⟩ : ∃ z, z = r102 := ⟨_, rfl⟩
                  show KK X B L 7 0 0 M 208 [(2, .ref (B.1 + p2))] [.int t101, .int t99, .int (x96 + t97), .int t91, .ref (B.1 + p0)]
                  refine k_aload_n G (dc d_La_act 109 rfl) 0 rfl rfl ?_
                  obtain ⟨⟨x104, M105⟩, e103, h⟩ := kOk_b h
                  refine k_cSH G (dc d_La_act 110 rfl) mh_La_decrees ms_La_decrees ml_RL_56 (c_La_decrees (gst G) hx hp0 hp2 e103) rfl rfl ⟨rfl, rfl⟩ rfl ⟨rfl, rfl⟩ ?_
                  show KK X B L 7 2 12 M105 212 [(2, .ref (B.1 + p2))] [.int x104]
                  exact (kOk_s h) _ _ _ _ rfl rfl rfl (dc d_La_act 111 rfl)
                · refine k_if_eq G (dc d_La_act 96 rfl) (tgt := 196) rfl (fun c106 => ?_) (fun c106 => ?_)
                  · replace h := kOk_p c106 h
                    refine k_iconst G (dc d_La_act 102 rfl) cI_1 ?_
                    refine k_iload G (dc d_La_act 103 rfl) 1 rfl ?_
                    refine k_bipush G (dc d_La_act 104 rfl) cB_9 ?_
                    refine k_ishr G (dc d_La_act 105 rfl) ?_
                    refine k_bipush G (dc d_La_act 106 rfl) cB_6 ?_
                    obtain ⟨x108, e107, h⟩ := kOk_b h
                    refine k_cSI G (dc d_La_act 107 rfl) mi_La_low ms_La_low ml_RL_44 (c_La_low (gst G)  e107) rfl rfl ⟨rfl, rfl⟩ rfl ⟨rfl, rfl⟩ ⟨rfl, rfl⟩ ?_
                    refine k_iadd G (dc d_La_act 108 rfl) ?_
                    refine k_sub [0] rfl ?_
                    have h9 := kOk_s h
                    exact h9
                  · replace h := kOk_n c106 h
                    refine k_iload G (dc d_La_act 97 rfl) 3 rfl ?_
                    refine k_iconst G (dc d_La_act 98 rfl) cI_1 ?_
                    refine k_icmp_eq G (dc d_La_act 99 rfl) (tgt := 196) rfl (fun c109 => ?_) (fun c109 => ?_)
                    · replace h := kOk_p c109 h
                      refine k_iconst G (dc d_La_act 102 rfl) cI_1 ?_
                      refine k_iload G (dc d_La_act 103 rfl) 1 rfl ?_
                      refine k_bipush G (dc d_La_act 104 rfl) cB_9 ?_
                      refine k_ishr G (dc d_La_act 105 rfl) ?_
                      refine k_bipush G (dc d_La_act 106 rfl) cB_6 ?_
                      obtain ⟨x111, e110, h⟩ := kOk_b h
                      refine k_cSI G (dc d_La_act 107 rfl) mi_La_low ms_La_low ml_RL_44 (c_La_low (gst G)  e110) rfl rfl ⟨rfl, rfl⟩ rfl ⟨rfl, rfl⟩ ⟨rfl, rfl⟩ ?_
                      refine k_iadd G (dc d_La_act 108 rfl) ?_
                      refine k_sub [0] rfl ?_
                      have h9 := kOk_s h
                      exact h9
                    · replace h := kOk_n c109 h
                      refine k_iconst G (dc d_La_act 100 rfl) cI_0 ?_
                      refine k_goto G (dc d_La_act 101 rfl) (tgt := 208) rfl ?_
                      refine k_sub [0] rfl ?_
                      have h9 := kOk_s h
                      exact h9
              · refine k_if_eq G (dc d_La_act 82 rfl) (tgt := 169) rfl (fun c112 => ?_) (fun c112 => ?_)
                · replace h := kOk_p c112 h
                  refine k_iconst G (dc d_La_act 88 rfl) cI_1 ?_
                  refine k_iload G (dc d_La_act 89 rfl) 1 rfl ?_
                  refine k_bipush G (dc d_La_act 90 rfl) cB_6 ?_
                  refine k_ishr G (dc d_La_act 91 rfl) ?_
                  refine k_bipush G (dc d_La_act 92 rfl) cB_6 ?_
                  obtain ⟨x114, e113, h⟩ := kOk_b h
                  refine k_cSI G (dc d_La_act 93 rfl) mi_La_low ms_La_low ml_RL_44 (c_La_low (gst G)  e113) rfl rfl ⟨rfl, rfl⟩ rfl ⟨rfl, rfl⟩ ⟨rfl, rfl⟩ ?_
                  refine k_iadd G (dc d_La_act 94 rfl) ?_
                  have h9 := kOk_s h
                  exact h9
                · replace h := kOk_n c112 h
                  refine k_iload G (dc d_La_act 83 rfl) 3 rfl ?_
                  refine k_iconst G (dc d_La_act 84 rfl) cI_1 ?_
                  refine k_icmp_eq G (dc d_La_act 85 rfl) (tgt := 169) rfl (fun c115 => ?_) (fun c115 => ?_)
                  · replace h := kOk_p c115 h
                    refine k_iconst G (dc d_La_act 88 rfl) cI_1 ?_
                    refine k_iload G (dc d_La_act 89 rfl) 1 rfl ?_
                    refine k_bipush G (dc d_La_act 90 rfl) cB_6 ?_
                    refine k_ishr G (dc d_La_act 91 rfl) ?_
                    refine k_bipush G (dc d_La_act 92 rfl) cB_6 ?_
                    obtain ⟨x117, e116, h⟩ := kOk_b h
                    refine k_cSI G (dc d_La_act 93 rfl) mi_La_low ms_La_low ml_RL_44 (c_La_low (gst G)  e116) rfl rfl ⟨rfl, rfl⟩ rfl ⟨rfl, rfl⟩ ⟨rfl, rfl⟩ ?_
                    refine k_iadd G (dc d_La_act 94 rfl) ?_
                    have h9 := kOk_s h
                    exact h9
                  · replace h := kOk_n c115 h
                    refine k_iconst G (dc d_La_act 86 rfl) cI_0 ?_
                    refine k_goto G (dc d_La_act 87 rfl) (tgt := 181) rfl ?_
                    have h9 := kOk_s h
                    exact h9
            · refine k_if_eq G (dc d_La_act 76 rfl) (tgt := 152) rfl (fun c118 => ?_) (fun c118 => ?_)
              · replace h := kOk_p c118 h
                refine k_iconst G (dc d_La_act 79 rfl) cI_0 ?_
                have h9 := kOk_s h
                exact h9
              · replace h := kOk_n c118 h
                refine k_iconst G (dc d_La_act 77 rfl) cI_1 ?_
                refine k_goto G (dc d_La_act 78 rfl) (tgt := 153) rfl ?_
                have h9 := kOk_s h
                exact h9
          · refine k_if_eq G (dc d_La_act 70 rfl) (tgt := 138) rfl (fun c119 => ?_) (fun c119 => ?_)
            · replace h := kOk_p c119 h
              refine k_bipush G (dc d_La_act 73 rfl) cB_8 ?_
              refine k_sub [2, 3, 4, 0] rfl ?_
              have h9 := kOk_s h
              exact h9
            · replace h := kOk_n c119 h
              refine k_bipush G (dc d_La_act 71 rfl) cB_6 ?_
              refine k_goto G (dc d_La_act 72 rfl) (tgt := 140) rfl ?_
              refine k_sub [2, 3, 4, 0] rfl ?_
              have h9 := kOk_s h
              exact h9
        · refine k_icmp_ge G (dc d_La_act 52 rfl) (tgt := 104) rfl (fun c120 => ?_) (fun c120 => ?_)
          · replace h := kOk_p c120 h
            refine k_iload G (dc d_La_act 55 rfl) 4 rfl ?_
            refine k_iconst G (dc d_La_act 56 rfl) cI_5 ?_
            obtain ⟨x122, e121, h⟩ := kOk_b h
            refine k_cSI G (dc d_La_act 57 rfl) mi_La_low ms_La_low ml_RL_44 (c_La_low (gst G)  e121) rfl rfl ⟨rfl, rfl⟩ rfl ⟨rfl, rfl⟩ ⟨rfl, rfl⟩ ?_
            refine k_iconst G (dc d_La_act 58 rfl) cI_3 ?_
            refine k_icmp_ne G (dc d_La_act 59 rfl) (tgt := 118) rfl (fun c123 => ?_) (fun c123 => ?_)
            · replace h := kOk_n c123 h
              refine k_iconst G (dc d_La_act 62 rfl) cI_2 ?_
              refine k_sub [1, 2, 4, 0] rfl ?_
              have h9 := kOk_s h
              exact h9
            · replace h := kOk_p c123 h
              refine k_iconst G (dc d_La_act 60 rfl) cI_0 ?_
              refine k_goto G (dc d_La_act 61 rfl) (tgt := 119) rfl ?_
              refine k_sub [1, 2, 4, 0] rfl ?_
              have h9 := kOk_s h
              exact h9
          · replace h := kOk_n c120 h
            refine k_iconst G (dc d_La_act 53 rfl) cI_1 ?_
            refine k_goto G (dc d_La_act 54 rfl) (tgt := 119) rfl ?_
            refine k_sub [1, 2, 4, 0] rfl ?_
            have h9 := kOk_s h
            exact h9
    · replace h := kOk_n c7 h
      refine k_aload_n G (dc d_La_act 21 rfl) 1 rfl rfl ?_
      refine k_iconst G (dc d_La_act 22 rfl) cI_0 ?_
      refine k_iload G (dc d_La_act 23 rfl) 4 rfl ?_
      refine k_iload G (dc d_La_act 24 rfl) 0 rfl ?_
      refine kJ h (fun r125 => KK X B L 7 0 0 M 51 [(2, .ref (B.1 + p2)), (4, .int (jshr p1 5)), (5, .int t5)] [.int r125, .int (jshr p1 5), .int 0, .ref (B.1 + p0)]) (fun r125 h => ?_) (fun h => ?_)
      · obtain ⟨t124, rfl⟩ : ∃ z, z = r125 := ⟨_, rfl⟩
        show KK X B L 7 0 0 M 51 [(2, .ref (B.1 + p2)), (4, .int (jshr p1 5)), (5, .int t5)] [.int t124, .int (jshr p1 5), .int 0, .ref (B.1 + p0)]
        obtain ⟨x127, e126, h⟩ := kOk_b h
        refine k_cSI G (dc d_La_act 29 rfl) mi_La_low ms_La_low ml_RL_44 (c_La_low (gst G)  e126) rfl rfl ⟨rfl, rfl⟩ rfl ⟨rfl, rfl⟩ ⟨rfl, rfl⟩ ?_
        refine k_iload G (dc d_La_act 30 rfl) 2 rfl ?_
        refine kJ h (fun r129 => KK X B L 7 0 0 M 79 [(2, .ref (B.1 + p2))] [.int r129, .int x127, .int 0, .ref (B.1 + p0)]) (fun r129 h => ?_) (fun h => ?_)
        · obtain ⟨t128, rfl⟩ : ∃ z, z = r129 := ⟨_, rfl⟩
          show KK X B L 7 0 0 M 79 [(2, .ref (B.1 + p2))] [.int t128, .int x127, .int 0, .ref (B.1 + p0)]
          refine k_aload_n G (dc d_La_act 42 rfl) 0 rfl rfl ?_
          obtain ⟨⟨x131, M132⟩, e130, h⟩ := kOk_b h
          refine k_cSH G (dc d_La_act 43 rfl) mh_La_changes ms_La_changes ml_RL_52 (c_La_changes (gst G) hx hp0 hp2 e130) rfl rfl ⟨rfl, rfl⟩ rfl ⟨rfl, rfl⟩ ?_
          show KK X B L 7 2 12 M132 83 [(2, .ref (B.1 + p2))] [.int x131]
          exact (kOk_s h) _ _ _ _ rfl rfl rfl (dc d_La_act 44 rfl)
        · refine k_if_eq G (dc d_La_act 31 rfl) (tgt := 69) rfl (fun c133 => ?_) (fun c133 => ?_)
          · replace h := kOk_p c133 h
            refine k_iload G (dc d_La_act 37 rfl) 1 rfl ?_
            refine k_iconst G (dc d_La_act 38 rfl) cI_2 ?_
            refine k_ishr G (dc d_La_act 39 rfl) ?_
            refine k_sipush G (dc d_La_act 40 rfl) cS_700 ?_
            obtain ⟨x135, e134, h⟩ := kOk_b h
            refine k_cSI G (dc d_La_act 41 rfl) mi_La_low ms_La_low ml_RL_44 (c_La_low (gst G)  e134) rfl rfl ⟨rfl, rfl⟩ rfl ⟨rfl, rfl⟩ ⟨rfl, rfl⟩ ?_
            refine k_sub [0] rfl ?_
            have h9 := kOk_s h
            exact h9
          · replace h := kOk_n c133 h
            refine k_iload G (dc d_La_act 32 rfl) 1 rfl ?_
            refine k_iconst G (dc d_La_act 33 rfl) cI_2 ?_
            refine k_ishr G (dc d_La_act 34 rfl) ?_
            obtain ⟨x137, e136, h⟩ := kOk_b h
            refine k_cSI G (dc d_La_act 35 rfl) mi_La_word ms_La_word ml_RL_49 (c_La_word (gst G)  e136) rfl rfl ⟨rfl, rfl⟩ rfl ⟨rfl, rfl⟩ ⟨rfl, rfl⟩ ?_
            refine k_goto G (dc d_La_act 36 rfl) (tgt := 79) rfl ?_
            refine k_sub [0] rfl ?_
            have h9 := kOk_s h
            exact h9
      · refine k_if_eq G (dc d_La_act 25 rfl) (tgt := 50) rfl (fun c138 => ?_) (fun c138 => ?_)
        · replace h := kOk_p c138 h
          refine k_iconst G (dc d_La_act 28 rfl) cI_5 ?_
          refine k_sub [2, 4, 0] rfl ?_
          have h9 := kOk_s h
          exact h9
        · replace h := kOk_n c138 h
          refine k_iconst G (dc d_La_act 26 rfl) cI_3 ?_
          refine k_goto G (dc d_La_act 27 rfl) (tgt := 51) rfl ?_
          refine k_sub [2, 4, 0] rfl ?_
          have h9 := kOk_s h
          exact h9
  · refine k_if_le G (dc d_La_act 13 rfl) (tgt := 28) rfl (fun c139 => ?_) (fun c139 => ?_)
    · replace h := kOk_p c139 h
      refine k_iconst G (dc d_La_act 16 rfl) cI_0 ?_
      refine k_sub [2, 4, 1, 0] rfl ?_
      have h9 := kOk_s h
      exact h9
    · replace h := kOk_n c139 h
      refine k_iconst G (dc d_La_act 14 rfl) cI_1 ?_
      refine k_goto G (dc d_La_act 15 rfl) (tgt := 29) rfl ?_
      refine k_sub [2, 4, 1, 0] rfl ?_
      have h9 := kOk_s h
      exact h9
theorem c_La_act {l : Launch} {B : KB} {L : KLay} {M : KMem} {p0 : Nat} {p1 : Int32} {p2 : Nat} {p2n : Nat} (hst : l.stackTraces = false) (hx : B.2.2.2 = false) (hp0 : okL L p0 srT) (hp2 : arL L p2 9 p2n) {r : Int32} {M' : KMem} (e : m_La_act p0 p1 p2 p2n M = some (r, M')) : CtrN l B yL_act cL_act 7 (some .int) rm_La_act [.ref (B.1 + p0), .int p1, .ref (B.1 + p2)] L M (some (.int r)) L M' :=
  mk_I rfl hst rfl (fun X hl G _ R => b_La_act G hx hp0 hp2 ⟨_, e, R⟩)
def I_La_areAlike : List (Nat × Instr × Nat) := [(0, .aload_n 0, 1), (1, .iconst 0, 1), (2, .invokevirtual 63, 3), (5, .aload_n 1, 1), (6, .iconst 0, 1), (7, .invokevirtual 63, 3), (10, .if_icmp .ne 20, 3), (13, .aload_n 0, 1), (14, .iconst 1, 1), (15, .invokevirtual 63, 3), (18, .aload_n 1, 1), (19, .iconst 1, 1), (20, .invokevirtual 63, 3), (23, .if_icmp .ne 7, 3), (26, .iconst 1, 1), (27, .goto 4, 3), (30, .iconst 0, 1), (31, .istore_n 2, 1), (32, .iconst 0, 1), (33, .istore_n 3, 1), (34, .iload_n 3, 1), (35, .bipush 12, 2), (37, .if_icmp .ge 32, 3), (40, .iload_n 2, 1), (41, .ifCond .eq 20, 3), (44, .aload_n 0, 1), (45, .iload_n 3, 1), (46, .invokevirtual 60, 3), (49, .aload_n 1, 1), (50, .iload_n 3, 1), (51, .invokevirtual 60, 3), (54, .if_icmp .ne 7, 3), (57, .iconst 1, 1), (58, .goto 4, 3), (61, .iconst 0, 1), (62, .istore_n 2, 1), (63, .iinc 3 1, 3), (66, .goto (-32), 3), (69, .iconst 0, 1), (70, .istore_n 3, 1), (71, .iload_n 3, 1), (72, .bipush 8, 2), (74, .aload_n 0, 1), (75, .iconst 0, 1), (76, .invokevirtual 60, 3), (79, .imul, 1), (80, .if_icmp .ge 46, 3), (83, .iload_n 2, 1), (84, .ifCond .eq 34, 3), (87, .aload_n 0, 1), (88, .iload_n 3, 1), (89, .bipush 8, 2), (91, .idiv, 1), (92, .iload_n 3, 1), (93, .bipush 8, 2), (95, .irem, 1), (96, .invokevirtual 66, 3), (99, .aload_n 1, 1), (100, .iload_n 3, 1), (101, .bipush 8, 2), (103, .idiv, 1), (104, .iload_n 3, 1), (105, .bipush 8, 2), (107, .irem, 1), (108, .invokevirtual 66, 3), (111, .if_icmp .ne 7, 3), (114, .iconst 1, 1), (115, .goto 4, 3), (118, .iconst 0, 1), (119, .istore_n 2, 1), (120, .iinc 3 1, 3), (123, .goto (-52), 3), (126, .iconst 0, 1), (127, .istore_n 3, 1), (128, .iload_n 3, 1), (129, .iconst 5, 1), (130, .aload_n 0, 1), (131, .iconst 1, 1), (132, .invokevirtual 60, 3), (135, .imul, 1), (136, .if_icmp .ge 42, 3), (139, .iload_n 2, 1), (140, .ifCond .eq 30, 3), (143, .aload_n 0, 1), (144, .iload_n 3, 1), (145, .iconst 5, 1), (146, .idiv, 1), (147, .iload_n 3, 1), (148, .iconst 5, 1), (149, .irem, 1), (150, .invokevirtual 69, 3), (153, .aload_n 1, 1), (154, .iload_n 3, 1), (155, .iconst 5, 1), (156, .idiv, 1), (157, .iload_n 3, 1), (158, .iconst 5, 1), (159, .irem, 1), (160, .invokevirtual 69, 3), (163, .if_icmp .ne 7, 3), (166, .iconst 1, 1), (167, .goto 4, 3), (170, .iconst 0, 1), (171, .istore_n 2, 1), (172, .iinc 3 1, 3), (175, .goto (-47), 3), (178, .iconst 0, 1), (179, .istore_n 3, 1), (180, .iload_n 3, 1), (181, .bipush 16, 2), (183, .if_icmp .ge 42, 3), (186, .iload_n 2, 1), (187, .ifCond .eq 30, 3), (190, .aload_n 0, 1), (191, .iload_n 3, 1), (192, .iconst 4, 1), (193, .idiv, 1), (194, .iload_n 3, 1), (195, .iconst 4, 1), (196, .irem, 1), (197, .invokevirtual 72, 3), (200, .aload_n 1, 1), (201, .iload_n 3, 1), (202, .iconst 4, 1), (203, .idiv, 1), (204, .iload_n 3, 1), (205, .iconst 4, 1), (206, .irem, 1), (207, .invokevirtual 72, 3), (210, .if_icmp .ne 7, 3), (213, .iconst 1, 1), (214, .goto 4, 3), (217, .iconst 0, 1), (218, .istore_n 2, 1), (219, .iinc 3 1, 3), (222, .goto (-42), 3), (225, .iload_n 2, 1), (226, .ireturn, 1)]
set_option maxRecDepth 100000 in
theorem d_La_areAlike : decA cL_areAlike I_La_areAlike = true := by decide +kernel
abbrev rm_La_areAlike : Room := ({ frames := 8, cells := 0, slots := 0, locals := 179 } : Room)
def m_La_areAlike_l34 (p0 : Nat) (p1 : Nat) : (Int32 × Int32 × KMem) → Option ((Int32 × Int32 × KMem) ⊕ (Int32 × KMem)) := fun (v2_7, v3_8, M9) =>
 if 12 ≤ v3_8 then
 (some (.inr (v2_7, M9)))
 else
 (Option.bind (α := Int32 × KMem) (if v2_7 = 0 then
 (some (0, M9))
 else
 (Option.bind (m_Sn_about p0 v3_8 M9) fun (x16, M17) =>
 Option.bind (m_Sn_about p1 v3_8 M17) fun (x19, M20) =>
 if x16 = x19 then
 (some (1, M20))
 else
 (some (0, M20)))) fun (t11, M12) =>
 some (.inl (t11, v3_8 + 1, M12)))
def m_La_areAlike_l71 (p0 : Nat) (p1 : Nat) : (Int32 × Int32 × KMem) → Option ((Int32 × Int32 × KMem) ⊕ (Int32 × KMem)) := fun (v2_24, v3_25, M26) =>
 Option.bind (m_Sn_about p0 0 M26) fun (x28, M29) =>
 if (8 * x28) ≤ v3_25 then
 (some (.inr (v2_24, M29)))
 else
 (Option.bind (α := Int32 × KMem) (if v2_24 = 0 then
 (some (0, M29))
 else
 (Option.bind (m_Sn_signOf p0 (v3_25 / 8) (jrem v3_25 8) M29) fun (x36, M37) =>
 Option.bind (m_Sn_signOf p1 (v3_25 / 8) (jrem v3_25 8) M37) fun (x39, M40) =>
 if x36 = x39 then
 (some (1, M40))
 else
 (some (0, M40)))) fun (t31, M32) =>
 some (.inl (t31, v3_25 + 1, M32)))
def m_La_areAlike_l128 (p0 : Nat) (p1 : Nat) : (Int32 × Int32 × KMem) → Option ((Int32 × Int32 × KMem) ⊕ (Int32 × KMem)) := fun (v2_44, v3_45, M46) =>
 Option.bind (m_Sn_about p0 1 M46) fun (x48, M49) =>
 if (5 * x48) ≤ v3_45 then
 (some (.inr (v2_44, M49)))
 else
 (Option.bind (α := Int32) (if v2_44 = 0 then
 (some 0)
 else
 (Option.bind (m_Sn_decreeOf p0 (v3_45 / 5) (jrem v3_45 5) M49) fun x55 =>
 Option.bind (m_Sn_decreeOf p1 (v3_45 / 5) (jrem v3_45 5) M49) fun x57 =>
 if x55 = x57 then
 (some 1)
 else
 (some 0))) fun t51 =>
 some (.inl (t51, v3_45 + 1, M49)))
def m_La_areAlike_l180 (p0 : Nat) (p1 : Nat) (M60 : KMem) : (Int32 × Int32) → Option ((Int32 × Int32) ⊕ Int32) := fun (v2_61, v3_62) =>
 if 16 ≤ v3_62 then
 (some (.inr v2_61))
 else
 (Option.bind (α := Int32) (if v2_61 = 0 then
 (some 0)
 else
 (Option.bind (m_Sn_guildOf p0 (v3_62 / 4) (jrem v3_62 4) M60) fun x68 =>
 Option.bind (m_Sn_guildOf p1 (v3_62 / 4) (jrem v3_62 4) M60) fun x70 =>
 if x68 = x70 then
 (some 1)
 else
 (some 0))) fun t64 =>
 some (.inl (t64, v3_62 + 1)))
def m_La_areAlike (p0 : Nat) (p1 : Nat) (M : KMem) : Option (Int32 × KMem) :=
 Option.bind (m_Sn_setting p0 0 M) fun x2 =>
 Option.bind (m_Sn_setting p1 0 M) fun x4 =>
 Option.bind (α := Int32) (if x2 = x4 then
 (Option.bind (m_Sn_setting p0 1 M) fun x85 =>
 Option.bind (m_Sn_setting p1 1 M) fun x87 =>
 if x85 = x87 then
 (some 1)
 else
 (some 0))
 else
 (some 0)) fun t5 =>
 Option.bind (α := Int32 × KMem) (kLp (m_La_areAlike_l34 p0 p1) kFU (t5, 0, M)) fun (v2_22, M23) =>
 Option.bind (α := Int32 × KMem) (kLp (m_La_areAlike_l71 p0 p1) kFU (v2_22, 0, M23)) fun (v2_42, M43) =>
 Option.bind (α := Int32 × KMem) (kLp (m_La_areAlike_l128 p0 p1) kFU (v2_42, 0, M43)) fun (v2_59, M60) =>
 Option.bind (α := Int32) (kLp (m_La_areAlike_l180 p0 p1 M60) kFU (v2_59, 0)) fun v2_72 =>
 Option.bind (kz v2_72) fun z73 =>
 some (z73, M60)
set_option maxHeartbeats 4000000 in
set_option maxRecDepth 100000 in
theorem b_La_areAlike {X : KX} {B : KB} {L : KLay} {M : KMem} {p0 : Nat} {p1 : Nat} (G : Good X B RL cL_areAlike 4 rm_La_areAlike) (hp0 : okL L p0 srT) (hp1 : okL L p1 srT) (h : kOk (m_La_areAlike p0 p1 M) (fun r => RI X B L 4 cL_areAlike .boolean rm_La_areAlike r.1 r.2)) : KK X B L 4 0 0 M 0 [(0, .ref (B.1 + p0)), (1, .ref (B.1 + p1))] [] := by
  unfold m_La_areAlike at h
  refine k_aload_n G (dc d_La_areAlike 0 rfl) 0 rfl rfl ?_
  refine k_iconst G (dc d_La_areAlike 1 rfl) cI_0 ?_
  obtain ⟨x2, e1, h⟩ := kOk_b h
  refine k_cVI G (dc d_La_areAlike 2 rfl) kc7 (okL_lt hp0 (o := 0) 0 rfl) (okL_k hp0 (o := 0) 0 rfl) mi_SR_setting mv_SR_setting rfl ml_RL_63 (c_Sn_setting (gst G) hp0 e1) rfl rfl ⟨rfl, rfl⟩ rfl ⟨rfl, rfl⟩ ⟨rfl, rfl⟩ ?_
  refine k_aload_n G (dc d_La_areAlike 3 rfl) 1 rfl rfl ?_
  refine k_iconst G (dc d_La_areAlike 4 rfl) cI_0 ?_
  obtain ⟨x4, e3, h⟩ := kOk_b h
  refine k_cVI G (dc d_La_areAlike 5 rfl) kc7 (okL_lt hp1 (o := 0) 0 rfl) (okL_k hp1 (o := 0) 0 rfl) mi_SR_setting mv_SR_setting rfl ml_RL_63 (c_Sn_setting (gst G) hp1 e3) rfl rfl ⟨rfl, rfl⟩ rfl ⟨rfl, rfl⟩ ⟨rfl, rfl⟩ ?_
  refine kJ h (fun r6 => KK X B L 4 0 0 M 31 [(0, .ref (B.1 + p0)), (1, .ref (B.1 + p1))] [.int r6]) (fun r6 h => ?_) (fun h => ?_)
  · obtain ⟨t5, rfl⟩ : ∃ z, z = r6 := ⟨_, rfl⟩
    show KK X B L 4 0 0 M 31 [(0, .ref (B.1 + p0)), (1, .ref (B.1 + p1))] [.int t5]
    refine k_istore_n G (dc d_La_areAlike 17 rfl) (ls' := [(2, .int t5), (0, .ref (B.1 + p0)), (1, .ref (B.1 + p1))]) rfl rfl rfl ?_
    refine k_iconst G (dc d_La_areAlike 18 rfl) cI_0 ?_
    refine k_istore_n G (dc d_La_areAlike 19 rfl) (ls' := [(3, .int 0), (2, .int t5), (0, .ref (B.1 + p0)), (1, .ref (B.1 + p1))]) rfl rfl rfl ?_
    refine kJ h (fun r81 => KK X B L 4 0 0 r81.2 69 [(0, .ref (B.1 + p0)), (1, .ref (B.1 + p1)), (2, .int r81.1)] []) (fun r81 h => ?_) (fun h => ?_)
    · obtain ⟨v2_22, M23⟩ := r81
      show KK X B L 4 0 0 M23 69 [(0, .ref (B.1 + p0)), (1, .ref (B.1 + p1)), (2, .int v2_22)] []
      refine k_iconst G (dc d_La_areAlike 38 rfl) cI_0 ?_
      refine k_istore_n G (dc d_La_areAlike 39 rfl) (ls' := [(3, .int 0), (0, .ref (B.1 + p0)), (1, .ref (B.1 + p1)), (2, .int v2_22)]) rfl rfl rfl ?_
      refine kJ h (fun r79 => KK X B L 4 0 0 r79.2 126 [(0, .ref (B.1 + p0)), (1, .ref (B.1 + p1)), (2, .int r79.1)] []) (fun r79 h => ?_) (fun h => ?_)
      · obtain ⟨v2_42, M43⟩ := r79
        show KK X B L 4 0 0 M43 126 [(0, .ref (B.1 + p0)), (1, .ref (B.1 + p1)), (2, .int v2_42)] []
        refine k_iconst G (dc d_La_areAlike 72 rfl) cI_0 ?_
        refine k_istore_n G (dc d_La_areAlike 73 rfl) (ls' := [(3, .int 0), (0, .ref (B.1 + p0)), (1, .ref (B.1 + p1)), (2, .int v2_42)]) rfl rfl rfl ?_
        refine kJ h (fun r77 => KK X B L 4 0 0 r77.2 178 [(0, .ref (B.1 + p0)), (1, .ref (B.1 + p1)), (2, .int r77.1)] []) (fun r77 h => ?_) (fun h => ?_)
        · obtain ⟨v2_59, M60⟩ := r77
          show KK X B L 4 0 0 M60 178 [(0, .ref (B.1 + p0)), (1, .ref (B.1 + p1)), (2, .int v2_59)] []
          refine k_iconst G (dc d_La_areAlike 106 rfl) cI_0 ?_
          refine k_istore_n G (dc d_La_areAlike 107 rfl) (ls' := [(3, .int 0), (0, .ref (B.1 + p0)), (1, .ref (B.1 + p1)), (2, .int v2_59)]) rfl rfl rfl ?_
          refine kJ h (fun r75 => KK X B L 4 0 0 M60 225 [(2, .int r75)] []) (fun r75 h => ?_) (fun h => ?_)
          · obtain ⟨v2_72, rfl⟩ : ∃ z, z = r75 := ⟨_, rfl⟩
            show KK X B L 4 0 0 M60 225 [(2, .int v2_72)] []
            refine k_iload_n G (dc d_La_areAlike 136 rfl) 0 rfl rfl ?_
            obtain ⟨z73, e74, h⟩ := kOk_b h
            obtain ⟨e74, nz73, -⟩ := kz_ok e74
            rw [e74]
            exact (kOk_s h) _ _ _ _ rfl rfl nz73 (dc d_La_areAlike 137 rfl)
          · refine k_sub [1, 2, 3, 0] rfl ?_
            refine kLp_ok (P := fun s76 => KK X B L 4 0 0 M60 180 [(0, .ref (B.1 + p0)), (1, .ref (B.1 + p1)), (2, .int s76.1), (3, .int s76.2)] []) (fun s76 h => ?_) kFU _ h
            obtain ⟨v2_61, v3_62⟩ := s76
            unfold m_La_areAlike_l180 at h
            show KK X B L 4 0 0 M60 180 [(0, .ref (B.1 + p0)), (1, .ref (B.1 + p1)), (2, .int v2_61), (3, .int v3_62)] []
            refine k_iload_n G (dc d_La_areAlike 108 rfl) 3 rfl rfl ?_
            refine k_bipush G (dc d_La_areAlike 109 rfl) cB_16 ?_
            refine k_icmp_ge G (dc d_La_areAlike 110 rfl) (tgt := 225) rfl (fun c63 => ?_) (fun c63 => ?_)
            · replace h := kOk_p c63 h
              refine k_sub [2] rfl ?_
              have h9 := kOk_s h
              exact h9
            · replace h := kOk_n c63 h
              refine k_iload_n G (dc d_La_areAlike 111 rfl) 2 rfl rfl ?_
              refine kJ h (fun r65 => KK X B L 4 0 0 M60 218 [(0, .ref (B.1 + p0)), (1, .ref (B.1 + p1)), (3, .int v3_62)] [.int r65]) (fun r65 h => ?_) (fun h => ?_)
              · obtain ⟨t64, rfl⟩ : ∃ z, z = r65 := ⟨_, rfl⟩
                show KK X B L 4 0 0 M60 218 [(0, .ref (B.1 + p0)), (1, .ref (B.1 + p1)), (3, .int v3_62)] [.int t64]
                refine k_istore_n G (dc d_La_areAlike 133 rfl) (ls' := [(2, .int t64), (0, .ref (B.1 + p0)), (1, .ref (B.1 + p1)), (3, .int v3_62)]) rfl rfl rfl ?_
                refine k_iinc G (dc d_La_areAlike 134 rfl) (ls' := [(3, .int (v3_62 + 1)), (2, .int t64), (0, .ref (B.1 + p0)), (1, .ref (B.1 + p1))]) 3 rfl cI_1 rfl rfl ?_
                refine k_goto G (dc d_La_areAlike 135 rfl) (tgt := 180) rfl ?_
                refine k_sub [2, 3, 1, 0] rfl ?_
                have h9 := kOk_s h
                exact h9
              · refine k_if_eq G (dc d_La_areAlike 112 rfl) (tgt := 217) rfl (fun c66 => ?_) (fun c66 => ?_)
                · replace h := kOk_p c66 h
                  refine k_iconst G (dc d_La_areAlike 132 rfl) cI_0 ?_
                  refine k_sub [0, 1, 3] rfl ?_
                  have h9 := kOk_s h
                  exact h9
                · replace h := kOk_n c66 h
                  refine k_aload_n G (dc d_La_areAlike 113 rfl) 0 rfl rfl ?_
                  refine k_iload_n G (dc d_La_areAlike 114 rfl) 3 rfl rfl ?_
                  refine k_iconst G (dc d_La_areAlike 115 rfl) cI_4 ?_
                  refine k_idiv G (dc d_La_areAlike 116 rfl) czI_4 ?_
                  refine k_iload_n G (dc d_La_areAlike 117 rfl) 3 rfl rfl ?_
                  refine k_iconst G (dc d_La_areAlike 118 rfl) cI_4 ?_
                  refine k_irem G (dc d_La_areAlike 119 rfl) czI_4 ?_
                  obtain ⟨x68, e67, h⟩ := kOk_b h
                  refine k_cVI G (dc d_La_areAlike 120 rfl) kc7 (okL_lt hp0 (o := 0) 0 rfl) (okL_k hp0 (o := 0) 0 rfl) mi_SR_guildOf mv_SR_guildOf rfl ml_RL_72 (c_Sn_guildOf (gst G) hp0 e67) rfl rfl ⟨rfl, rfl⟩ rfl ⟨rfl, rfl⟩ ⟨rfl, rfl⟩ ?_
                  refine k_aload_n G (dc d_La_areAlike 121 rfl) 1 rfl rfl ?_
                  refine k_iload_n G (dc d_La_areAlike 122 rfl) 3 rfl rfl ?_
                  refine k_iconst G (dc d_La_areAlike 123 rfl) cI_4 ?_
                  refine k_idiv G (dc d_La_areAlike 124 rfl) czI_4 ?_
                  refine k_iload_n G (dc d_La_areAlike 125 rfl) 3 rfl rfl ?_
                  refine k_iconst G (dc d_La_areAlike 126 rfl) cI_4 ?_
                  refine k_irem G (dc d_La_areAlike 127 rfl) czI_4 ?_
                  obtain ⟨x70, e69, h⟩ := kOk_b h
                  refine k_cVI G (dc d_La_areAlike 128 rfl) kc7 (okL_lt hp1 (o := 0) 0 rfl) (okL_k hp1 (o := 0) 0 rfl) mi_SR_guildOf mv_SR_guildOf rfl ml_RL_72 (c_Sn_guildOf (gst G) hp1 e69) rfl rfl ⟨rfl, rfl⟩ rfl ⟨rfl, rfl⟩ ⟨rfl, rfl⟩ ?_
                  refine k_icmp_ne G (dc d_La_areAlike 129 rfl) (tgt := 217) rfl (fun c71 => ?_) (fun c71 => ?_)
                  · replace h := kOk_n c71 h
                    refine k_iconst G (dc d_La_areAlike 132 rfl) cI_0 ?_
                    refine k_sub [0, 1, 3] rfl ?_
                    have h9 := kOk_s h
                    exact h9
                  · replace h := kOk_p c71 h
                    refine k_iconst G (dc d_La_areAlike 130 rfl) cI_1 ?_
                    refine k_goto G (dc d_La_areAlike 131 rfl) (tgt := 218) rfl ?_
                    refine k_sub [0, 1, 3] rfl ?_
                    have h9 := kOk_s h
                    exact h9
        · refine k_sub [1, 2, 3, 0] rfl ?_
          refine kLp_ok (P := fun s78 => KK X B L 4 0 0 s78.2.2 128 [(0, .ref (B.1 + p0)), (1, .ref (B.1 + p1)), (2, .int s78.1), (3, .int s78.2.1)] []) (fun s78 h => ?_) kFU _ h
          obtain ⟨v2_44, v3_45, M46⟩ := s78
          unfold m_La_areAlike_l128 at h
          show KK X B L 4 0 0 M46 128 [(0, .ref (B.1 + p0)), (1, .ref (B.1 + p1)), (2, .int v2_44), (3, .int v3_45)] []
          refine k_iload_n G (dc d_La_areAlike 74 rfl) 3 rfl rfl ?_
          refine k_iconst G (dc d_La_areAlike 75 rfl) cI_5 ?_
          refine k_aload_n G (dc d_La_areAlike 76 rfl) 0 rfl rfl ?_
          refine k_iconst G (dc d_La_areAlike 77 rfl) cI_1 ?_
          obtain ⟨⟨x48, M49⟩, e47, h⟩ := kOk_b h
          refine k_cVI G (dc d_La_areAlike 78 rfl) kc7 (okL_lt hp0 (o := 0) 0 rfl) (okL_k hp0 (o := 0) 0 rfl) mi_SR_about mv_SR_about rfl ml_RL_60 (c_Sn_about (gst G) hp0 e47) rfl rfl ⟨rfl, rfl⟩ rfl ⟨rfl, rfl⟩ ⟨rfl, rfl⟩ ?_
          refine k_imul G (dc d_La_areAlike 79 rfl) ?_
          refine k_icmp_ge G (dc d_La_areAlike 80 rfl) (tgt := 178) rfl (fun c50 => ?_) (fun c50 => ?_)
          · replace h := kOk_p c50 h
            refine k_sub [0, 1, 2] rfl ?_
            have h9 := kOk_s h
            exact h9
          · replace h := kOk_n c50 h
            refine k_iload_n G (dc d_La_areAlike 81 rfl) 2 rfl rfl ?_
            refine kJ h (fun r52 => KK X B L 4 0 0 M49 171 [(0, .ref (B.1 + p0)), (1, .ref (B.1 + p1)), (3, .int v3_45)] [.int r52]) (fun r52 h => ?_) (fun h => ?_)
            · obtain ⟨t51, rfl⟩ : ∃ z, z = r52 := ⟨_, rfl⟩
              show KK X B L 4 0 0 M49 171 [(0, .ref (B.1 + p0)), (1, .ref (B.1 + p1)), (3, .int v3_45)] [.int t51]
              refine k_istore_n G (dc d_La_areAlike 103 rfl) (ls' := [(2, .int t51), (0, .ref (B.1 + p0)), (1, .ref (B.1 + p1)), (3, .int v3_45)]) rfl rfl rfl ?_
              refine k_iinc G (dc d_La_areAlike 104 rfl) (ls' := [(3, .int (v3_45 + 1)), (2, .int t51), (0, .ref (B.1 + p0)), (1, .ref (B.1 + p1))]) 3 rfl cI_1 rfl rfl ?_
              refine k_goto G (dc d_La_areAlike 105 rfl) (tgt := 128) rfl ?_
              refine k_sub [2, 3, 1, 0] rfl ?_
              have h9 := kOk_s h
              exact h9
            · refine k_if_eq G (dc d_La_areAlike 82 rfl) (tgt := 170) rfl (fun c53 => ?_) (fun c53 => ?_)
              · replace h := kOk_p c53 h
                refine k_iconst G (dc d_La_areAlike 102 rfl) cI_0 ?_
                refine k_sub [0, 1, 3] rfl ?_
                have h9 := kOk_s h
                exact h9
              · replace h := kOk_n c53 h
                refine k_aload_n G (dc d_La_areAlike 83 rfl) 0 rfl rfl ?_
                refine k_iload_n G (dc d_La_areAlike 84 rfl) 3 rfl rfl ?_
                refine k_iconst G (dc d_La_areAlike 85 rfl) cI_5 ?_
                refine k_idiv G (dc d_La_areAlike 86 rfl) czI_5 ?_
                refine k_iload_n G (dc d_La_areAlike 87 rfl) 3 rfl rfl ?_
                refine k_iconst G (dc d_La_areAlike 88 rfl) cI_5 ?_
                refine k_irem G (dc d_La_areAlike 89 rfl) czI_5 ?_
                obtain ⟨x55, e54, h⟩ := kOk_b h
                refine k_cVI G (dc d_La_areAlike 90 rfl) kc7 (okL_lt hp0 (o := 0) 0 rfl) (okL_k hp0 (o := 0) 0 rfl) mi_SR_decreeOf mv_SR_decreeOf rfl ml_RL_69 (c_Sn_decreeOf (gst G) hp0 e54) rfl rfl ⟨rfl, rfl⟩ rfl ⟨rfl, rfl⟩ ⟨rfl, rfl⟩ ?_
                refine k_aload_n G (dc d_La_areAlike 91 rfl) 1 rfl rfl ?_
                refine k_iload_n G (dc d_La_areAlike 92 rfl) 3 rfl rfl ?_
                refine k_iconst G (dc d_La_areAlike 93 rfl) cI_5 ?_
                refine k_idiv G (dc d_La_areAlike 94 rfl) czI_5 ?_
                refine k_iload_n G (dc d_La_areAlike 95 rfl) 3 rfl rfl ?_
                refine k_iconst G (dc d_La_areAlike 96 rfl) cI_5 ?_
                refine k_irem G (dc d_La_areAlike 97 rfl) czI_5 ?_
                obtain ⟨x57, e56, h⟩ := kOk_b h
                refine k_cVI G (dc d_La_areAlike 98 rfl) kc7 (okL_lt hp1 (o := 0) 0 rfl) (okL_k hp1 (o := 0) 0 rfl) mi_SR_decreeOf mv_SR_decreeOf rfl ml_RL_69 (c_Sn_decreeOf (gst G) hp1 e56) rfl rfl ⟨rfl, rfl⟩ rfl ⟨rfl, rfl⟩ ⟨rfl, rfl⟩ ?_
                refine k_icmp_ne G (dc d_La_areAlike 99 rfl) (tgt := 170) rfl (fun c58 => ?_) (fun c58 => ?_)
                · replace h := kOk_n c58 h
                  refine k_iconst G (dc d_La_areAlike 102 rfl) cI_0 ?_
                  refine k_sub [0, 1, 3] rfl ?_
                  have h9 := kOk_s h
                  exact h9
                · replace h := kOk_p c58 h
                  refine k_iconst G (dc d_La_areAlike 100 rfl) cI_1 ?_
                  refine k_goto G (dc d_La_areAlike 101 rfl) (tgt := 171) rfl ?_
                  refine k_sub [0, 1, 3] rfl ?_
                  have h9 := kOk_s h
                  exact h9
      · refine k_sub [1, 2, 3, 0] rfl ?_
        refine kLp_ok (P := fun s80 => KK X B L 4 0 0 s80.2.2 71 [(0, .ref (B.1 + p0)), (1, .ref (B.1 + p1)), (2, .int s80.1), (3, .int s80.2.1)] []) (fun s80 h => ?_) kFU _ h
        obtain ⟨v2_24, v3_25, M26⟩ := s80
        unfold m_La_areAlike_l71 at h
        show KK X B L 4 0 0 M26 71 [(0, .ref (B.1 + p0)), (1, .ref (B.1 + p1)), (2, .int v2_24), (3, .int v3_25)] []
        refine k_iload_n G (dc d_La_areAlike 40 rfl) 3 rfl rfl ?_
        refine k_bipush G (dc d_La_areAlike 41 rfl) cB_8 ?_
        refine k_aload_n G (dc d_La_areAlike 42 rfl) 0 rfl rfl ?_
        refine k_iconst G (dc d_La_areAlike 43 rfl) cI_0 ?_
        obtain ⟨⟨x28, M29⟩, e27, h⟩ := kOk_b h
        refine k_cVI G (dc d_La_areAlike 44 rfl) kc7 (okL_lt hp0 (o := 0) 0 rfl) (okL_k hp0 (o := 0) 0 rfl) mi_SR_about mv_SR_about rfl ml_RL_60 (c_Sn_about (gst G) hp0 e27) rfl rfl ⟨rfl, rfl⟩ rfl ⟨rfl, rfl⟩ ⟨rfl, rfl⟩ ?_
        refine k_imul G (dc d_La_areAlike 45 rfl) ?_
        refine k_icmp_ge G (dc d_La_areAlike 46 rfl) (tgt := 126) rfl (fun c30 => ?_) (fun c30 => ?_)
        · replace h := kOk_p c30 h
          refine k_sub [0, 1, 2] rfl ?_
          have h9 := kOk_s h
          exact h9
        · replace h := kOk_n c30 h
          refine k_iload_n G (dc d_La_areAlike 47 rfl) 2 rfl rfl ?_
          refine kJ h (fun r33 => KK X B L 4 0 0 r33.2 119 [(0, .ref (B.1 + p0)), (1, .ref (B.1 + p1)), (3, .int v3_25)] [.int r33.1]) (fun r33 h => ?_) (fun h => ?_)
          · obtain ⟨t31, M32⟩ := r33
            show KK X B L 4 0 0 M32 119 [(0, .ref (B.1 + p0)), (1, .ref (B.1 + p1)), (3, .int v3_25)] [.int t31]
            refine k_istore_n G (dc d_La_areAlike 69 rfl) (ls' := [(2, .int t31), (0, .ref (B.1 + p0)), (1, .ref (B.1 + p1)), (3, .int v3_25)]) rfl rfl rfl ?_
            refine k_iinc G (dc d_La_areAlike 70 rfl) (ls' := [(3, .int (v3_25 + 1)), (2, .int t31), (0, .ref (B.1 + p0)), (1, .ref (B.1 + p1))]) 3 rfl cI_1 rfl rfl ?_
            refine k_goto G (dc d_La_areAlike 71 rfl) (tgt := 71) rfl ?_
            refine k_sub [2, 3, 1, 0] rfl ?_
            have h9 := kOk_s h
            exact h9
          · refine k_if_eq G (dc d_La_areAlike 48 rfl) (tgt := 118) rfl (fun c34 => ?_) (fun c34 => ?_)
            · replace h := kOk_p c34 h
              refine k_iconst G (dc d_La_areAlike 68 rfl) cI_0 ?_
              refine k_sub [0, 1, 3] rfl ?_
              have h9 := kOk_s h
              exact h9
            · replace h := kOk_n c34 h
              refine k_aload_n G (dc d_La_areAlike 49 rfl) 0 rfl rfl ?_
              refine k_iload_n G (dc d_La_areAlike 50 rfl) 3 rfl rfl ?_
              refine k_bipush G (dc d_La_areAlike 51 rfl) cB_8 ?_
              refine k_idiv G (dc d_La_areAlike 52 rfl) czI_8 ?_
              refine k_iload_n G (dc d_La_areAlike 53 rfl) 3 rfl rfl ?_
              refine k_bipush G (dc d_La_areAlike 54 rfl) cB_8 ?_
              refine k_irem G (dc d_La_areAlike 55 rfl) czI_8 ?_
              obtain ⟨⟨x36, M37⟩, e35, h⟩ := kOk_b h
              refine k_cVI G (dc d_La_areAlike 56 rfl) kc7 (okL_lt hp0 (o := 0) 0 rfl) (okL_k hp0 (o := 0) 0 rfl) mi_SR_signOf mv_SR_signOf rfl ml_RL_66 (c_Sn_signOf (gst G) hp0 e35) rfl rfl ⟨rfl, rfl⟩ rfl ⟨rfl, rfl⟩ ⟨rfl, rfl⟩ ?_
              refine k_aload_n G (dc d_La_areAlike 57 rfl) 1 rfl rfl ?_
              refine k_iload_n G (dc d_La_areAlike 58 rfl) 3 rfl rfl ?_
              refine k_bipush G (dc d_La_areAlike 59 rfl) cB_8 ?_
              refine k_idiv G (dc d_La_areAlike 60 rfl) czI_8 ?_
              refine k_iload_n G (dc d_La_areAlike 61 rfl) 3 rfl rfl ?_
              refine k_bipush G (dc d_La_areAlike 62 rfl) cB_8 ?_
              refine k_irem G (dc d_La_areAlike 63 rfl) czI_8 ?_
              obtain ⟨⟨x39, M40⟩, e38, h⟩ := kOk_b h
              refine k_cVI G (dc d_La_areAlike 64 rfl) kc7 (okL_lt hp1 (o := 0) 0 rfl) (okL_k hp1 (o := 0) 0 rfl) mi_SR_signOf mv_SR_signOf rfl ml_RL_66 (c_Sn_signOf (gst G) hp1 e38) rfl rfl ⟨rfl, rfl⟩ rfl ⟨rfl, rfl⟩ ⟨rfl, rfl⟩ ?_
              refine k_icmp_ne G (dc d_La_areAlike 65 rfl) (tgt := 118) rfl (fun c41 => ?_) (fun c41 => ?_)
              · replace h := kOk_n c41 h
                refine k_iconst G (dc d_La_areAlike 68 rfl) cI_0 ?_
                refine k_sub [0, 1, 3] rfl ?_
                have h9 := kOk_s h
                exact h9
              · replace h := kOk_p c41 h
                refine k_iconst G (dc d_La_areAlike 66 rfl) cI_1 ?_
                refine k_goto G (dc d_La_areAlike 67 rfl) (tgt := 119) rfl ?_
                refine k_sub [0, 1, 3] rfl ?_
                have h9 := kOk_s h
                exact h9
    · refine k_sub [2, 3, 1, 0] rfl ?_
      refine kLp_ok (P := fun s82 => KK X B L 4 0 0 s82.2.2 34 [(0, .ref (B.1 + p0)), (1, .ref (B.1 + p1)), (2, .int s82.1), (3, .int s82.2.1)] []) (fun s82 h => ?_) kFU _ h
      obtain ⟨v2_7, v3_8, M9⟩ := s82
      unfold m_La_areAlike_l34 at h
      show KK X B L 4 0 0 M9 34 [(0, .ref (B.1 + p0)), (1, .ref (B.1 + p1)), (2, .int v2_7), (3, .int v3_8)] []
      refine k_iload_n G (dc d_La_areAlike 20 rfl) 3 rfl rfl ?_
      refine k_bipush G (dc d_La_areAlike 21 rfl) cB_12 ?_
      refine k_icmp_ge G (dc d_La_areAlike 22 rfl) (tgt := 69) rfl (fun c10 => ?_) (fun c10 => ?_)
      · replace h := kOk_p c10 h
        refine k_sub [0, 1, 2] rfl ?_
        have h9 := kOk_s h
        exact h9
      · replace h := kOk_n c10 h
        refine k_iload_n G (dc d_La_areAlike 23 rfl) 2 rfl rfl ?_
        refine kJ h (fun r13 => KK X B L 4 0 0 r13.2 62 [(0, .ref (B.1 + p0)), (1, .ref (B.1 + p1)), (3, .int v3_8)] [.int r13.1]) (fun r13 h => ?_) (fun h => ?_)
        · obtain ⟨t11, M12⟩ := r13
          show KK X B L 4 0 0 M12 62 [(0, .ref (B.1 + p0)), (1, .ref (B.1 + p1)), (3, .int v3_8)] [.int t11]
          refine k_istore_n G (dc d_La_areAlike 35 rfl) (ls' := [(2, .int t11), (0, .ref (B.1 + p0)), (1, .ref (B.1 + p1)), (3, .int v3_8)]) rfl rfl rfl ?_
          refine k_iinc G (dc d_La_areAlike 36 rfl) (ls' := [(3, .int (v3_8 + 1)), (2, .int t11), (0, .ref (B.1 + p0)), (1, .ref (B.1 + p1))]) 3 rfl cI_1 rfl rfl ?_
          refine k_goto G (dc d_La_areAlike 37 rfl) (tgt := 34) rfl ?_
          refine k_sub [2, 3, 1, 0] rfl ?_
          have h9 := kOk_s h
          exact h9
        · refine k_if_eq G (dc d_La_areAlike 24 rfl) (tgt := 61) rfl (fun c14 => ?_) (fun c14 => ?_)
          · replace h := kOk_p c14 h
            refine k_iconst G (dc d_La_areAlike 34 rfl) cI_0 ?_
            refine k_sub [0, 1, 3] rfl ?_
            have h9 := kOk_s h
            exact h9
          · replace h := kOk_n c14 h
            refine k_aload_n G (dc d_La_areAlike 25 rfl) 0 rfl rfl ?_
            refine k_iload_n G (dc d_La_areAlike 26 rfl) 3 rfl rfl ?_
            obtain ⟨⟨x16, M17⟩, e15, h⟩ := kOk_b h
            refine k_cVI G (dc d_La_areAlike 27 rfl) kc7 (okL_lt hp0 (o := 0) 0 rfl) (okL_k hp0 (o := 0) 0 rfl) mi_SR_about mv_SR_about rfl ml_RL_60 (c_Sn_about (gst G) hp0 e15) rfl rfl ⟨rfl, rfl⟩ rfl ⟨rfl, rfl⟩ ⟨rfl, rfl⟩ ?_
            refine k_aload_n G (dc d_La_areAlike 28 rfl) 1 rfl rfl ?_
            refine k_iload_n G (dc d_La_areAlike 29 rfl) 3 rfl rfl ?_
            obtain ⟨⟨x19, M20⟩, e18, h⟩ := kOk_b h
            refine k_cVI G (dc d_La_areAlike 30 rfl) kc7 (okL_lt hp1 (o := 0) 0 rfl) (okL_k hp1 (o := 0) 0 rfl) mi_SR_about mv_SR_about rfl ml_RL_60 (c_Sn_about (gst G) hp1 e18) rfl rfl ⟨rfl, rfl⟩ rfl ⟨rfl, rfl⟩ ⟨rfl, rfl⟩ ?_
            refine k_icmp_ne G (dc d_La_areAlike 31 rfl) (tgt := 61) rfl (fun c21 => ?_) (fun c21 => ?_)
            · replace h := kOk_n c21 h
              refine k_iconst G (dc d_La_areAlike 34 rfl) cI_0 ?_
              refine k_sub [0, 1, 3] rfl ?_
              have h9 := kOk_s h
              exact h9
            · replace h := kOk_p c21 h
              refine k_iconst G (dc d_La_areAlike 32 rfl) cI_1 ?_
              refine k_goto G (dc d_La_areAlike 33 rfl) (tgt := 62) rfl ?_
              refine k_sub [0, 1, 3] rfl ?_
              have h9 := kOk_s h
              exact h9
  · refine k_icmp_ne G (dc d_La_areAlike 6 rfl) (tgt := 30) rfl (fun c83 => ?_) (fun c83 => ?_)
    · replace h := kOk_n c83 h
      refine k_iconst G (dc d_La_areAlike 16 rfl) cI_0 ?_
      have h9 := kOk_s h
      exact h9
    · replace h := kOk_p c83 h
      refine k_aload_n G (dc d_La_areAlike 7 rfl) 0 rfl rfl ?_
      refine k_iconst G (dc d_La_areAlike 8 rfl) cI_1 ?_
      obtain ⟨x85, e84, h⟩ := kOk_b h
      refine k_cVI G (dc d_La_areAlike 9 rfl) kc7 (okL_lt hp0 (o := 0) 0 rfl) (okL_k hp0 (o := 0) 0 rfl) mi_SR_setting mv_SR_setting rfl ml_RL_63 (c_Sn_setting (gst G) hp0 e84) rfl rfl ⟨rfl, rfl⟩ rfl ⟨rfl, rfl⟩ ⟨rfl, rfl⟩ ?_
      refine k_aload_n G (dc d_La_areAlike 10 rfl) 1 rfl rfl ?_
      refine k_iconst G (dc d_La_areAlike 11 rfl) cI_1 ?_
      obtain ⟨x87, e86, h⟩ := kOk_b h
      refine k_cVI G (dc d_La_areAlike 12 rfl) kc7 (okL_lt hp1 (o := 0) 0 rfl) (okL_k hp1 (o := 0) 0 rfl) mi_SR_setting mv_SR_setting rfl ml_RL_63 (c_Sn_setting (gst G) hp1 e86) rfl rfl ⟨rfl, rfl⟩ rfl ⟨rfl, rfl⟩ ⟨rfl, rfl⟩ ?_
      refine k_icmp_ne G (dc d_La_areAlike 13 rfl) (tgt := 30) rfl (fun c88 => ?_) (fun c88 => ?_)
      · replace h := kOk_n c88 h
        refine k_iconst G (dc d_La_areAlike 16 rfl) cI_0 ?_
        have h9 := kOk_s h
        exact h9
      · replace h := kOk_p c88 h
        refine k_iconst G (dc d_La_areAlike 14 rfl) cI_1 ?_
        refine k_goto G (dc d_La_areAlike 15 rfl) (tgt := 31) rfl ?_
        have h9 := kOk_s h
        exact h9
theorem c_La_areAlike {l : Launch} {B : KB} {L : KLay} {M : KMem} {p0 : Nat} {p1 : Nat} (hst : l.stackTraces = false) (hp0 : okL L p0 srT) (hp1 : okL L p1 srT) {r : Int32} {M' : KMem} (e : m_La_areAlike p0 p1 M = some (r, M')) : CtrN l B yL_areAlike cL_areAlike 4 (some .boolean) rm_La_areAlike [.ref (B.1 + p0), .ref (B.1 + p1)] L M (some (.int r)) L M' :=
  mk_I rfl hst rfl (fun X hl G _ R => b_La_areAlike G hp0 hp1 ⟨_, e, R⟩)
def I_La_letters : List (Nat × Instr × Nat) := [(0, .iconst 0, 1), (1, .istore_n 1, 1), (2, .iload_n 0, 1), (3, .istore_n 2, 1), (4, .iload_n 2, 1), (5, .ifCond .le 14, 3), (8, .iinc 1 1, 3), (11, .iload_n 2, 1), (12, .bipush 10, 2), (14, .idiv, 1), (15, .istore_n 2, 1), (16, .goto (-12), 3), (19, .iload_n 1, 1), (20, .ireturn, 1)]
set_option maxRecDepth 100000 in
theorem d_La_letters : decA cL_letters I_La_letters = true := by decide +kernel
abbrev rm_La_letters : Room := ({ frames := 0, cells := 0, slots := 0, locals := 0 } : Room)
def m_La_letters_l4  : (Int32 × Int32) → Option ((Int32 × Int32) ⊕ Int32) := fun (v1_1, v2_2) =>
 if v2_2 ≤ 0 then
 (some (.inr v1_1))
 else
 (some (.inl (v1_1 + 1, v2_2 / 10)))
def m_La_letters (p0 : Int32) : Option Int32 :=
 Option.bind (α := Int32) (kLp m_La_letters_l4 kFU (0, p0)) fun v1_4 =>
 some v1_4
set_option maxHeartbeats 4000000 in
set_option maxRecDepth 100000 in
theorem b_La_letters {X : KX} {B : KB} {L : KLay} {M : KMem} {p0 : Int32} (G : Good X B RL cL_letters 3 rm_La_letters)  (h : kOk (m_La_letters p0) (fun r => RI X B L 3 cL_letters .int rm_La_letters r M)) : KK X B L 3 0 0 M 0 [(0, .int p0)] [] := by
  unfold m_La_letters at h
  refine k_iconst G (dc d_La_letters 0 rfl) cI_0 ?_
  refine k_istore_n G (dc d_La_letters 1 rfl) (ls' := [(1, .int 0), (0, .int p0)]) rfl rfl rfl ?_
  refine k_iload_n G (dc d_La_letters 2 rfl) 1 rfl rfl ?_
  refine k_istore_n G (dc d_La_letters 3 rfl) (ls' := [(2, .int p0), (1, .int 0), (0, .int p0)]) rfl rfl rfl ?_
  refine kJ h (fun r5 => KK X B L 3 0 0 M 19 [(1, .int r5)] []) (fun r5 h => ?_) (fun h => ?_)
  · obtain ⟨v1_4, rfl⟩ : ∃ z, z = r5 := ⟨_, rfl⟩
    show KK X B L 3 0 0 M 19 [(1, .int v1_4)] []
    refine k_iload_n G (dc d_La_letters 12 rfl) 0 rfl rfl ?_
    exact (kOk_s h) _ _ _ _ rfl rfl rfl (dc d_La_letters 13 rfl)
  · refine k_sub [1, 0] rfl ?_
    refine kLp_ok (P := fun s6 => KK X B L 3 0 0 M 4 [(1, .int s6.1), (2, .int s6.2)] []) (fun s6 h => ?_) kFU _ h
    obtain ⟨v1_1, v2_2⟩ := s6
    unfold m_La_letters_l4 at h
    show KK X B L 3 0 0 M 4 [(1, .int v1_1), (2, .int v2_2)] []
    refine k_iload_n G (dc d_La_letters 4 rfl) 1 rfl rfl ?_
    refine k_if_le G (dc d_La_letters 5 rfl) (tgt := 19) rfl (fun c3 => ?_) (fun c3 => ?_)
    · replace h := kOk_p c3 h
      refine k_sub [0] rfl ?_
      have h9 := kOk_s h
      exact h9
    · replace h := kOk_n c3 h
      refine k_iinc G (dc d_La_letters 6 rfl) (ls' := [(1, .int (v1_1 + 1)), (2, .int v2_2)]) 0 rfl cI_1 rfl rfl ?_
      refine k_iload_n G (dc d_La_letters 7 rfl) 1 rfl rfl ?_
      refine k_bipush G (dc d_La_letters 8 rfl) cB_10 ?_
      refine k_idiv G (dc d_La_letters 9 rfl) czI_10 ?_
      refine k_istore_n G (dc d_La_letters 10 rfl) (ls' := [(2, .int (v2_2 / 10)), (1, .int (v1_1 + 1))]) rfl rfl rfl ?_
      refine k_goto G (dc d_La_letters 11 rfl) (tgt := 4) rfl ?_
      refine k_sub [1, 0] rfl ?_
      have h9 := kOk_s h
      exact h9
theorem c_La_letters {l : Launch} {B : KB} {L : KLay} {M : KMem} {p0 : Int32} (hst : l.stackTraces = false)  {r : Int32} (e : m_La_letters p0 = some r) : CtrN l B yL_letters cL_letters 3 (some .int) rm_La_letters [.int p0] L M (some (.int r)) L M :=
  mk_I rfl hst rfl (fun X hl G _ R => b_La_letters G  ⟨_, e, R⟩)
