/-! laid by wip/whole/lay.py: Si_wordFrom, Si_takeTurn -/
def I_Si_wordFrom : List (Nat × Instr × Nat) := [(0, .iconst 1, 1), (1, .iload_n 0, 1), (2, .iconst 4, 1), (3, .idiv, 1), (4, .bipush 8, 2), (6, .irem, 1), (7, .iadd, 1), (8, .istore_n 1, 1), (9, .iconst 1, 1), (10, .iload_n 0, 1), (11, .bipush 32, 2), (13, .idiv, 1), (14, .bipush 6, 2), (16, .irem, 1), (17, .iadd, 1), (18, .istore_n 2, 1), (19, .iload_n 2, 1), (20, .istore_n 3, 1), (21, .iconst 1, 1), (22, .istore 4, 2), (24, .iload 4, 2), (26, .iload_n 1, 1), (27, .if_icmp .ge 27, 3), (30, .iconst 1, 1), (31, .iload_n 2, 1), (32, .iload_n 0, 1), (33, .iconst 5, 1), (34, .irem, 1), (35, .iadd, 1), (36, .bipush 6, 2), (38, .irem, 1), (39, .iadd, 1), (40, .istore_n 2, 1), (41, .iload_n 3, 1), (42, .bipush 10, 2), (44, .imul, 1), (45, .iload_n 2, 1), (46, .iadd, 1), (47, .istore_n 3, 1), (48, .iinc 4 1, 3), (51, .goto (-27), 3), (54, .iload_n 3, 1), (55, .ireturn, 1)]
set_option maxRecDepth 100000 in
theorem d_Si_wordFrom : decA cX6_wordFrom I_Si_wordFrom = true := by decide +kernel
abbrev rm_Si_wordFrom : Room := ({ frames := 0, cells := 0, slots := 0, locals := 0 } : Room)
def m_Si_wordFrom_l24 (p0 : Int32) : (Int32 × Int32 × Int32) → Option ((Int32 × Int32 × Int32) ⊕ Int32) := fun (v2_1, v3_2, v4_3) =>
 if (1 + (jrem (p0 / 4) 8)) ≤ v4_3 then
 (some (.inr v3_2))
 else
 (some (.inl (1 + (jrem (v2_1 + (jrem p0 5)) 6), (v3_2 * 10) + (1 + (jrem (v2_1 + (jrem p0 5)) 6)), v4_3 + 1)))
def m_Si_wordFrom (p0 : Int32) : Option Int32 :=
 Option.bind (α := Int32) (kLp (m_Si_wordFrom_l24 p0) kFU (1 + (jrem (p0 / 32) 6), 1 + (jrem (p0 / 32) 6), 1)) fun v3_5 =>
 some v3_5
set_option maxHeartbeats 4000000 in
set_option maxRecDepth 100000 in
theorem b_Si_wordFrom {X : KX} {B : KB} {L : KLay} {M : KMem} {p0 : Int32} (G : Good X B RX6 cX6_wordFrom 5 rm_Si_wordFrom)  (h : kOk (m_Si_wordFrom p0) (fun r => RI X B L 5 cX6_wordFrom .int rm_Si_wordFrom r M)) : KK X B L 5 0 0 M 0 [(0, .int p0)] [] := by
  unfold m_Si_wordFrom at h
  refine k_iconst G (dc d_Si_wordFrom 0 rfl) cI_1 ?_
  refine k_iload_n G (dc d_Si_wordFrom 1 rfl) 0 rfl rfl ?_
  refine k_iconst G (dc d_Si_wordFrom 2 rfl) cI_4 ?_
  refine k_idiv G (dc d_Si_wordFrom 3 rfl) czI_4 ?_
  refine k_bipush G (dc d_Si_wordFrom 4 rfl) cB_8 ?_
  refine k_irem G (dc d_Si_wordFrom 5 rfl) czI_8 ?_
  refine k_iadd G (dc d_Si_wordFrom 6 rfl) ?_
  refine k_istore_n G (dc d_Si_wordFrom 7 rfl) (ls' := [(1, .int (1 + (jrem (p0 / 4) 8))), (0, .int p0)]) rfl rfl rfl ?_
  refine k_iconst G (dc d_Si_wordFrom 8 rfl) cI_1 ?_
  refine k_iload_n G (dc d_Si_wordFrom 9 rfl) 1 rfl rfl ?_
  refine k_bipush G (dc d_Si_wordFrom 10 rfl) cB_32 ?_
  refine k_idiv G (dc d_Si_wordFrom 11 rfl) czI_32 ?_
  refine k_bipush G (dc d_Si_wordFrom 12 rfl) cB_6 ?_
  refine k_irem G (dc d_Si_wordFrom 13 rfl) czI_6 ?_
  refine k_iadd G (dc d_Si_wordFrom 14 rfl) ?_
  refine k_istore_n G (dc d_Si_wordFrom 15 rfl) (ls' := [(2, .int (1 + (jrem (p0 / 32) 6))), (1, .int (1 + (jrem (p0 / 4) 8))), (0, .int p0)]) rfl rfl rfl ?_
  refine k_iload_n G (dc d_Si_wordFrom 16 rfl) 0 rfl rfl ?_
  refine k_istore_n G (dc d_Si_wordFrom 17 rfl) (ls' := [(3, .int (1 + (jrem (p0 / 32) 6))), (2, .int (1 + (jrem (p0 / 32) 6))), (1, .int (1 + (jrem (p0 / 4) 8))), (0, .int p0)]) rfl rfl rfl ?_
  refine k_iconst G (dc d_Si_wordFrom 18 rfl) cI_1 ?_
  refine k_istore G (dc d_Si_wordFrom 19 rfl) (ls' := [(4, .int 1), (3, .int (1 + (jrem (p0 / 32) 6))), (2, .int (1 + (jrem (p0 / 32) 6))), (1, .int (1 + (jrem (p0 / 4) 8))), (0, .int p0)]) rfl rfl ?_
  refine kJ h (fun r6 => KK X B L 5 0 0 M 54 [(3, .int r6)] []) (fun r6 h => ?_) (fun h => ?_)
  · obtain ⟨v3_5, rfl⟩ : ∃ z, z = r6 := ⟨_, rfl⟩
    show KK X B L 5 0 0 M 54 [(3, .int v3_5)] []
    refine k_iload_n G (dc d_Si_wordFrom 41 rfl) 0 rfl rfl ?_
    exact (kOk_s h) _ _ _ _ rfl rfl rfl (dc d_Si_wordFrom 42 rfl)
  · refine k_sub [4, 3, 2, 1, 0] rfl ?_
    refine kLp_ok (P := fun s7 => KK X B L 5 0 0 M 24 [(0, .int p0), (1, .int (1 + (jrem (p0 / 4) 8))), (2, .int s7.1), (3, .int s7.2.1), (4, .int s7.2.2)] []) (fun s7 h => ?_) kFU _ h
    obtain ⟨v2_1, v3_2, v4_3⟩ := s7
    unfold m_Si_wordFrom_l24 at h
    show KK X B L 5 0 0 M 24 [(0, .int p0), (1, .int (1 + (jrem (p0 / 4) 8))), (2, .int v2_1), (3, .int v3_2), (4, .int v4_3)] []
    refine k_iload G (dc d_Si_wordFrom 20 rfl) 4 rfl ?_
    refine k_iload_n G (dc d_Si_wordFrom 21 rfl) 1 rfl rfl ?_
    refine k_icmp_ge G (dc d_Si_wordFrom 22 rfl) (tgt := 54) rfl (fun c4 => ?_) (fun c4 => ?_)
    · replace h := kOk_p c4 h
      refine k_sub [3] rfl ?_
      have h9 := kOk_s h
      exact h9
    · replace h := kOk_n c4 h
      refine k_iconst G (dc d_Si_wordFrom 23 rfl) cI_1 ?_
      refine k_iload_n G (dc d_Si_wordFrom 24 rfl) 2 rfl rfl ?_
      refine k_iload_n G (dc d_Si_wordFrom 25 rfl) 0 rfl rfl ?_
      refine k_iconst G (dc d_Si_wordFrom 26 rfl) cI_5 ?_
      refine k_irem G (dc d_Si_wordFrom 27 rfl) czI_5 ?_
      refine k_iadd G (dc d_Si_wordFrom 28 rfl) ?_
      refine k_bipush G (dc d_Si_wordFrom 29 rfl) cB_6 ?_
      refine k_irem G (dc d_Si_wordFrom 30 rfl) czI_6 ?_
      refine k_iadd G (dc d_Si_wordFrom 31 rfl) ?_
      refine k_istore_n G (dc d_Si_wordFrom 32 rfl) (ls' := [(2, .int (1 + (jrem (v2_1 + (jrem p0 5)) 6))), (0, .int p0), (1, .int (1 + (jrem (p0 / 4) 8))), (3, .int v3_2), (4, .int v4_3)]) rfl rfl rfl ?_
      refine k_iload_n G (dc d_Si_wordFrom 33 rfl) 3 rfl rfl ?_
      refine k_bipush G (dc d_Si_wordFrom 34 rfl) cB_10 ?_
      refine k_imul G (dc d_Si_wordFrom 35 rfl) ?_
      refine k_iload_n G (dc d_Si_wordFrom 36 rfl) 0 rfl rfl ?_
      refine k_iadd G (dc d_Si_wordFrom 37 rfl) ?_
      refine k_istore_n G (dc d_Si_wordFrom 38 rfl) (ls' := [(3, .int ((v3_2 * 10) + (1 + (jrem (v2_1 + (jrem p0 5)) 6)))), (2, .int (1 + (jrem (v2_1 + (jrem p0 5)) 6))), (0, .int p0), (1, .int (1 + (jrem (p0 / 4) 8))), (4, .int v4_3)]) rfl rfl rfl ?_
      refine k_iinc G (dc d_Si_wordFrom 39 rfl) (ls' := [(4, .int (v4_3 + 1)), (3, .int ((v3_2 * 10) + (1 + (jrem (v2_1 + (jrem p0 5)) 6)))), (2, .int (1 + (jrem (v2_1 + (jrem p0 5)) 6))), (0, .int p0), (1, .int (1 + (jrem (p0 / 4) 8)))]) 4 rfl cI_1 rfl rfl ?_
      refine k_goto G (dc d_Si_wordFrom 40 rfl) (tgt := 24) rfl ?_
      refine k_sub [3, 4, 2, 1, 0] rfl ?_
      have h9 := kOk_s h
      exact h9
theorem c_Si_wordFrom {l : Launch} {B : KB} {L : KLay} {M : KMem} {p0 : Int32} (hst : l.stackTraces = false)  {r : Int32} (e : m_Si_wordFrom p0 = some r) : CtrN l B yX6_wordFrom cX6_wordFrom 5 (some .int) rm_Si_wordFrom [.int p0] L M (some (.int r)) L M :=
  mk_I rfl hst rfl (fun X hl G _ R => b_Si_wordFrom G  ⟨_, e, R⟩)
def I_Si_takeTurn : List (Nat × Instr × Nat) := [(0, .iload_n 1, 1), (1, .bipush 8, 2), (3, .idiv, 1), (4, .istore_n 2, 1), (5, .iload_n 1, 1), (6, .bipush 8, 2), (8, .irem, 1), (9, .tableswitch 159 0 6 #[43, 43, 58, 88, 121, 133, 145], 43), (52, .aload_n 0, 1), (53, .iload_n 2, 1), (54, .iconst 4, 1), (55, .irem, 1), (56, .iload_n 2, 1), (57, .invokestatic 9, 3), (60, .invokevirtual 15, 3), (63, .pop, 1), (64, .goto 115, 3), (67, .aload_n 0, 1), (68, .iload_n 2, 1), (69, .bipush 6, 2), (71, .idiv, 1), (72, .iconst 3, 1), (73, .irem, 1), (74, .ifCond .ne 7, 3), (77, .iconst 0, 1), (78, .goto 4, 3), (81, .iconst 2, 1), (82, .iconst 1, 1), (83, .iload_n 2, 1), (84, .bipush 6, 2), (86, .irem, 1), (87, .iadd, 1), (88, .iconst 0, 1), (89, .iconst 0, 1), (90, .invokevirtual 21, 3), (93, .pop, 1), (94, .goto 85, 3), (97, .aload_n 0, 1), (98, .iconst 1, 1), (99, .iconst 1, 1), (100, .iload_n 2, 1), (101, .bipush 6, 2), (103, .irem, 1), (104, .iadd, 1), (105, .iconst 1, 1), (106, .iload_n 2, 1), (107, .bipush 8, 2), (109, .idiv, 1), (110, .bipush 6, 2), (112, .irem, 1), (113, .iadd, 1), (114, .iconst 1, 1), (115, .iload_n 2, 1), (116, .bipush 64, 2), (118, .idiv, 1), (119, .bipush 6, 2), (121, .irem, 1), (122, .iadd, 1), (123, .invokevirtual 21, 3), (126, .pop, 1), (127, .goto 52, 3), (130, .aload_n 0, 1), (131, .iload_n 2, 1), (132, .bipush 10, 2), (134, .irem, 1), (135, .invokevirtual 25, 3), (138, .pop, 1), (139, .goto 40, 3), (142, .aload_n 0, 1), (143, .iload_n 2, 1), (144, .bipush 8, 2), (146, .irem, 1), (147, .invokevirtual 28, 3), (150, .pop, 1), (151, .goto 28, 3), (154, .aload_n 0, 1), (155, .iconst 1, 1), (156, .iload_n 2, 1), (157, .bipush 9, 2), (159, .irem, 1), (160, .iadd, 1), (161, .invokevirtual 31, 3), (164, .pop, 1), (165, .goto 14, 3), (168, .aload_n 0, 1), (169, .iconst 1, 1), (170, .iload_n 2, 1), (171, .bipush 12, 2), (173, .irem, 1), (174, .iadd, 1), (175, .invokevirtual 34, 3), (178, .pop, 1), (179, .return_, 1)]
set_option maxRecDepth 100000 in
theorem d_Si_takeTurn : decA cX6_takeTurn I_Si_takeTurn = true := by decide +kernel
abbrev rm_Si_takeTurn : Room := ({ frames := 6, cells := 0, slots := 0, locals := 137 } : Room)
def m_Si_takeTurn (p0 : Nat) (p1 : Int32) (M : KMem) : Option KMem :=
 Option.bind (α := KMem) (if (jrem p1 8) = 0 ∨ (jrem p1 8) = 1 then
 (Option.bind (m_Si_wordFrom (p1 / 8)) fun x10 =>
 Option.bind (m_Tw_bringSign p0 (jrem (p1 / 8) 4) x10 M) fun (x12, M13) =>
 some M13)
 else
 (if (jrem p1 8) = 2 then
 (Option.bind (α := Int32) (if (jrem ((p1 / 8) / 6) 3) = 0 then
 (some 0)
 else
 (some 2)) fun t15 =>
 Option.bind (m_Tw_giveDecree p0 t15 (1 + (jrem (p1 / 8) 6)) 0 0 M) fun (x18, M19) =>
 some M19)
 else
 (if (jrem p1 8) = 3 then
 (Option.bind (m_Tw_giveDecree p0 1 (1 + (jrem (p1 / 8) 6)) (1 + (jrem ((p1 / 8) / 8) 6)) (1 + (jrem ((p1 / 8) / 64) 6)) M) fun (x23, M24) =>
 some M24)
 else
 (if (jrem p1 8) = 4 then
 (Option.bind (m_Tw_takeDecree p0 (jrem (p1 / 8) 10) M) fun (x27, M28) =>
 some M28)
 else
 (if (jrem p1 8) = 5 then
 (Option.bind (m_Tw_repaint p0 (jrem (p1 / 8) 8) M) fun (x31, M32) =>
 some M32)
 else
 (if (jrem p1 8) = 6 then
 (Option.bind (m_Tw_forgive p0 (1 + (jrem (p1 / 8) 9)) M) fun (x35, M36) =>
 some M36)
 else
 (Option.bind (m_Tw_passMonths p0 (1 + (jrem (p1 / 8) 12)) M) fun (x39, M40) =>
 some M40))))))) fun M1 =>
 some M1
set_option maxHeartbeats 4000000 in
set_option maxRecDepth 100000 in
theorem b_Si_takeTurn {X : KX} {B : KB} {L : KLay} {M : KMem} {p0 : Nat} {p1 : Int32} (G : Good X B RX6 cX6_takeTurn 3 rm_Si_takeTurn) (hx : B.2.2.2 = false) (hp0 : okL L p0 twT) (h : kOk (m_Si_takeTurn p0 p1 M) (fun r => RV X B L 3 cX6_takeTurn rm_Si_takeTurn r)) : KK X B L 3 0 0 M 0 [(0, .ref (B.1 + p0)), (1, .int p1)] [] := by
  unfold m_Si_takeTurn at h
  refine k_iload_n G (dc d_Si_takeTurn 0 rfl) 1 rfl rfl ?_
  refine k_bipush G (dc d_Si_takeTurn 1 rfl) cB_8 ?_
  refine k_idiv G (dc d_Si_takeTurn 2 rfl) czI_8 ?_
  refine k_istore_n G (dc d_Si_takeTurn 3 rfl) (ls' := [(2, .int (p1 / 8)), (0, .ref (B.1 + p0)), (1, .int p1)]) rfl rfl rfl ?_
  refine k_iload_n G (dc d_Si_takeTurn 4 rfl) 2 rfl rfl ?_
  refine k_bipush G (dc d_Si_takeTurn 5 rfl) cB_8 ?_
  refine k_irem G (dc d_Si_takeTurn 6 rfl) czI_8 ?_
  refine kJ h (fun r2 => KK X B L 3 0 0 r2 179 [] []) (fun r2 h => ?_) (fun h => ?_)
  · obtain ⟨M1, rfl⟩ : ∃ z, z = r2 := ⟨_, rfl⟩
    show KK X B L 3 0 0 M1 179 [] []
    exact (kOk_s h) _ _ _ _ rfl rfl (dc d_Si_takeTurn 92 rfl)
  · by_cases c3 : (jrem p1 8) = 0 ∨ (jrem p1 8) = 1
    · replace h := kOk_p c3 h
      have hA14 : KK X B L 3 0 0 M 52 [(2, .int (p1 / 8)), (0, .ref (B.1 + p0)), (1, .int p1)] [] := by
        refine k_aload_n G (dc d_Si_takeTurn 8 rfl) 1 rfl rfl ?_
        refine k_iload_n G (dc d_Si_takeTurn 9 rfl) 0 rfl rfl ?_
        refine k_iconst G (dc d_Si_takeTurn 10 rfl) cI_4 ?_
        refine k_irem G (dc d_Si_takeTurn 11 rfl) czI_4 ?_
        refine k_iload_n G (dc d_Si_takeTurn 12 rfl) 0 rfl rfl ?_
        obtain ⟨x10, e9, h⟩ := kOk_b h
        refine k_cSI G (dc d_Si_takeTurn 13 rfl) mi_Si_wordFrom ms_Si_wordFrom ml_RX6_9 (c_Si_wordFrom (gst G)  e9) rfl rfl ⟨rfl, rfl⟩ rfl ⟨rfl, rfl⟩ ⟨rfl, rfl⟩ ?_
        obtain ⟨⟨x12, M13⟩, e11, h⟩ := kOk_b h
        refine k_cVI G (dc d_Si_takeTurn 14 rfl) kc6 (okL_lt hp0 (o := 0) 0 rfl) (okL_k hp0 (o := 0) 0 rfl) mi_Tw_bringSign mv_Tw_bringSign rfl ml_RX6_15 (c_Tw_bringSign (gst G) hp0 e11) rfl rfl ⟨rfl, rfl⟩ rfl ⟨rfl, rfl⟩ ⟨rfl, rfl⟩ ?_
        refine k_pop G (dc d_Si_takeTurn 15 rfl) rfl ?_
        refine k_goto G (dc d_Si_takeTurn 16 rfl) (tgt := 179) rfl ?_
        refine k_sub [] rfl ?_
        have h9 := kOk_s h
        exact h9
      rcases c3 with c3 | c3
      · exact k_tsI G (dc d_Si_takeTurn 7 rfl) (off := 43) (tgt := 52) c3 (by decide) (by decide) (by decide) (by decide) hA14
      · exact k_tsI G (dc d_Si_takeTurn 7 rfl) (off := 43) (tgt := 52) c3 (by decide) (by decide) (by decide) (by decide) hA14
    · replace h := kOk_n c3 h
      by_cases c4 : (jrem p1 8) = 2
      · replace h := kOk_p c4 h
        refine k_tsI G (dc d_Si_takeTurn 7 rfl) (off := 58) (tgt := 67) c4 (by decide) (by decide) (by decide) (by decide) ?_
        refine k_aload_n G (dc d_Si_takeTurn 17 rfl) 1 rfl rfl ?_
        refine k_iload_n G (dc d_Si_takeTurn 18 rfl) 0 rfl rfl ?_
        refine k_bipush G (dc d_Si_takeTurn 19 rfl) cB_6 ?_
        refine k_idiv G (dc d_Si_takeTurn 20 rfl) czI_6 ?_
        refine k_iconst G (dc d_Si_takeTurn 21 rfl) cI_3 ?_
        refine k_irem G (dc d_Si_takeTurn 22 rfl) czI_3 ?_
        refine kJ h (fun r16 => KK X B L 3 0 0 M 82 [(2, .int (p1 / 8))] [.int r16, .ref (B.1 + p0)]) (fun r16 h => ?_) (fun h => ?_)
        · obtain ⟨t15, rfl⟩ : ∃ z, z = r16 := ⟨_, rfl⟩
          show KK X B L 3 0 0 M 82 [(2, .int (p1 / 8))] [.int t15, .ref (B.1 + p0)]
          refine k_iconst G (dc d_Si_takeTurn 27 rfl) cI_1 ?_
          refine k_iload_n G (dc d_Si_takeTurn 28 rfl) 0 rfl rfl ?_
          refine k_bipush G (dc d_Si_takeTurn 29 rfl) cB_6 ?_
          refine k_irem G (dc d_Si_takeTurn 30 rfl) czI_6 ?_
          refine k_iadd G (dc d_Si_takeTurn 31 rfl) ?_
          refine k_iconst G (dc d_Si_takeTurn 32 rfl) cI_0 ?_
          refine k_iconst G (dc d_Si_takeTurn 33 rfl) cI_0 ?_
          obtain ⟨⟨x18, M19⟩, e17, h⟩ := kOk_b h
          refine k_cVI G (dc d_Si_takeTurn 34 rfl) kc6 (okL_lt hp0 (o := 0) 0 rfl) (okL_k hp0 (o := 0) 0 rfl) mi_Tw_giveDecree mv_Tw_giveDecree rfl ml_RX6_21 (c_Tw_giveDecree (gst G) hx hp0 e17) rfl rfl ⟨rfl, rfl⟩ rfl ⟨rfl, rfl⟩ ⟨rfl, rfl⟩ ?_
          refine k_pop G (dc d_Si_takeTurn 35 rfl) rfl ?_
          refine k_goto G (dc d_Si_takeTurn 36 rfl) (tgt := 179) rfl ?_
          refine k_sub [] rfl ?_
          have h9 := kOk_s h
          exact h9
        · refine k_if_ne G (dc d_Si_takeTurn 23 rfl) (tgt := 81) rfl (fun c20 => ?_) (fun c20 => ?_)
          · replace h := kOk_n c20 h
            refine k_iconst G (dc d_Si_takeTurn 26 rfl) cI_2 ?_
            refine k_sub [0] rfl ?_
            have h9 := kOk_s h
            exact h9
          · replace h := kOk_p c20 h
            refine k_iconst G (dc d_Si_takeTurn 24 rfl) cI_0 ?_
            refine k_goto G (dc d_Si_takeTurn 25 rfl) (tgt := 82) rfl ?_
            refine k_sub [0] rfl ?_
            have h9 := kOk_s h
            exact h9
      · replace h := kOk_n c4 h
        by_cases c5 : (jrem p1 8) = 3
        · replace h := kOk_p c5 h
          refine k_tsI G (dc d_Si_takeTurn 7 rfl) (off := 88) (tgt := 97) c5 (by decide) (by decide) (by decide) (by decide) ?_
          refine k_aload_n G (dc d_Si_takeTurn 37 rfl) 1 rfl rfl ?_
          refine k_iconst G (dc d_Si_takeTurn 38 rfl) cI_1 ?_
          refine k_iconst G (dc d_Si_takeTurn 39 rfl) cI_1 ?_
          refine k_iload_n G (dc d_Si_takeTurn 40 rfl) 0 rfl rfl ?_
          refine k_bipush G (dc d_Si_takeTurn 41 rfl) cB_6 ?_
          refine k_irem G (dc d_Si_takeTurn 42 rfl) czI_6 ?_
          refine k_iadd G (dc d_Si_takeTurn 43 rfl) ?_
          refine k_iconst G (dc d_Si_takeTurn 44 rfl) cI_1 ?_
          refine k_iload_n G (dc d_Si_takeTurn 45 rfl) 0 rfl rfl ?_
          refine k_bipush G (dc d_Si_takeTurn 46 rfl) cB_8 ?_
          refine k_idiv G (dc d_Si_takeTurn 47 rfl) czI_8 ?_
          refine k_bipush G (dc d_Si_takeTurn 48 rfl) cB_6 ?_
          refine k_irem G (dc d_Si_takeTurn 49 rfl) czI_6 ?_
          refine k_iadd G (dc d_Si_takeTurn 50 rfl) ?_
          refine k_iconst G (dc d_Si_takeTurn 51 rfl) cI_1 ?_
          refine k_iload_n G (dc d_Si_takeTurn 52 rfl) 0 rfl rfl ?_
          refine k_bipush G (dc d_Si_takeTurn 53 rfl) cB_64 ?_
          refine k_idiv G (dc d_Si_takeTurn 54 rfl) czI_64 ?_
          refine k_bipush G (dc d_Si_takeTurn 55 rfl) cB_6 ?_
          refine k_irem G (dc d_Si_takeTurn 56 rfl) czI_6 ?_
          refine k_iadd G (dc d_Si_takeTurn 57 rfl) ?_
          obtain ⟨⟨x23, M24⟩, e22, h⟩ := kOk_b h
          refine k_cVI G (dc d_Si_takeTurn 58 rfl) kc6 (okL_lt hp0 (o := 0) 0 rfl) (okL_k hp0 (o := 0) 0 rfl) mi_Tw_giveDecree mv_Tw_giveDecree rfl ml_RX6_21 (c_Tw_giveDecree (gst G) hx hp0 e22) rfl rfl ⟨rfl, rfl⟩ rfl ⟨rfl, rfl⟩ ⟨rfl, rfl⟩ ?_
          refine k_pop G (dc d_Si_takeTurn 59 rfl) rfl ?_
          refine k_goto G (dc d_Si_takeTurn 60 rfl) (tgt := 179) rfl ?_
          refine k_sub [] rfl ?_
          have h9 := kOk_s h
          exact h9
        · replace h := kOk_n c5 h
          by_cases c6 : (jrem p1 8) = 4
          · replace h := kOk_p c6 h
            refine k_tsI G (dc d_Si_takeTurn 7 rfl) (off := 121) (tgt := 130) c6 (by decide) (by decide) (by decide) (by decide) ?_
            refine k_aload_n G (dc d_Si_takeTurn 61 rfl) 1 rfl rfl ?_
            refine k_iload_n G (dc d_Si_takeTurn 62 rfl) 0 rfl rfl ?_
            refine k_bipush G (dc d_Si_takeTurn 63 rfl) cB_10 ?_
            refine k_irem G (dc d_Si_takeTurn 64 rfl) czI_10 ?_
            obtain ⟨⟨x27, M28⟩, e26, h⟩ := kOk_b h
            refine k_cVI G (dc d_Si_takeTurn 65 rfl) kc6 (okL_lt hp0 (o := 0) 0 rfl) (okL_k hp0 (o := 0) 0 rfl) mi_Tw_takeDecree mv_Tw_takeDecree rfl ml_RX6_25 (c_Tw_takeDecree (gst G) hx hp0 e26) rfl rfl ⟨rfl, rfl⟩ rfl ⟨rfl, rfl⟩ ⟨rfl, rfl⟩ ?_
            refine k_pop G (dc d_Si_takeTurn 66 rfl) rfl ?_
            refine k_goto G (dc d_Si_takeTurn 67 rfl) (tgt := 179) rfl ?_
            refine k_sub [] rfl ?_
            have h9 := kOk_s h
            exact h9
          · replace h := kOk_n c6 h
            by_cases c7 : (jrem p1 8) = 5
            · replace h := kOk_p c7 h
              refine k_tsI G (dc d_Si_takeTurn 7 rfl) (off := 133) (tgt := 142) c7 (by decide) (by decide) (by decide) (by decide) ?_
              refine k_aload_n G (dc d_Si_takeTurn 68 rfl) 1 rfl rfl ?_
              refine k_iload_n G (dc d_Si_takeTurn 69 rfl) 0 rfl rfl ?_
              refine k_bipush G (dc d_Si_takeTurn 70 rfl) cB_8 ?_
              refine k_irem G (dc d_Si_takeTurn 71 rfl) czI_8 ?_
              obtain ⟨⟨x31, M32⟩, e30, h⟩ := kOk_b h
              refine k_cVI G (dc d_Si_takeTurn 72 rfl) kc6 (okL_lt hp0 (o := 0) 0 rfl) (okL_k hp0 (o := 0) 0 rfl) mi_Tw_repaint mv_Tw_repaint rfl ml_RX6_28 (c_Tw_repaint (gst G) hp0 e30) rfl rfl ⟨rfl, rfl⟩ rfl ⟨rfl, rfl⟩ ⟨rfl, rfl⟩ ?_
              refine k_pop G (dc d_Si_takeTurn 73 rfl) rfl ?_
              refine k_goto G (dc d_Si_takeTurn 74 rfl) (tgt := 179) rfl ?_
              refine k_sub [] rfl ?_
              have h9 := kOk_s h
              exact h9
            · replace h := kOk_n c7 h
              by_cases c8 : (jrem p1 8) = 6
              · replace h := kOk_p c8 h
                refine k_tsI G (dc d_Si_takeTurn 7 rfl) (off := 145) (tgt := 154) c8 (by decide) (by decide) (by decide) (by decide) ?_
                refine k_aload_n G (dc d_Si_takeTurn 75 rfl) 1 rfl rfl ?_
                refine k_iconst G (dc d_Si_takeTurn 76 rfl) cI_1 ?_
                refine k_iload_n G (dc d_Si_takeTurn 77 rfl) 0 rfl rfl ?_
                refine k_bipush G (dc d_Si_takeTurn 78 rfl) cB_9 ?_
                refine k_irem G (dc d_Si_takeTurn 79 rfl) czI_9 ?_
                refine k_iadd G (dc d_Si_takeTurn 80 rfl) ?_
                obtain ⟨⟨x35, M36⟩, e34, h⟩ := kOk_b h
                refine k_cVI G (dc d_Si_takeTurn 81 rfl) kc6 (okL_lt hp0 (o := 0) 0 rfl) (okL_k hp0 (o := 0) 0 rfl) mi_Tw_forgive mv_Tw_forgive rfl ml_RX6_31 (c_Tw_forgive (gst G) hp0 e34) rfl rfl ⟨rfl, rfl⟩ rfl ⟨rfl, rfl⟩ ⟨rfl, rfl⟩ ?_
                refine k_pop G (dc d_Si_takeTurn 82 rfl) rfl ?_
                refine k_goto G (dc d_Si_takeTurn 83 rfl) (tgt := 179) rfl ?_
                refine k_sub [] rfl ?_
                have h9 := kOk_s h
                exact h9
              · replace h := kOk_n c8 h
                have hD41 : KK X B L 3 0 0 M 168 [(2, .int (p1 / 8)), (0, .ref (B.1 + p0)), (1, .int p1)] [] := by
                  refine k_aload_n G (dc d_Si_takeTurn 84 rfl) 1 rfl rfl ?_
                  refine k_iconst G (dc d_Si_takeTurn 85 rfl) cI_1 ?_
                  refine k_iload_n G (dc d_Si_takeTurn 86 rfl) 0 rfl rfl ?_
                  refine k_bipush G (dc d_Si_takeTurn 87 rfl) cB_12 ?_
                  refine k_irem G (dc d_Si_takeTurn 88 rfl) czI_12 ?_
                  refine k_iadd G (dc d_Si_takeTurn 89 rfl) ?_
                  obtain ⟨⟨x39, M40⟩, e38, h⟩ := kOk_b h
                  refine k_cVI G (dc d_Si_takeTurn 90 rfl) kc6 (okL_lt hp0 (o := 0) 0 rfl) (okL_k hp0 (o := 0) 0 rfl) mi_Tw_passMonths mv_Tw_passMonths rfl ml_RX6_34 (c_Tw_passMonths (gst G) hp0 e38) rfl rfl ⟨rfl, rfl⟩ rfl ⟨rfl, rfl⟩ ⟨rfl, rfl⟩ ?_
                  refine k_pop G (dc d_Si_takeTurn 91 rfl) rfl ?_
                  refine k_sub [] rfl ?_
                  have h9 := kOk_s h
                  exact h9
                rcases ts_out (jrem p1 8) 0 6 with ho | ⟨k9, h91, h92, h93⟩
                · exact k_tableOut G (dc d_Si_takeTurn 7 rfl) (tgt := 168) ho rfl hD41
                · have h94 : k9 = 0 ∨ k9 = 1 ∨ k9 = 2 ∨ k9 = 3 ∨ k9 = 4 ∨ k9 = 5 ∨ k9 = 6 := by omega
                  rcases h94 with rfl | rfl | rfl | rfl | rfl | rfl | rfl
                  · exact absurd (Or.inl (h93.trans cI_0)) c3
                  · exact absurd (Or.inr ((h93.trans cI_1))) c3
                  · exact absurd (h93.trans cI_2) c4
                  · exact absurd (h93.trans cI_3) c5
                  · exact absurd (h93.trans cI_4) c6
                  · exact absurd (h93.trans cI_5) c7
                  · exact absurd (h93.trans cI_6) c8
theorem c_Si_takeTurn {l : Launch} {B : KB} {L : KLay} {M : KMem} {p0 : Nat} {p1 : Int32} (hst : l.stackTraces = false) (hx : B.2.2.2 = false) (hp0 : okL L p0 twT) {M' : KMem} (e : m_Si_takeTurn p0 p1 M = some M') : CtrN l B yX6_takeTurn cX6_takeTurn 3 none rm_Si_takeTurn [.ref (B.1 + p0), .int p1] L M none L M' :=
  mk_V rfl hst rfl (fun X hl G _ R => b_Si_takeTurn G hx hp0 ⟨_, e, R⟩)
