/-! laid by wip/whole/lay.py: Mo_turns, Mo_simulates, Mo_simulate, Mo_save, Mo_restore -/
def I_Mo_turns : List (Nat × Instr × Nat) := [(0, .iload_n 1, 1), (1, .bipush 8, 2), (3, .idiv, 1), (4, .istore_n 2, 1), (5, .aload_n 0, 1), (6, .iconst 1, 1), (7, .iload_n 2, 1), (8, .bipush 6, 2), (10, .irem, 1), (11, .iadd, 1), (12, .putfield 118, 3), (15, .iload_n 1, 1), (16, .bipush 8, 2), (18, .irem, 1), (19, .tableswitch 176 0 6 #[41, 41, 65, 88, 123, 140, 157], 41), (60, .aload_n 0, 1), (61, .bipush 115, 2), (63, .putfield 115, 3), (66, .aload_n 0, 1), (67, .iload_n 2, 1), (68, .iconst 4, 1), (69, .irem, 1), (70, .putfield 118, 3), (73, .aload_n 0, 1), (74, .iload_n 2, 1), (75, .invokestatic 255, 3), (78, .putfield 121, 3), (81, .goto 130, 3), (84, .aload_n 0, 1), (85, .iload_n 2, 1), (86, .bipush 6, 2), (88, .idiv, 1), (89, .iconst 3, 1), (90, .irem, 1), (91, .ifCond .ne 8, 3), (94, .bipush 100, 2), (96, .goto 5, 3), (99, .bipush 111, 2), (101, .putfield 115, 3), (104, .goto 107, 3), (107, .aload_n 0, 1), (108, .bipush 106, 2), (110, .putfield 115, 3), (113, .aload_n 0, 1), (114, .iconst 1, 1), (115, .iload_n 2, 1), (116, .bipush 8, 2), (118, .idiv, 1), (119, .bipush 6, 2), (121, .irem, 1), (122, .iadd, 1), (123, .putfield 121, 3), (126, .aload_n 0, 1), (127, .iconst 1, 1), (128, .iload_n 2, 1), (129, .bipush 64, 2), (131, .idiv, 1), (132, .bipush 6, 2), (134, .irem, 1), (135, .iadd, 1), (136, .putfield 137, 3), (139, .goto 72, 3), (142, .aload_n 0, 1), (143, .bipush 114, 2), (145, .putfield 115, 3), (148, .aload_n 0, 1), (149, .iload_n 2, 1), (150, .bipush 10, 2), (152, .irem, 1), (153, .putfield 118, 3), (156, .goto 55, 3), (159, .aload_n 0, 1), (160, .bipush 112, 2), (162, .putfield 115, 3), (165, .aload_n 0, 1), (166, .iload_n 2, 1), (167, .bipush 8, 2), (169, .irem, 1), (170, .putfield 118, 3), (173, .goto 38, 3), (176, .aload_n 0, 1), (177, .bipush 121, 2), (179, .putfield 115, 3), (182, .aload_n 0, 1), (183, .iconst 1, 1), (184, .iload_n 2, 1), (185, .bipush 9, 2), (187, .irem, 1), (188, .iadd, 1), (189, .putfield 118, 3), (192, .goto 19, 3), (195, .aload_n 0, 1), (196, .bipush 109, 2), (198, .putfield 115, 3), (201, .aload_n 0, 1), (202, .iconst 1, 1), (203, .iload_n 2, 1), (204, .bipush 12, 2), (206, .irem, 1), (207, .iadd, 1), (208, .putfield 118, 3), (211, .aload_n 0, 1), (212, .invokevirtual 190, 3), (215, .ireturn, 1)]
set_option maxRecDepth 100000 in
theorem d_Mo_turns : decA cX11_turns I_Mo_turns = true := by decide +kernel
abbrev rm_Mo_turns : Room := ({ frames := 9, cells := 0, slots := 0, locals := 206 } : Room)
def m_Mo_turns (u : Nat) (p0 : Int32) (M : KMem) : Option (Int32 × KMem) :=
 Option.bind (some (kup M u 12 (1 + (jrem (p0 / 8) 6)))) fun M2 =>
 Option.bind (α := KMem) (if (jrem p0 8) = 0 ∨ (jrem p0 8) = 1 then
 (Option.bind (some (kup M2 u 11 115)) fun M15 =>
 Option.bind (some (kup M15 u 12 (jrem (p0 / 8) 4))) fun M17 =>
 Option.bind (m_Mo_wordBy (p0 / 8)) fun x19 =>
 Option.bind (some (kup M17 u 13 x19)) fun M21 =>
 some M21)
 else
 (if (jrem p0 8) = 2 then
 (Option.bind (α := Int32) (if (jrem ((p0 / 8) / 6) 3) = 0 then
 (some 100)
 else
 (some 111)) fun t23 =>
 Option.bind (some (kup M2 u 11 t23)) fun M26 =>
 some M26)
 else
 (if (jrem p0 8) = 3 then
 (Option.bind (some (kup M2 u 11 106)) fun M30 =>
 Option.bind (some (kup M30 u 13 (1 + (jrem ((p0 / 8) / 8) 6)))) fun M32 =>
 Option.bind (some (kup M32 u 14 (1 + (jrem ((p0 / 8) / 64) 6)))) fun M34 =>
 some M34)
 else
 (if (jrem p0 8) = 4 then
 (Option.bind (some (kup M2 u 11 114)) fun M37 =>
 Option.bind (some (kup M37 u 12 (jrem (p0 / 8) 10))) fun M39 =>
 some M39)
 else
 (if (jrem p0 8) = 5 then
 (Option.bind (some (kup M2 u 11 112)) fun M42 =>
 Option.bind (some (kup M42 u 12 (jrem (p0 / 8) 8))) fun M44 =>
 some M44)
 else
 (if (jrem p0 8) = 6 then
 (Option.bind (some (kup M2 u 11 121)) fun M47 =>
 Option.bind (some (kup M47 u 12 (1 + (jrem (p0 / 8) 9)))) fun M49 =>
 some M49)
 else
 (Option.bind (some (kup M2 u 11 109)) fun M52 =>
 Option.bind (some (kup M52 u 12 (1 + (jrem (p0 / 8) 12)))) fun M54 =>
 some M54))))))) fun M3 =>
 Option.bind (m_Mo_does u M3) fun (x6, M7) =>
 some (x6, M7)
set_option maxHeartbeats 4000000 in
set_option maxRecDepth 100000 in
theorem b_Mo_turns {X : KX} {B : KB} {L : KLay} {M : KMem} {u : Nat} {p0 : Int32} (G : Good X B RX11 cX11_turns 3 rm_Mo_turns) (hu : okL L u moT) (h : kOk (m_Mo_turns u p0 M) (fun r => RI X B L 3 cX11_turns .int rm_Mo_turns r.1 r.2)) : KK X B L 3 0 0 M 0 [(0, .ref (B.1 + u)), (1, .int p0)] [] := by
  unfold m_Mo_turns at h
  refine k_iload_n G (dc d_Mo_turns 0 rfl) 1 rfl rfl ?_
  refine k_bipush G (dc d_Mo_turns 1 rfl) cB_8 ?_
  refine k_idiv G (dc d_Mo_turns 2 rfl) czI_8 ?_
  refine k_istore_n G (dc d_Mo_turns 3 rfl) (ls' := [(2, .int (p0 / 8)), (0, .ref (B.1 + u)), (1, .int p0)]) rfl rfl rfl ?_
  refine k_aload_n G (dc d_Mo_turns 4 rfl) 1 rfl rfl ?_
  refine k_iconst G (dc d_Mo_turns 5 rfl) cI_1 ?_
  refine k_iload_n G (dc d_Mo_turns 6 rfl) 0 rfl rfl ?_
  refine k_bipush G (dc d_Mo_turns 7 rfl) cB_6 ?_
  refine k_irem G (dc d_Mo_turns 8 rfl) czI_6 ?_
  refine k_iadd G (dc d_Mo_turns 9 rfl) ?_
  obtain ⟨M2, e1, h⟩ := kOk_b h
  refine k_putI G kc8 (dc d_Mo_turns 10 rfl) (okL_lt hu (o := 0) 0 rfl) (okL_k hu (o := 0) 0 rfl) 12 (by decide) rfl rfl fl_RX11_118 rfl rfl e1 ?_
  refine k_iload_n G (dc d_Mo_turns 11 rfl) 2 rfl rfl ?_
  refine k_bipush G (dc d_Mo_turns 12 rfl) cB_8 ?_
  refine k_irem G (dc d_Mo_turns 13 rfl) czI_8 ?_
  refine kJ h (fun r4 => KK X B L 3 0 0 r4 211 [(0, .ref (B.1 + u))] []) (fun r4 h => ?_) (fun h => ?_)
  · obtain ⟨M3, rfl⟩ : ∃ z, z = r4 := ⟨_, rfl⟩
    show KK X B L 3 0 0 M3 211 [(0, .ref (B.1 + u))] []
    refine k_aload_n G (dc d_Mo_turns 101 rfl) 0 rfl rfl ?_
    obtain ⟨⟨x6, M7⟩, e5, h⟩ := kOk_b h
    refine k_cVI G (dc d_Mo_turns 102 rfl) kc8 (okL_lt hu (o := 0) 0 rfl) (okL_k hu (o := 0) 0 rfl) mi_Mo_does mv_Mo_does rfl ml_RX11_190 (c_Mo_does (gst G) hu e5) rfl rfl ⟨rfl, rfl⟩ rfl ⟨rfl, rfl⟩ ⟨rfl, rfl⟩ ?_
    exact (kOk_s h) _ _ _ _ rfl rfl rfl (dc d_Mo_turns 103 rfl)
  · by_cases c8 : (jrem p0 8) = 0 ∨ (jrem p0 8) = 1
    · replace h := kOk_p c8 h
      have hA22 : KK X B L 3 0 0 M2 60 [(2, .int (p0 / 8)), (0, .ref (B.1 + u)), (1, .int p0)] [] := by
        refine k_aload_n G (dc d_Mo_turns 15 rfl) 1 rfl rfl ?_
        refine k_bipush G (dc d_Mo_turns 16 rfl) cB_115 ?_
        obtain ⟨M15, e14, h⟩ := kOk_b h
        refine k_putI G kc8 (dc d_Mo_turns 17 rfl) (okL_lt hu (o := 0) 0 rfl) (okL_k hu (o := 0) 0 rfl) 11 (by decide) rfl rfl fl_RX11_115 rfl rfl e14 ?_
        refine k_aload_n G (dc d_Mo_turns 18 rfl) 1 rfl rfl ?_
        refine k_iload_n G (dc d_Mo_turns 19 rfl) 0 rfl rfl ?_
        refine k_iconst G (dc d_Mo_turns 20 rfl) cI_4 ?_
        refine k_irem G (dc d_Mo_turns 21 rfl) czI_4 ?_
        obtain ⟨M17, e16, h⟩ := kOk_b h
        refine k_putI G kc8 (dc d_Mo_turns 22 rfl) (okL_lt hu (o := 0) 0 rfl) (okL_k hu (o := 0) 0 rfl) 12 (by decide) rfl rfl fl_RX11_118 rfl rfl e16 ?_
        refine k_aload_n G (dc d_Mo_turns 23 rfl) 1 rfl rfl ?_
        refine k_iload_n G (dc d_Mo_turns 24 rfl) 0 rfl rfl ?_
        obtain ⟨x19, e18, h⟩ := kOk_b h
        refine k_cSI G (dc d_Mo_turns 25 rfl) mi_Mo_wordBy ms_Mo_wordBy ml_RX11_255 (c_Mo_wordBy (gst G)  e18) rfl rfl ⟨rfl, rfl⟩ rfl ⟨rfl, rfl⟩ ⟨rfl, rfl⟩ ?_
        obtain ⟨M21, e20, h⟩ := kOk_b h
        refine k_putI G kc8 (dc d_Mo_turns 26 rfl) (okL_lt hu (o := 0) 0 rfl) (okL_k hu (o := 0) 0 rfl) 13 (by decide) rfl rfl fl_RX11_121 rfl rfl e20 ?_
        refine k_goto G (dc d_Mo_turns 27 rfl) (tgt := 211) rfl ?_
        refine k_sub [1] rfl ?_
        have h9 := kOk_s h
        exact h9
      rcases c8 with c8 | c8
      · exact k_tsI G (dc d_Mo_turns 14 rfl) (off := 41) (tgt := 60) c8 (by decide) (by decide) (by decide) (by decide) hA22
      · exact k_tsI G (dc d_Mo_turns 14 rfl) (off := 41) (tgt := 60) c8 (by decide) (by decide) (by decide) (by decide) hA22
    · replace h := kOk_n c8 h
      by_cases c9 : (jrem p0 8) = 2
      · replace h := kOk_p c9 h
        refine k_tsI G (dc d_Mo_turns 14 rfl) (off := 65) (tgt := 84) c9 (by decide) (by decide) (by decide) (by decide) ?_
        refine k_aload_n G (dc d_Mo_turns 28 rfl) 1 rfl rfl ?_
        refine k_iload_n G (dc d_Mo_turns 29 rfl) 0 rfl rfl ?_
        refine k_bipush G (dc d_Mo_turns 30 rfl) cB_6 ?_
        refine k_idiv G (dc d_Mo_turns 31 rfl) czI_6 ?_
        refine k_iconst G (dc d_Mo_turns 32 rfl) cI_3 ?_
        refine k_irem G (dc d_Mo_turns 33 rfl) czI_3 ?_
        refine kJ h (fun r24 => KK X B L 3 0 0 M2 101 [(0, .ref (B.1 + u))] [.int r24, .ref (B.1 + u)]) (fun r24 h => ?_) (fun h => ?_)
        · obtain ⟨t23, rfl⟩ : ∃ z, z = r24 := ⟨_, rfl⟩
          show KK X B L 3 0 0 M2 101 [(0, .ref (B.1 + u))] [.int t23, .ref (B.1 + u)]
          obtain ⟨M26, e25, h⟩ := kOk_b h
          refine k_putI G kc8 (dc d_Mo_turns 38 rfl) (okL_lt hu (o := 0) 0 rfl) (okL_k hu (o := 0) 0 rfl) 11 (by decide) rfl rfl fl_RX11_115 rfl rfl e25 ?_
          refine k_goto G (dc d_Mo_turns 39 rfl) (tgt := 211) rfl ?_
          have h9 := kOk_s h
          exact h9
        · refine k_if_ne G (dc d_Mo_turns 34 rfl) (tgt := 99) rfl (fun c27 => ?_) (fun c27 => ?_)
          · replace h := kOk_n c27 h
            refine k_bipush G (dc d_Mo_turns 37 rfl) cB_111 ?_
            refine k_sub [1] rfl ?_
            have h9 := kOk_s h
            exact h9
          · replace h := kOk_p c27 h
            refine k_bipush G (dc d_Mo_turns 35 rfl) cB_100 ?_
            refine k_goto G (dc d_Mo_turns 36 rfl) (tgt := 101) rfl ?_
            refine k_sub [1] rfl ?_
            have h9 := kOk_s h
            exact h9
      · replace h := kOk_n c9 h
        by_cases c10 : (jrem p0 8) = 3
        · replace h := kOk_p c10 h
          refine k_tsI G (dc d_Mo_turns 14 rfl) (off := 88) (tgt := 107) c10 (by decide) (by decide) (by decide) (by decide) ?_
          refine k_aload_n G (dc d_Mo_turns 40 rfl) 1 rfl rfl ?_
          refine k_bipush G (dc d_Mo_turns 41 rfl) cB_106 ?_
          obtain ⟨M30, e29, h⟩ := kOk_b h
          refine k_putI G kc8 (dc d_Mo_turns 42 rfl) (okL_lt hu (o := 0) 0 rfl) (okL_k hu (o := 0) 0 rfl) 11 (by decide) rfl rfl fl_RX11_115 rfl rfl e29 ?_
          refine k_aload_n G (dc d_Mo_turns 43 rfl) 1 rfl rfl ?_
          refine k_iconst G (dc d_Mo_turns 44 rfl) cI_1 ?_
          refine k_iload_n G (dc d_Mo_turns 45 rfl) 0 rfl rfl ?_
          refine k_bipush G (dc d_Mo_turns 46 rfl) cB_8 ?_
          refine k_idiv G (dc d_Mo_turns 47 rfl) czI_8 ?_
          refine k_bipush G (dc d_Mo_turns 48 rfl) cB_6 ?_
          refine k_irem G (dc d_Mo_turns 49 rfl) czI_6 ?_
          refine k_iadd G (dc d_Mo_turns 50 rfl) ?_
          obtain ⟨M32, e31, h⟩ := kOk_b h
          refine k_putI G kc8 (dc d_Mo_turns 51 rfl) (okL_lt hu (o := 0) 0 rfl) (okL_k hu (o := 0) 0 rfl) 13 (by decide) rfl rfl fl_RX11_121 rfl rfl e31 ?_
          refine k_aload_n G (dc d_Mo_turns 52 rfl) 1 rfl rfl ?_
          refine k_iconst G (dc d_Mo_turns 53 rfl) cI_1 ?_
          refine k_iload_n G (dc d_Mo_turns 54 rfl) 0 rfl rfl ?_
          refine k_bipush G (dc d_Mo_turns 55 rfl) cB_64 ?_
          refine k_idiv G (dc d_Mo_turns 56 rfl) czI_64 ?_
          refine k_bipush G (dc d_Mo_turns 57 rfl) cB_6 ?_
          refine k_irem G (dc d_Mo_turns 58 rfl) czI_6 ?_
          refine k_iadd G (dc d_Mo_turns 59 rfl) ?_
          obtain ⟨M34, e33, h⟩ := kOk_b h
          refine k_putI G kc8 (dc d_Mo_turns 60 rfl) (okL_lt hu (o := 0) 0 rfl) (okL_k hu (o := 0) 0 rfl) 14 (by decide) rfl rfl fl_RX11_137 rfl rfl e33 ?_
          refine k_goto G (dc d_Mo_turns 61 rfl) (tgt := 211) rfl ?_
          refine k_sub [1] rfl ?_
          have h9 := kOk_s h
          exact h9
        · replace h := kOk_n c10 h
          by_cases c11 : (jrem p0 8) = 4
          · replace h := kOk_p c11 h
            refine k_tsI G (dc d_Mo_turns 14 rfl) (off := 123) (tgt := 142) c11 (by decide) (by decide) (by decide) (by decide) ?_
            refine k_aload_n G (dc d_Mo_turns 62 rfl) 1 rfl rfl ?_
            refine k_bipush G (dc d_Mo_turns 63 rfl) cB_114 ?_
            obtain ⟨M37, e36, h⟩ := kOk_b h
            refine k_putI G kc8 (dc d_Mo_turns 64 rfl) (okL_lt hu (o := 0) 0 rfl) (okL_k hu (o := 0) 0 rfl) 11 (by decide) rfl rfl fl_RX11_115 rfl rfl e36 ?_
            refine k_aload_n G (dc d_Mo_turns 65 rfl) 1 rfl rfl ?_
            refine k_iload_n G (dc d_Mo_turns 66 rfl) 0 rfl rfl ?_
            refine k_bipush G (dc d_Mo_turns 67 rfl) cB_10 ?_
            refine k_irem G (dc d_Mo_turns 68 rfl) czI_10 ?_
            obtain ⟨M39, e38, h⟩ := kOk_b h
            refine k_putI G kc8 (dc d_Mo_turns 69 rfl) (okL_lt hu (o := 0) 0 rfl) (okL_k hu (o := 0) 0 rfl) 12 (by decide) rfl rfl fl_RX11_118 rfl rfl e38 ?_
            refine k_goto G (dc d_Mo_turns 70 rfl) (tgt := 211) rfl ?_
            refine k_sub [1] rfl ?_
            have h9 := kOk_s h
            exact h9
          · replace h := kOk_n c11 h
            by_cases c12 : (jrem p0 8) = 5
            · replace h := kOk_p c12 h
              refine k_tsI G (dc d_Mo_turns 14 rfl) (off := 140) (tgt := 159) c12 (by decide) (by decide) (by decide) (by decide) ?_
              refine k_aload_n G (dc d_Mo_turns 71 rfl) 1 rfl rfl ?_
              refine k_bipush G (dc d_Mo_turns 72 rfl) cB_112 ?_
              obtain ⟨M42, e41, h⟩ := kOk_b h
              refine k_putI G kc8 (dc d_Mo_turns 73 rfl) (okL_lt hu (o := 0) 0 rfl) (okL_k hu (o := 0) 0 rfl) 11 (by decide) rfl rfl fl_RX11_115 rfl rfl e41 ?_
              refine k_aload_n G (dc d_Mo_turns 74 rfl) 1 rfl rfl ?_
              refine k_iload_n G (dc d_Mo_turns 75 rfl) 0 rfl rfl ?_
              refine k_bipush G (dc d_Mo_turns 76 rfl) cB_8 ?_
              refine k_irem G (dc d_Mo_turns 77 rfl) czI_8 ?_
              obtain ⟨M44, e43, h⟩ := kOk_b h
              refine k_putI G kc8 (dc d_Mo_turns 78 rfl) (okL_lt hu (o := 0) 0 rfl) (okL_k hu (o := 0) 0 rfl) 12 (by decide) rfl rfl fl_RX11_118 rfl rfl e43 ?_
              refine k_goto G (dc d_Mo_turns 79 rfl) (tgt := 211) rfl ?_
              refine k_sub [1] rfl ?_
              have h9 := kOk_s h
              exact h9
            · replace h := kOk_n c12 h
              by_cases c13 : (jrem p0 8) = 6
              · replace h := kOk_p c13 h
                refine k_tsI G (dc d_Mo_turns 14 rfl) (off := 157) (tgt := 176) c13 (by decide) (by decide) (by decide) (by decide) ?_
                refine k_aload_n G (dc d_Mo_turns 80 rfl) 1 rfl rfl ?_
                refine k_bipush G (dc d_Mo_turns 81 rfl) cB_121 ?_
                obtain ⟨M47, e46, h⟩ := kOk_b h
                refine k_putI G kc8 (dc d_Mo_turns 82 rfl) (okL_lt hu (o := 0) 0 rfl) (okL_k hu (o := 0) 0 rfl) 11 (by decide) rfl rfl fl_RX11_115 rfl rfl e46 ?_
                refine k_aload_n G (dc d_Mo_turns 83 rfl) 1 rfl rfl ?_
                refine k_iconst G (dc d_Mo_turns 84 rfl) cI_1 ?_
                refine k_iload_n G (dc d_Mo_turns 85 rfl) 0 rfl rfl ?_
                refine k_bipush G (dc d_Mo_turns 86 rfl) cB_9 ?_
                refine k_irem G (dc d_Mo_turns 87 rfl) czI_9 ?_
                refine k_iadd G (dc d_Mo_turns 88 rfl) ?_
                obtain ⟨M49, e48, h⟩ := kOk_b h
                refine k_putI G kc8 (dc d_Mo_turns 89 rfl) (okL_lt hu (o := 0) 0 rfl) (okL_k hu (o := 0) 0 rfl) 12 (by decide) rfl rfl fl_RX11_118 rfl rfl e48 ?_
                refine k_goto G (dc d_Mo_turns 90 rfl) (tgt := 211) rfl ?_
                refine k_sub [1] rfl ?_
                have h9 := kOk_s h
                exact h9
              · replace h := kOk_n c13 h
                have hD55 : KK X B L 3 0 0 M2 195 [(2, .int (p0 / 8)), (0, .ref (B.1 + u)), (1, .int p0)] [] := by
                  refine k_aload_n G (dc d_Mo_turns 91 rfl) 1 rfl rfl ?_
                  refine k_bipush G (dc d_Mo_turns 92 rfl) cB_109 ?_
                  obtain ⟨M52, e51, h⟩ := kOk_b h
                  refine k_putI G kc8 (dc d_Mo_turns 93 rfl) (okL_lt hu (o := 0) 0 rfl) (okL_k hu (o := 0) 0 rfl) 11 (by decide) rfl rfl fl_RX11_115 rfl rfl e51 ?_
                  refine k_aload_n G (dc d_Mo_turns 94 rfl) 1 rfl rfl ?_
                  refine k_iconst G (dc d_Mo_turns 95 rfl) cI_1 ?_
                  refine k_iload_n G (dc d_Mo_turns 96 rfl) 0 rfl rfl ?_
                  refine k_bipush G (dc d_Mo_turns 97 rfl) cB_12 ?_
                  refine k_irem G (dc d_Mo_turns 98 rfl) czI_12 ?_
                  refine k_iadd G (dc d_Mo_turns 99 rfl) ?_
                  obtain ⟨M54, e53, h⟩ := kOk_b h
                  refine k_putI G kc8 (dc d_Mo_turns 100 rfl) (okL_lt hu (o := 0) 0 rfl) (okL_k hu (o := 0) 0 rfl) 12 (by decide) rfl rfl fl_RX11_118 rfl rfl e53 ?_
                  refine k_sub [1] rfl ?_
                  have h9 := kOk_s h
                  exact h9
                rcases ts_out (jrem p0 8) 0 6 with ho | ⟨k9, h91, h92, h93⟩
                · exact k_tableOut G (dc d_Mo_turns 14 rfl) (tgt := 195) ho rfl hD55
                · have h94 : k9 = 0 ∨ k9 = 1 ∨ k9 = 2 ∨ k9 = 3 ∨ k9 = 4 ∨ k9 = 5 ∨ k9 = 6 := by omega
                  rcases h94 with rfl | rfl | rfl | rfl | rfl | rfl | rfl
                  · exact absurd (Or.inl (h93.trans cI_0)) c8
                  · exact absurd (Or.inr ((h93.trans cI_1))) c8
                  · exact absurd (h93.trans cI_2) c9
                  · exact absurd (h93.trans cI_3) c10
                  · exact absurd (h93.trans cI_4) c11
                  · exact absurd (h93.trans cI_5) c12
                  · exact absurd (h93.trans cI_6) c13
theorem c_Mo_turns {l : Launch} {B : KB} {L : KLay} {M : KMem} {u : Nat} {p0 : Int32} (hst : l.stackTraces = false) (hu : okL L u moT) {r : Int32} {M' : KMem} (e : m_Mo_turns u p0 M = some (r, M')) : CtrN l B yX11_turns cX11_turns 3 (some .int) rm_Mo_turns [.ref (B.1 + u), .int p0] L M (some (.int r)) L M' :=
  mk_I rfl hst rfl (fun X hl G _ R => b_Mo_turns G hu ⟨_, e, R⟩)
def I_Mo_simulates : List (Nat × Instr × Nat) := [(0, .aload_n 0, 1), (1, .invokevirtual 234, 3), (4, .lload_n 1, 1), (5, .lstore 4, 2), (7, .iconst 0, 1), (8, .istore 6, 2), (10, .iconst 0, 1), (11, .istore 7, 2), (13, .iload 7, 2), (15, .iload_n 3, 1), (16, .if_icmp .ge 33, 3), (19, .lload 4, 2), (21, .ldc2_w 258, 3), (24, .lmul, 1), (25, .ldc2_w 260, 3), (28, .ladd, 1), (29, .lstore 4, 2), (31, .aload_n 0, 1), (32, .lload 4, 2), (34, .bipush 33, 2), (36, .lushr, 1), (37, .l2i, 1), (38, .invokevirtual 262, 3), (41, .istore 6, 2), (43, .iinc 7 1, 3), (46, .goto (-33), 3), (49, .sipush 10000, 3), (52, .aload_n 0, 1), (53, .getfield 7, 3), (56, .bipush 95, 2), (58, .iaload, 1), (59, .aload_n 0, 1), (60, .getfield 13, 3), (63, .bipush 95, 2), (65, .iaload, 1), (66, .isub, 1), (67, .sipush 10000, 3), (70, .irem, 1), (71, .imul, 1), (72, .bipush 100, 2), (74, .aload_n 0, 1), (75, .iconst 1, 1), (76, .invokevirtual 204, 3), (79, .imul, 1), (80, .iadd, 1), (81, .bipush 10, 2), (83, .aload_n 0, 1), (84, .invokevirtual 105, 3), (87, .imul, 1), (88, .iadd, 1), (89, .aload_n 0, 1), (90, .getfield 7, 3), (93, .iconst 0, 1), (94, .iaload, 1), (95, .iadd, 1), (96, .istore 7, 2), (98, .aload_n 0, 1), (99, .invokevirtual 242, 3), (102, .iload 7, 2), (104, .ireturn, 1)]
set_option maxRecDepth 100000 in
theorem d_Mo_simulates : decA cX11_simulates I_Mo_simulates = true := by decide +kernel
abbrev rm_Mo_simulates : Room := ({ frames := 10, cells := 0, slots := 0, locals := 228 } : Room)
def m_Mo_simulates_l13 (u : Nat) (p1 : Int32) : (Int64 × Int32 × KMem) → Option ((Int64 × Int32 × KMem) ⊕ KMem) := fun (v4_3, v7_4, M5) =>
 if p1 ≤ v7_4 then
 (some (.inr M5))
 else
 (Option.bind (m_Mo_turns u ((jushrL ((v4_3 * 6364136223846793005) + 1442695040888963407) 33).toInt32) M5) fun (x8, M9) =>
 some (.inl ((v4_3 * 6364136223846793005) + 1442695040888963407, v7_4 + 1, M9)))
def m_Mo_simulates (u : Nat) (p0 : Int64) (p1 : Int32) (M : KMem) : Option (Int32 × KMem) :=
 Option.bind (m_Mo_putAside u M) fun M2 =>
 Option.bind (α := KMem) (kLp (m_Mo_simulates_l13 u p1) kFU (p0, 0, M2)) fun M10 =>
 Option.bind (rdI M10 (u + 1) 108 95) fun x12 =>
 Option.bind (rdI M10 (u + 2) 108 95) fun x14 =>
 Option.bind (m_Mo_sumOf u 1 M10) fun (x16, M17) =>
 Option.bind (m_Mo_wrongs u M17) fun x19 =>
 Option.bind (rdI M17 (u + 1) 108 0) fun x21 =>
 Option.bind (m_Mo_putBack u M17) fun M23 =>
 some ((((10000 * (jrem (x12 - x14) 10000)) + (100 * x16)) + (10 * x19)) + x21, M23)
set_option maxHeartbeats 4000000 in
set_option maxRecDepth 100000 in
theorem b_Mo_simulates {X : KX} {B : KB} {L : KLay} {M : KMem} {u : Nat} {p0 : Int64} {p1 : Int32} (G : Good X B RX11 cX11_simulates 8 rm_Mo_simulates) (hu : okL L u moT) (h : kOk (m_Mo_simulates u p0 p1 M) (fun r => RI X B L 8 cX11_simulates .int rm_Mo_simulates r.1 r.2)) : KK X B L 8 0 0 M 0 [(0, .ref (B.1 + u)), (1, .long p0), (3, .int p1)] [] := by
  unfold m_Mo_simulates at h
  refine k_aload_n G (dc d_Mo_simulates 0 rfl) 0 rfl rfl ?_
  obtain ⟨M2, e1, h⟩ := kOk_b h
  refine k_cVV G (dc d_Mo_simulates 1 rfl) kc8 (okL_lt hu (o := 0) 0 rfl) (okL_k hu (o := 0) 0 rfl) mi_Mo_putAside mv_Mo_putAside rfl ml_RX11_234 (c_Mo_putAside (gst G) hu e1) rfl rfl ⟨rfl, rfl⟩ rfl ⟨rfl, rfl⟩ ⟨rfl, rfl⟩ ?_
  refine k_lload_n G (dc d_Mo_simulates 2 rfl) 1 rfl rfl ?_
  refine k_lstore G (dc d_Mo_simulates 3 rfl) (ls' := [(4, .long p0), (0, .ref (B.1 + u)), (1, .long p0), (3, .int p1)]) rfl rfl ?_
  refine k_iconst G (dc d_Mo_simulates 4 rfl) cI_0 ?_
  refine k_istore G (dc d_Mo_simulates 5 rfl) (ls' := [(6, .int 0), (4, .long p0), (0, .ref (B.1 + u)), (1, .long p0), (3, .int p1)]) rfl rfl ?_
  refine k_iconst G (dc d_Mo_simulates 6 rfl) cI_0 ?_
  refine k_istore G (dc d_Mo_simulates 7 rfl) (ls' := [(7, .int 0), (6, .int 0), (4, .long p0), (0, .ref (B.1 + u)), (1, .long p0), (3, .int p1)]) rfl rfl ?_
  refine kJ h (fun r24 => KK X B L 8 0 0 r24 49 [(0, .ref (B.1 + u))] []) (fun r24 h => ?_) (fun h => ?_)
  · obtain ⟨M10, rfl⟩ : ∃ z, z = r24 := ⟨_, rfl⟩
    show KK X B L 8 0 0 M10 49 [(0, .ref (B.1 + u))] []
    refine k_sipush G (dc d_Mo_simulates 26 rfl) cS_10000 ?_
    refine k_aload_n G (dc d_Mo_simulates 27 rfl) 0 rfl rfl ?_
    refine k_getR G kc8 (dc d_Mo_simulates 28 rfl) (okL_lt hu (o := 0) 0 rfl) (okL_k hu (o := 0) 0 rfl) 1 (by decide) rfl fl_RX11_7 (u + 1) (okL_r hu (o := 0) (c := 1) 0 rfl 0 rfl) ?_
    refine k_bipush G (dc d_Mo_simulates 29 rfl) cB_95 ?_
    obtain ⟨x12, e11, h⟩ := kOk_b h
    refine k_ild G (dc d_Mo_simulates 30 rfl) (okL_lt hu (o := 1) 1 rfl) (okL_k hu (o := 1) 1 rfl) (okL_n hu (o := 1) 1 rfl) e11 ?_
    refine k_aload_n G (dc d_Mo_simulates 31 rfl) 0 rfl rfl ?_
    refine k_getR G kc8 (dc d_Mo_simulates 32 rfl) (okL_lt hu (o := 0) 0 rfl) (okL_k hu (o := 0) 0 rfl) 2 (by decide) rfl fl_RX11_13 (u + 2) (okL_r hu (o := 0) (c := 2) 0 rfl 1 rfl) ?_
    refine k_bipush G (dc d_Mo_simulates 33 rfl) cB_95 ?_
    obtain ⟨x14, e13, h⟩ := kOk_b h
    refine k_ild G (dc d_Mo_simulates 34 rfl) (okL_lt hu (o := 2) 2 rfl) (okL_k hu (o := 2) 2 rfl) (okL_n hu (o := 2) 2 rfl) e13 ?_
    refine k_isub G (dc d_Mo_simulates 35 rfl) ?_
    refine k_sipush G (dc d_Mo_simulates 36 rfl) cS_10000 ?_
    refine k_irem G (dc d_Mo_simulates 37 rfl) czI_10000 ?_
    refine k_imul G (dc d_Mo_simulates 38 rfl) ?_
    refine k_bipush G (dc d_Mo_simulates 39 rfl) cB_100 ?_
    refine k_aload_n G (dc d_Mo_simulates 40 rfl) 0 rfl rfl ?_
    refine k_iconst G (dc d_Mo_simulates 41 rfl) cI_1 ?_
    obtain ⟨⟨x16, M17⟩, e15, h⟩ := kOk_b h
    refine k_cVI G (dc d_Mo_simulates 42 rfl) kc8 (okL_lt hu (o := 0) 0 rfl) (okL_k hu (o := 0) 0 rfl) mi_Mo_sumOf mv_Mo_sumOf rfl ml_RX11_204 (c_Mo_sumOf (gst G) hu e15) rfl rfl ⟨rfl, rfl⟩ rfl ⟨rfl, rfl⟩ ⟨rfl, rfl⟩ ?_
    refine k_imul G (dc d_Mo_simulates 43 rfl) ?_
    refine k_iadd G (dc d_Mo_simulates 44 rfl) ?_
    refine k_bipush G (dc d_Mo_simulates 45 rfl) cB_10 ?_
    refine k_aload_n G (dc d_Mo_simulates 46 rfl) 0 rfl rfl ?_
    obtain ⟨x19, e18, h⟩ := kOk_b h
    refine k_cVI G (dc d_Mo_simulates 47 rfl) kc8 (okL_lt hu (o := 0) 0 rfl) (okL_k hu (o := 0) 0 rfl) mi_Mo_wrongs mv_Mo_wrongs rfl ml_RX11_105 (c_Mo_wrongs (gst G) hu e18) rfl rfl ⟨rfl, rfl⟩ rfl ⟨rfl, rfl⟩ ⟨rfl, rfl⟩ ?_
    refine k_imul G (dc d_Mo_simulates 48 rfl) ?_
    refine k_iadd G (dc d_Mo_simulates 49 rfl) ?_
    refine k_aload_n G (dc d_Mo_simulates 50 rfl) 0 rfl rfl ?_
    refine k_getR G kc8 (dc d_Mo_simulates 51 rfl) (okL_lt hu (o := 0) 0 rfl) (okL_k hu (o := 0) 0 rfl) 1 (by decide) rfl fl_RX11_7 (u + 1) (okL_r hu (o := 0) (c := 1) 0 rfl 0 rfl) ?_
    refine k_iconst G (dc d_Mo_simulates 52 rfl) cI_0 ?_
    obtain ⟨x21, e20, h⟩ := kOk_b h
    refine k_ild G (dc d_Mo_simulates 53 rfl) (okL_lt hu (o := 1) 1 rfl) (okL_k hu (o := 1) 1 rfl) (okL_n hu (o := 1) 1 rfl) e20 ?_
    refine k_iadd G (dc d_Mo_simulates 54 rfl) ?_
    refine k_istore G (dc d_Mo_simulates 55 rfl) (ls' := [(7, .int ((((10000 * (jrem (x12 - x14) 10000)) + (100 * x16)) + (10 * x19)) + x21)), (0, .ref (B.1 + u))]) rfl rfl ?_
    refine k_aload_n G (dc d_Mo_simulates 56 rfl) 1 rfl rfl ?_
    obtain ⟨M23, e22, h⟩ := kOk_b h
    refine k_cVV G (dc d_Mo_simulates 57 rfl) kc8 (okL_lt hu (o := 0) 0 rfl) (okL_k hu (o := 0) 0 rfl) mi_Mo_putBack mv_Mo_putBack rfl ml_RX11_242 (c_Mo_putBack (gst G) hu e22) rfl rfl ⟨rfl, rfl⟩ rfl ⟨rfl, rfl⟩ ⟨rfl, rfl⟩ ?_
    refine k_iload G (dc d_Mo_simulates 58 rfl) 0 rfl ?_
    exact (kOk_s h) _ _ _ _ rfl rfl rfl (dc d_Mo_simulates 59 rfl)
  · refine k_sub [3, 5, 2, 0] rfl ?_
    refine kLp_ok (P := fun s25 => KK X B L 8 0 0 s25.2.2 13 [(0, .ref (B.1 + u)), (3, .int p1), (4, .long s25.1), (7, .int s25.2.1)] []) (fun s25 h => ?_) kFU _ h
    obtain ⟨v4_3, v7_4, M5⟩ := s25
    unfold m_Mo_simulates_l13 at h
    show KK X B L 8 0 0 M5 13 [(0, .ref (B.1 + u)), (3, .int p1), (4, .long v4_3), (7, .int v7_4)] []
    refine k_iload G (dc d_Mo_simulates 8 rfl) 3 rfl ?_
    refine k_iload_n G (dc d_Mo_simulates 9 rfl) 1 rfl rfl ?_
    refine k_icmp_ge G (dc d_Mo_simulates 10 rfl) (tgt := 49) rfl (fun c6 => ?_) (fun c6 => ?_)
    · replace h := kOk_p c6 h
      refine k_sub [0] rfl ?_
      have h9 := kOk_s h
      exact h9
    · replace h := kOk_n c6 h
      refine k_lload G (dc d_Mo_simulates 11 rfl) 2 rfl ?_
      refine k_ldc2 G (dc d_Mo_simulates 12 rfl) ld_RX11_258 ?_
      refine k_lmul G (dc d_Mo_simulates 13 rfl) ?_
      refine k_ldc2 G (dc d_Mo_simulates 14 rfl) ld_RX11_260 ?_
      refine k_ladd G (dc d_Mo_simulates 15 rfl) ?_
      refine k_lstore G (dc d_Mo_simulates 16 rfl) (ls' := [(4, .long ((v4_3 * 6364136223846793005) + 1442695040888963407)), (0, .ref (B.1 + u)), (3, .int p1), (7, .int v7_4)]) rfl rfl ?_
      refine k_aload_n G (dc d_Mo_simulates 17 rfl) 1 rfl rfl ?_
      refine k_lload G (dc d_Mo_simulates 18 rfl) 0 rfl ?_
      refine k_bipush G (dc d_Mo_simulates 19 rfl) cB_33 ?_
      refine k_lushr G (dc d_Mo_simulates 20 rfl) ?_
      refine k_l2i G (dc d_Mo_simulates 21 rfl) ?_
      obtain ⟨⟨x8, M9⟩, e7, h⟩ := kOk_b h
      refine k_cVI G (dc d_Mo_simulates 22 rfl) kc8 (okL_lt hu (o := 0) 0 rfl) (okL_k hu (o := 0) 0 rfl) mi_Mo_turns mv_Mo_turns rfl ml_RX11_262 (c_Mo_turns (gst G) hu e7) rfl rfl ⟨rfl, rfl⟩ rfl ⟨rfl, rfl⟩ ⟨rfl, rfl⟩ ?_
      refine k_istore G (dc d_Mo_simulates 23 rfl) (ls' := [(6, .int x8), (4, .long ((v4_3 * 6364136223846793005) + 1442695040888963407)), (0, .ref (B.1 + u)), (3, .int p1), (7, .int v7_4)]) rfl rfl ?_
      refine k_iinc G (dc d_Mo_simulates 24 rfl) (ls' := [(7, .int (v7_4 + 1)), (6, .int x8), (4, .long ((v4_3 * 6364136223846793005) + 1442695040888963407)), (0, .ref (B.1 + u)), (3, .int p1)]) 4 rfl cI_1 rfl rfl ?_
      refine k_goto G (dc d_Mo_simulates 25 rfl) (tgt := 13) rfl ?_
      refine k_sub [3, 4, 2, 0] rfl ?_
      have h9 := kOk_s h
      exact h9
theorem c_Mo_simulates {l : Launch} {B : KB} {L : KLay} {M : KMem} {u : Nat} {p0 : Int64} {p1 : Int32} (hst : l.stackTraces = false) (hu : okL L u moT) {r : Int32} {M' : KMem} (e : m_Mo_simulates u p0 p1 M = some (r, M')) : CtrN l B yX11_simulates cX11_simulates 8 (some .int) rm_Mo_simulates [.ref (B.1 + u), .long p0, .int p1] L M (some (.int r)) L M' :=
  mk_I rfl hst rfl (fun X hl G _ R => b_Mo_simulates G hu ⟨_, e, R⟩)
def I_Mo_simulate : List (Nat × Instr × Nat) := [(0, .aload_n 0, 1), (1, .iload_n 3, 1), (2, .iconst 1, 1), (3, .bipush 60, 2), (5, .invokestatic 41, 3), (8, .ifCond .eq 7, 3), (11, .iconst 0, 1), (12, .goto 4, 3), (15, .iconst 1, 1), (16, .invokevirtual 164, 3), (19, .ifCond .eq 12, 3), (22, .aload_n 0, 1), (23, .lload_n 1, 1), (24, .iload_n 3, 1), (25, .invokevirtual 265, 3), (28, .goto 4, 3), (31, .iconst 0, 1), (32, .ireturn, 1)]
set_option maxRecDepth 100000 in
theorem d_Mo_simulate : decA cX11_simulate I_Mo_simulate = true := by decide +kernel
abbrev rm_Mo_simulate : Room := ({ frames := 11, cells := 0, slots := 0, locals := 255 } : Room)
def m_Mo_simulate (u : Nat) (p0 : Int64) (p1 : Int32) (M : KMem) : Option (Int32 × KMem) :=
 Option.bind (m_Mo_in p1 1 60) fun x2 =>
 Option.bind (α := Int32) (if x2 = 0 then
 (some 1)
 else
 (some 0)) fun t3 =>
 Option.bind (m_Mo_holds u t3 M) fun (x6, M7) =>
 Option.bind (α := Int32 × KMem) (if x6 = 0 then
 (some (0, M7))
 else
 (Option.bind (m_Mo_simulates u p0 p1 M7) fun (x13, M14) =>
 some (x13, M14))) fun (t8, M9) =>
 some (t8, M9)
set_option maxHeartbeats 4000000 in
set_option maxRecDepth 100000 in
theorem b_Mo_simulate {X : KX} {B : KB} {L : KLay} {M : KMem} {u : Nat} {p0 : Int64} {p1 : Int32} (G : Good X B RX11 cX11_simulate 4 rm_Mo_simulate) (hu : okL L u moT) (h : kOk (m_Mo_simulate u p0 p1 M) (fun r => RI X B L 4 cX11_simulate .int rm_Mo_simulate r.1 r.2)) : KK X B L 4 0 0 M 0 [(0, .ref (B.1 + u)), (1, .long p0), (3, .int p1)] [] := by
  unfold m_Mo_simulate at h
  refine k_aload_n G (dc d_Mo_simulate 0 rfl) 0 rfl rfl ?_
  refine k_iload_n G (dc d_Mo_simulate 1 rfl) 2 rfl rfl ?_
  refine k_iconst G (dc d_Mo_simulate 2 rfl) cI_1 ?_
  refine k_bipush G (dc d_Mo_simulate 3 rfl) cB_60 ?_
  obtain ⟨x2, e1, h⟩ := kOk_b h
  refine k_cSI G (dc d_Mo_simulate 4 rfl) mi_Mo_in ms_Mo_in ml_RX11_41 (c_Mo_in (gst G)  e1) rfl rfl ⟨rfl, rfl⟩ rfl ⟨rfl, rfl⟩ ⟨rfl, rfl⟩ ?_
  refine kJ h (fun r4 => KK X B L 4 0 0 M 16 [(0, .ref (B.1 + u)), (1, .long p0), (3, .int p1)] [.int r4, .ref (B.1 + u)]) (fun r4 h => ?_) (fun h => ?_)
  · obtain ⟨t3, rfl⟩ : ∃ z, z = r4 := ⟨_, rfl⟩
    show KK X B L 4 0 0 M 16 [(0, .ref (B.1 + u)), (1, .long p0), (3, .int p1)] [.int t3, .ref (B.1 + u)]
    obtain ⟨⟨x6, M7⟩, e5, h⟩ := kOk_b h
    refine k_cVI G (dc d_Mo_simulate 9 rfl) kc8 (okL_lt hu (o := 0) 0 rfl) (okL_k hu (o := 0) 0 rfl) mi_Mo_holds mv_Mo_holds rfl ml_RX11_164 (c_Mo_holds (gst G) hu e5) rfl rfl ⟨rfl, rfl⟩ rfl ⟨rfl, rfl⟩ ⟨rfl, rfl⟩ ?_
    refine kJ h (fun r10 => KK X B L 4 0 0 r10.2 32 [] [.int r10.1]) (fun r10 h => ?_) (fun h => ?_)
    · obtain ⟨t8, M9⟩ := r10
      show KK X B L 4 0 0 M9 32 [] [.int t8]
      exact (kOk_s h) _ _ _ _ rfl rfl rfl (dc d_Mo_simulate 17 rfl)
    · refine k_if_eq G (dc d_Mo_simulate 10 rfl) (tgt := 31) rfl (fun c11 => ?_) (fun c11 => ?_)
      · replace h := kOk_p c11 h
        refine k_iconst G (dc d_Mo_simulate 16 rfl) cI_0 ?_
        refine k_sub [] rfl ?_
        have h9 := kOk_s h
        exact h9
      · replace h := kOk_n c11 h
        refine k_aload_n G (dc d_Mo_simulate 11 rfl) 0 rfl rfl ?_
        refine k_lload_n G (dc d_Mo_simulate 12 rfl) 1 rfl rfl ?_
        refine k_iload_n G (dc d_Mo_simulate 13 rfl) 2 rfl rfl ?_
        obtain ⟨⟨x13, M14⟩, e12, h⟩ := kOk_b h
        refine k_cVI G (dc d_Mo_simulate 14 rfl) kc8 (okL_lt hu (o := 0) 0 rfl) (okL_k hu (o := 0) 0 rfl) mi_Mo_simulates mv_Mo_simulates rfl ml_RX11_265 (c_Mo_simulates (gst G) hu e12) rfl rfl ⟨rfl, rfl⟩ rfl ⟨rfl, rfl⟩ ⟨rfl, rfl⟩ ?_
        refine k_goto G (dc d_Mo_simulate 15 rfl) (tgt := 32) rfl ?_
        refine k_sub [] rfl ?_
        have h9 := kOk_s h
        exact h9
  · refine k_if_eq G (dc d_Mo_simulate 5 rfl) (tgt := 15) rfl (fun c15 => ?_) (fun c15 => ?_)
    · replace h := kOk_p c15 h
      refine k_iconst G (dc d_Mo_simulate 8 rfl) cI_1 ?_
      have h9 := kOk_s h
      exact h9
    · replace h := kOk_n c15 h
      refine k_iconst G (dc d_Mo_simulate 6 rfl) cI_0 ?_
      refine k_goto G (dc d_Mo_simulate 7 rfl) (tgt := 16) rfl ?_
      have h9 := kOk_s h
      exact h9
theorem c_Mo_simulate {l : Launch} {B : KB} {L : KLay} {M : KMem} {u : Nat} {p0 : Int64} {p1 : Int32} (hst : l.stackTraces = false) (hu : okL L u moT) {r : Int32} {M' : KMem} (e : m_Mo_simulate u p0 p1 M = some (r, M')) : CtrN l B yX11_simulate cX11_simulate 4 (some .int) rm_Mo_simulate [.ref (B.1 + u), .long p0, .int p1] L M (some (.int r)) L M' :=
  mk_I rfl hst rfl (fun X hl G _ R => b_Mo_simulate G hu ⟨_, e, R⟩)
def I_Mo_save : List (Nat × Instr × Nat) := [(0, .aload_n 0, 1), (1, .iload_n 1, 1), (2, .iconst 0, 1), (3, .iconst 1, 1), (4, .invokestatic 41, 3), (7, .ifCond .eq 7, 3), (10, .iconst 0, 1), (11, .goto 4, 3), (14, .iconst 1, 1), (15, .invokevirtual 164, 3), (18, .ifCond .ne 5, 3), (21, .iconst 0, 1), (22, .ireturn, 1), (23, .iconst 0, 1), (24, .istore_n 2, 1), (25, .iload_n 2, 1), (26, .bipush 108, 2), (28, .if_icmp .ge 26, 3), (31, .aload_n 0, 1), (32, .getfield 19, 3), (35, .bipush 108, 2), (37, .iload_n 1, 1), (38, .imul, 1), (39, .iload_n 2, 1), (40, .iadd, 1), (41, .aload_n 0, 1), (42, .getfield 7, 3), (45, .iload_n 2, 1), (46, .iaload, 1), (47, .iastore, 1), (48, .iinc 2 1, 3), (51, .goto (-26), 3), (54, .aload_n 0, 1), (55, .dup, 1), (56, .getfield 201, 3), (59, .iconst 1, 1), (60, .iload_n 1, 1), (61, .ishl, 1), (62, .ior, 1), (63, .putfield 201, 3), (66, .aload_n 0, 1), (67, .getfield 7, 3), (70, .bipush 92, 2), (72, .iaload, 1), (73, .ireturn, 1)]
set_option maxRecDepth 100000 in
theorem d_Mo_save : decA cX11_save I_Mo_save = true := by decide +kernel
abbrev rm_Mo_save : Room := ({ frames := 1, cells := 0, slots := 0, locals := 22 } : Room)
def m_Mo_save_l25 (u : Nat) (p0 : Int32) : (Int32 × KMem) → Option ((Int32 × KMem) ⊕ KMem) := fun (v2_9, M10) =>
 if 108 ≤ v2_9 then
 (some (.inr M10))
 else
 (Option.bind (rdI M10 (u + 1) 108 v2_9) fun x13 =>
 Option.bind (wrI M10 (u + 4) 216 ((108 * p0) + v2_9) x13) fun M15 =>
 some (.inl (v2_9 + 1, M15)))
def m_Mo_save (u : Nat) (p0 : Int32) (M : KMem) : Option (Int32 × KMem) :=
 Option.bind (m_Mo_in p0 0 1) fun x2 =>
 Option.bind (α := Int32) (if x2 = 0 then
 (some 1)
 else
 (some 0)) fun t3 =>
 Option.bind (m_Mo_holds u t3 M) fun (x6, M7) =>
 if x6 = 0 then
 (some (0, M7))
 else
 (Option.bind (α := KMem) (kLp (m_Mo_save_l25 u p0) kFU (0, M7)) fun M16 =>
 Option.bind (some (kup M16 u 6 ((M16 u 6) ||| (jshl 1 p0)))) fun M18 =>
 Option.bind (rdI M18 (u + 1) 108 92) fun x20 =>
 some (x20, M18))
set_option maxHeartbeats 4000000 in
set_option maxRecDepth 100000 in
theorem b_Mo_save {X : KX} {B : KB} {L : KLay} {M : KMem} {u : Nat} {p0 : Int32} (G : Good X B RX11 cX11_save 3 rm_Mo_save) (hu : okL L u moT) (h : kOk (m_Mo_save u p0 M) (fun r => RI X B L 3 cX11_save .int rm_Mo_save r.1 r.2)) : KK X B L 3 0 0 M 0 [(0, .ref (B.1 + u)), (1, .int p0)] [] := by
  unfold m_Mo_save at h
  refine k_aload_n G (dc d_Mo_save 0 rfl) 0 rfl rfl ?_
  refine k_iload_n G (dc d_Mo_save 1 rfl) 1 rfl rfl ?_
  refine k_iconst G (dc d_Mo_save 2 rfl) cI_0 ?_
  refine k_iconst G (dc d_Mo_save 3 rfl) cI_1 ?_
  obtain ⟨x2, e1, h⟩ := kOk_b h
  refine k_cSI G (dc d_Mo_save 4 rfl) mi_Mo_in ms_Mo_in ml_RX11_41 (c_Mo_in (gst G)  e1) rfl rfl ⟨rfl, rfl⟩ rfl ⟨rfl, rfl⟩ ⟨rfl, rfl⟩ ?_
  refine kJ h (fun r4 => KK X B L 3 0 0 M 15 [(0, .ref (B.1 + u)), (1, .int p0)] [.int r4, .ref (B.1 + u)]) (fun r4 h => ?_) (fun h => ?_)
  · obtain ⟨t3, rfl⟩ : ∃ z, z = r4 := ⟨_, rfl⟩
    show KK X B L 3 0 0 M 15 [(0, .ref (B.1 + u)), (1, .int p0)] [.int t3, .ref (B.1 + u)]
    obtain ⟨⟨x6, M7⟩, e5, h⟩ := kOk_b h
    refine k_cVI G (dc d_Mo_save 9 rfl) kc8 (okL_lt hu (o := 0) 0 rfl) (okL_k hu (o := 0) 0 rfl) mi_Mo_holds mv_Mo_holds rfl ml_RX11_164 (c_Mo_holds (gst G) hu e5) rfl rfl ⟨rfl, rfl⟩ rfl ⟨rfl, rfl⟩ ⟨rfl, rfl⟩ ?_
    refine k_if_ne G (dc d_Mo_save 10 rfl) (tgt := 23) rfl (fun c8 => ?_) (fun c8 => ?_)
    · replace h := kOk_n c8 h
      refine k_iconst G (dc d_Mo_save 13 rfl) cI_0 ?_
      refine k_istore_n G (dc d_Mo_save 14 rfl) (ls' := [(2, .int 0), (0, .ref (B.1 + u)), (1, .int p0)]) rfl rfl rfl ?_
      refine kJ h (fun r21 => KK X B L 3 0 0 r21 54 [(0, .ref (B.1 + u)), (1, .int p0)] []) (fun r21 h => ?_) (fun h => ?_)
      · obtain ⟨M16, rfl⟩ : ∃ z, z = r21 := ⟨_, rfl⟩
        show KK X B L 3 0 0 M16 54 [(0, .ref (B.1 + u)), (1, .int p0)] []
        refine k_aload_n G (dc d_Mo_save 32 rfl) 0 rfl rfl ?_
        refine k_dup G (dc d_Mo_save 33 rfl) rfl ?_
        refine k_getI G kc8 (dc d_Mo_save 34 rfl) (okL_lt hu (o := 0) 0 rfl) (okL_k hu (o := 0) 0 rfl) 6 (by decide) rfl fl_RX11_201 ?_
        refine k_iconst G (dc d_Mo_save 35 rfl) cI_1 ?_
        refine k_iload_n G (dc d_Mo_save 36 rfl) 1 rfl rfl ?_
        refine k_ishl G (dc d_Mo_save 37 rfl) ?_
        refine k_ior G (dc d_Mo_save 38 rfl) ?_
        obtain ⟨M18, e17, h⟩ := kOk_b h
        refine k_putI G kc8 (dc d_Mo_save 39 rfl) (okL_lt hu (o := 0) 0 rfl) (okL_k hu (o := 0) 0 rfl) 6 (by decide) rfl rfl fl_RX11_201 rfl rfl e17 ?_
        refine k_aload_n G (dc d_Mo_save 40 rfl) 0 rfl rfl ?_
        refine k_getR G kc8 (dc d_Mo_save 41 rfl) (okL_lt hu (o := 0) 0 rfl) (okL_k hu (o := 0) 0 rfl) 1 (by decide) rfl fl_RX11_7 (u + 1) (okL_r hu (o := 0) (c := 1) 0 rfl 0 rfl) ?_
        refine k_bipush G (dc d_Mo_save 42 rfl) cB_92 ?_
        obtain ⟨x20, e19, h⟩ := kOk_b h
        refine k_ild G (dc d_Mo_save 43 rfl) (okL_lt hu (o := 1) 1 rfl) (okL_k hu (o := 1) 1 rfl) (okL_n hu (o := 1) 1 rfl) e19 ?_
        exact (kOk_s h) _ _ _ _ rfl rfl rfl (dc d_Mo_save 44 rfl)
      · refine k_sub [1, 2, 0] rfl ?_
        refine kLp_ok (P := fun s22 => KK X B L 3 0 0 s22.2 25 [(0, .ref (B.1 + u)), (1, .int p0), (2, .int s22.1)] []) (fun s22 h => ?_) kFU _ h
        obtain ⟨v2_9, M10⟩ := s22
        unfold m_Mo_save_l25 at h
        show KK X B L 3 0 0 M10 25 [(0, .ref (B.1 + u)), (1, .int p0), (2, .int v2_9)] []
        refine k_iload_n G (dc d_Mo_save 15 rfl) 2 rfl rfl ?_
        refine k_bipush G (dc d_Mo_save 16 rfl) cB_108 ?_
        refine k_icmp_ge G (dc d_Mo_save 17 rfl) (tgt := 54) rfl (fun c11 => ?_) (fun c11 => ?_)
        · replace h := kOk_p c11 h
          refine k_sub [0, 1] rfl ?_
          have h9 := kOk_s h
          exact h9
        · replace h := kOk_n c11 h
          refine k_aload_n G (dc d_Mo_save 18 rfl) 0 rfl rfl ?_
          refine k_getR G kc8 (dc d_Mo_save 19 rfl) (okL_lt hu (o := 0) 0 rfl) (okL_k hu (o := 0) 0 rfl) 5 (by decide) rfl fl_RX11_19 (u + 4) (okL_r hu (o := 0) (c := 4) 0 rfl 3 rfl) ?_
          refine k_bipush G (dc d_Mo_save 20 rfl) cB_108 ?_
          refine k_iload_n G (dc d_Mo_save 21 rfl) 1 rfl rfl ?_
          refine k_imul G (dc d_Mo_save 22 rfl) ?_
          refine k_iload_n G (dc d_Mo_save 23 rfl) 2 rfl rfl ?_
          refine k_iadd G (dc d_Mo_save 24 rfl) ?_
          refine k_aload_n G (dc d_Mo_save 25 rfl) 0 rfl rfl ?_
          refine k_getR G kc8 (dc d_Mo_save 26 rfl) (okL_lt hu (o := 0) 0 rfl) (okL_k hu (o := 0) 0 rfl) 1 (by decide) rfl fl_RX11_7 (u + 1) (okL_r hu (o := 0) (c := 1) 0 rfl 0 rfl) ?_
          refine k_iload_n G (dc d_Mo_save 27 rfl) 2 rfl rfl ?_
          obtain ⟨x13, e12, h⟩ := kOk_b h
          refine k_ild G (dc d_Mo_save 28 rfl) (okL_lt hu (o := 1) 1 rfl) (okL_k hu (o := 1) 1 rfl) (okL_n hu (o := 1) 1 rfl) e12 ?_
          obtain ⟨M15, e14, h⟩ := kOk_b h
          refine k_ist G (dc d_Mo_save 29 rfl) (okL_lt hu (o := 4) 4 rfl) (okL_k hu (o := 4) 4 rfl) (okL_n hu (o := 4) 4 rfl) e14 ?_
          refine k_iinc G (dc d_Mo_save 30 rfl) (ls' := [(2, .int (v2_9 + 1)), (0, .ref (B.1 + u)), (1, .int p0)]) 2 rfl cI_1 rfl rfl ?_
          refine k_goto G (dc d_Mo_save 31 rfl) (tgt := 25) rfl ?_
          refine k_sub [1, 2, 0] rfl ?_
          have h9 := kOk_s h
          exact h9
    · replace h := kOk_p c8 h
      refine k_iconst G (dc d_Mo_save 11 rfl) cI_0 ?_
      exact (kOk_s h) _ _ _ _ rfl rfl rfl (dc d_Mo_save 12 rfl)
  · refine k_if_eq G (dc d_Mo_save 5 rfl) (tgt := 14) rfl (fun c23 => ?_) (fun c23 => ?_)
    · replace h := kOk_p c23 h
      refine k_iconst G (dc d_Mo_save 8 rfl) cI_1 ?_
      have h9 := kOk_s h
      exact h9
    · replace h := kOk_n c23 h
      refine k_iconst G (dc d_Mo_save 6 rfl) cI_0 ?_
      refine k_goto G (dc d_Mo_save 7 rfl) (tgt := 15) rfl ?_
      have h9 := kOk_s h
      exact h9
theorem c_Mo_save {l : Launch} {B : KB} {L : KLay} {M : KMem} {u : Nat} {p0 : Int32} (hst : l.stackTraces = false) (hu : okL L u moT) {r : Int32} {M' : KMem} (e : m_Mo_save u p0 M = some (r, M')) : CtrN l B yX11_save cX11_save 3 (some .int) rm_Mo_save [.ref (B.1 + u), .int p0] L M (some (.int r)) L M' :=
  mk_I rfl hst rfl (fun X hl G _ R => b_Mo_save G hu ⟨_, e, R⟩)
def I_Mo_restore : List (Nat × Instr × Nat) := [(0, .aload_n 0, 1), (1, .iload_n 1, 1), (2, .iconst 0, 1), (3, .iconst 1, 1), (4, .invokestatic 41, 3), (7, .ifCond .ne 7, 3), (10, .iconst 1, 1), (11, .goto 19, 3), (14, .aload_n 0, 1), (15, .getfield 201, 3), (18, .iload_n 1, 1), (19, .ishr, 1), (20, .iconst 1, 1), (21, .iand, 1), (22, .ifCond .ne 7, 3), (25, .iconst 2, 1), (26, .goto 4, 3), (29, .iconst 0, 1), (30, .invokevirtual 164, 3), (33, .ifCond .ne 5, 3), (36, .iconst 0, 1), (37, .ireturn, 1), (38, .iconst 0, 1), (39, .istore_n 2, 1), (40, .iload_n 2, 1), (41, .bipush 108, 2), (43, .if_icmp .ge 26, 3), (46, .aload_n 0, 1), (47, .getfield 7, 3), (50, .iload_n 2, 1), (51, .aload_n 0, 1), (52, .getfield 19, 3), (55, .bipush 108, 2), (57, .iload_n 1, 1), (58, .imul, 1), (59, .iload_n 2, 1), (60, .iadd, 1), (61, .iaload, 1), (62, .iastore, 1), (63, .iinc 2 1, 3), (66, .goto (-26), 3), (69, .aload_n 0, 1), (70, .iconst 0, 1), (71, .putfield 50, 3), (74, .aload_n 0, 1), (75, .getfield 7, 3), (78, .bipush 92, 2), (80, .iaload, 1), (81, .ireturn, 1)]
set_option maxRecDepth 100000 in
theorem d_Mo_restore : decA cX11_restore I_Mo_restore = true := by decide +kernel
abbrev rm_Mo_restore : Room := ({ frames := 1, cells := 0, slots := 0, locals := 22 } : Room)
def m_Mo_restore_l40 (u : Nat) (p0 : Int32) : (Int32 × KMem) → Option ((Int32 × KMem) ⊕ KMem) := fun (v2_9, M10) =>
 if 108 ≤ v2_9 then
 (some (.inr M10))
 else
 (Option.bind (rdI M10 (u + 4) 216 ((108 * p0) + v2_9)) fun x13 =>
 Option.bind (wrI M10 (u + 1) 108 v2_9 x13) fun M15 =>
 some (.inl (v2_9 + 1, M15)))
def m_Mo_restore (u : Nat) (p0 : Int32) (M : KMem) : Option (Int32 × KMem) :=
 Option.bind (m_Mo_in p0 0 1) fun x2 =>
 Option.bind (α := Int32) (if x2 = 0 then
 (some 1)
 else
 (if ((jshr (M u 6) p0) &&& 1) = 0 then
 (some 2)
 else
 (some 0))) fun t3 =>
 Option.bind (m_Mo_holds u t3 M) fun (x6, M7) =>
 if x6 = 0 then
 (some (0, M7))
 else
 (Option.bind (α := KMem) (kLp (m_Mo_restore_l40 u p0) kFU (0, M7)) fun M16 =>
 Option.bind (some (kup M16 u 4 0)) fun M18 =>
 Option.bind (rdI M18 (u + 1) 108 92) fun x20 =>
 some (x20, M18))
set_option maxHeartbeats 4000000 in
set_option maxRecDepth 100000 in
theorem b_Mo_restore {X : KX} {B : KB} {L : KLay} {M : KMem} {u : Nat} {p0 : Int32} (G : Good X B RX11 cX11_restore 3 rm_Mo_restore) (hu : okL L u moT) (h : kOk (m_Mo_restore u p0 M) (fun r => RI X B L 3 cX11_restore .int rm_Mo_restore r.1 r.2)) : KK X B L 3 0 0 M 0 [(0, .ref (B.1 + u)), (1, .int p0)] [] := by
  unfold m_Mo_restore at h
  refine k_aload_n G (dc d_Mo_restore 0 rfl) 0 rfl rfl ?_
  refine k_iload_n G (dc d_Mo_restore 1 rfl) 1 rfl rfl ?_
  refine k_iconst G (dc d_Mo_restore 2 rfl) cI_0 ?_
  refine k_iconst G (dc d_Mo_restore 3 rfl) cI_1 ?_
  obtain ⟨x2, e1, h⟩ := kOk_b h
  refine k_cSI G (dc d_Mo_restore 4 rfl) mi_Mo_in ms_Mo_in ml_RX11_41 (c_Mo_in (gst G)  e1) rfl rfl ⟨rfl, rfl⟩ rfl ⟨rfl, rfl⟩ ⟨rfl, rfl⟩ ?_
  refine kJ h (fun r4 => KK X B L 3 0 0 M 30 [(0, .ref (B.1 + u)), (1, .int p0)] [.int r4, .ref (B.1 + u)]) (fun r4 h => ?_) (fun h => ?_)
  · obtain ⟨t3, rfl⟩ : ∃ z, z = r4 := ⟨_, rfl⟩
    show KK X B L 3 0 0 M 30 [(0, .ref (B.1 + u)), (1, .int p0)] [.int t3, .ref (B.1 + u)]
    obtain ⟨⟨x6, M7⟩, e5, h⟩ := kOk_b h
    refine k_cVI G (dc d_Mo_restore 18 rfl) kc8 (okL_lt hu (o := 0) 0 rfl) (okL_k hu (o := 0) 0 rfl) mi_Mo_holds mv_Mo_holds rfl ml_RX11_164 (c_Mo_holds (gst G) hu e5) rfl rfl ⟨rfl, rfl⟩ rfl ⟨rfl, rfl⟩ ⟨rfl, rfl⟩ ?_
    refine k_if_ne G (dc d_Mo_restore 19 rfl) (tgt := 38) rfl (fun c8 => ?_) (fun c8 => ?_)
    · replace h := kOk_n c8 h
      refine k_iconst G (dc d_Mo_restore 22 rfl) cI_0 ?_
      refine k_istore_n G (dc d_Mo_restore 23 rfl) (ls' := [(2, .int 0), (0, .ref (B.1 + u)), (1, .int p0)]) rfl rfl rfl ?_
      refine kJ h (fun r21 => KK X B L 3 0 0 r21 69 [(0, .ref (B.1 + u))] []) (fun r21 h => ?_) (fun h => ?_)
      · obtain ⟨M16, rfl⟩ : ∃ z, z = r21 := ⟨_, rfl⟩
        show KK X B L 3 0 0 M16 69 [(0, .ref (B.1 + u))] []
        refine k_aload_n G (dc d_Mo_restore 41 rfl) 0 rfl rfl ?_
        refine k_iconst G (dc d_Mo_restore 42 rfl) cI_0 ?_
        obtain ⟨M18, e17, h⟩ := kOk_b h
        refine k_putI G kc8 (dc d_Mo_restore 43 rfl) (okL_lt hu (o := 0) 0 rfl) (okL_k hu (o := 0) 0 rfl) 4 (by decide) rfl rfl fl_RX11_50 rfl rfl e17 ?_
        refine k_aload_n G (dc d_Mo_restore 44 rfl) 0 rfl rfl ?_
        refine k_getR G kc8 (dc d_Mo_restore 45 rfl) (okL_lt hu (o := 0) 0 rfl) (okL_k hu (o := 0) 0 rfl) 1 (by decide) rfl fl_RX11_7 (u + 1) (okL_r hu (o := 0) (c := 1) 0 rfl 0 rfl) ?_
        refine k_bipush G (dc d_Mo_restore 46 rfl) cB_92 ?_
        obtain ⟨x20, e19, h⟩ := kOk_b h
        refine k_ild G (dc d_Mo_restore 47 rfl) (okL_lt hu (o := 1) 1 rfl) (okL_k hu (o := 1) 1 rfl) (okL_n hu (o := 1) 1 rfl) e19 ?_
        exact (kOk_s h) _ _ _ _ rfl rfl rfl (dc d_Mo_restore 48 rfl)
      · refine k_sub [1, 2, 0] rfl ?_
        refine kLp_ok (P := fun s22 => KK X B L 3 0 0 s22.2 40 [(0, .ref (B.1 + u)), (1, .int p0), (2, .int s22.1)] []) (fun s22 h => ?_) kFU _ h
        obtain ⟨v2_9, M10⟩ := s22
        unfold m_Mo_restore_l40 at h
        show KK X B L 3 0 0 M10 40 [(0, .ref (B.1 + u)), (1, .int p0), (2, .int v2_9)] []
        refine k_iload_n G (dc d_Mo_restore 24 rfl) 2 rfl rfl ?_
        refine k_bipush G (dc d_Mo_restore 25 rfl) cB_108 ?_
        refine k_icmp_ge G (dc d_Mo_restore 26 rfl) (tgt := 69) rfl (fun c11 => ?_) (fun c11 => ?_)
        · replace h := kOk_p c11 h
          refine k_sub [0] rfl ?_
          have h9 := kOk_s h
          exact h9
        · replace h := kOk_n c11 h
          refine k_aload_n G (dc d_Mo_restore 27 rfl) 0 rfl rfl ?_
          refine k_getR G kc8 (dc d_Mo_restore 28 rfl) (okL_lt hu (o := 0) 0 rfl) (okL_k hu (o := 0) 0 rfl) 1 (by decide) rfl fl_RX11_7 (u + 1) (okL_r hu (o := 0) (c := 1) 0 rfl 0 rfl) ?_
          refine k_iload_n G (dc d_Mo_restore 29 rfl) 2 rfl rfl ?_
          refine k_aload_n G (dc d_Mo_restore 30 rfl) 0 rfl rfl ?_
          refine k_getR G kc8 (dc d_Mo_restore 31 rfl) (okL_lt hu (o := 0) 0 rfl) (okL_k hu (o := 0) 0 rfl) 5 (by decide) rfl fl_RX11_19 (u + 4) (okL_r hu (o := 0) (c := 4) 0 rfl 3 rfl) ?_
          refine k_bipush G (dc d_Mo_restore 32 rfl) cB_108 ?_
          refine k_iload_n G (dc d_Mo_restore 33 rfl) 1 rfl rfl ?_
          refine k_imul G (dc d_Mo_restore 34 rfl) ?_
          refine k_iload_n G (dc d_Mo_restore 35 rfl) 2 rfl rfl ?_
          refine k_iadd G (dc d_Mo_restore 36 rfl) ?_
          obtain ⟨x13, e12, h⟩ := kOk_b h
          refine k_ild G (dc d_Mo_restore 37 rfl) (okL_lt hu (o := 4) 4 rfl) (okL_k hu (o := 4) 4 rfl) (okL_n hu (o := 4) 4 rfl) e12 ?_
          obtain ⟨M15, e14, h⟩ := kOk_b h
          refine k_ist G (dc d_Mo_restore 38 rfl) (okL_lt hu (o := 1) 1 rfl) (okL_k hu (o := 1) 1 rfl) (okL_n hu (o := 1) 1 rfl) e14 ?_
          refine k_iinc G (dc d_Mo_restore 39 rfl) (ls' := [(2, .int (v2_9 + 1)), (0, .ref (B.1 + u)), (1, .int p0)]) 2 rfl cI_1 rfl rfl ?_
          refine k_goto G (dc d_Mo_restore 40 rfl) (tgt := 40) rfl ?_
          refine k_sub [1, 2, 0] rfl ?_
          have h9 := kOk_s h
          exact h9
    · replace h := kOk_p c8 h
      refine k_iconst G (dc d_Mo_restore 20 rfl) cI_0 ?_
      exact (kOk_s h) _ _ _ _ rfl rfl rfl (dc d_Mo_restore 21 rfl)
  · refine k_if_ne G (dc d_Mo_restore 5 rfl) (tgt := 14) rfl (fun c23 => ?_) (fun c23 => ?_)
    · replace h := kOk_n c23 h
      refine k_aload_n G (dc d_Mo_restore 8 rfl) 0 rfl rfl ?_
      refine k_getI G kc8 (dc d_Mo_restore 9 rfl) (okL_lt hu (o := 0) 0 rfl) (okL_k hu (o := 0) 0 rfl) 6 (by decide) rfl fl_RX11_201 ?_
      refine k_iload_n G (dc d_Mo_restore 10 rfl) 1 rfl rfl ?_
      refine k_ishr G (dc d_Mo_restore 11 rfl) ?_
      refine k_iconst G (dc d_Mo_restore 12 rfl) cI_1 ?_
      refine k_iand G (dc d_Mo_restore 13 rfl) ?_
      refine k_if_ne G (dc d_Mo_restore 14 rfl) (tgt := 29) rfl (fun c24 => ?_) (fun c24 => ?_)
      · replace h := kOk_n c24 h
        refine k_iconst G (dc d_Mo_restore 17 rfl) cI_0 ?_
        have h9 := kOk_s h
        exact h9
      · replace h := kOk_p c24 h
        refine k_iconst G (dc d_Mo_restore 15 rfl) cI_2 ?_
        refine k_goto G (dc d_Mo_restore 16 rfl) (tgt := 30) rfl ?_
        have h9 := kOk_s h
        exact h9
    · replace h := kOk_p c23 h
      refine k_iconst G (dc d_Mo_restore 6 rfl) cI_1 ?_
      refine k_goto G (dc d_Mo_restore 7 rfl) (tgt := 30) rfl ?_
      have h9 := kOk_s h
      exact h9
theorem c_Mo_restore {l : Launch} {B : KB} {L : KLay} {M : KMem} {u : Nat} {p0 : Int32} (hst : l.stackTraces = false) (hu : okL L u moT) {r : Int32} {M' : KMem} (e : m_Mo_restore u p0 M = some (r, M')) : CtrN l B yX11_restore cX11_restore 3 (some .int) rm_Mo_restore [.ref (B.1 + u), .int p0] L M (some (.int r)) L M' :=
  mk_I rfl hst rfl (fun X hl G _ R => b_Mo_restore G hu ⟨_, e, R⟩)
