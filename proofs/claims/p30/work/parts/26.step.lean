/-! laid by wip/p30/g30law.py: THE LAW: its rows, one turn of its loop -/
theorem blC {cn k r : Nat} (h : cn + 100 ≤ 600104) (hk : Nat.ble (k + r) 100 = true) : Nat.ble (cn + k + r) room_1.cells = true := Nat.ble_eq_true_of_le (by have := Nat.le_of_ble_eq_true hk; show cn + k + r ≤ 600104; omega)
theorem blS {sn k r : Nat} (h : sn + 1000 ≤ 7301314) (hk : Nat.ble (k + r) 1000 = true) : Nat.ble (sn + k + r) room_1.slots = true := Nat.ble_eq_true_of_le (by have := Nat.le_of_ble_eq_true hk; show sn + k + r ≤ 7301314; omega)
theorem k_wideL {X : KX} {B : KB} {L : KLay} {nL cn sn a b a' b' : Nat} {M : KMem} {pc : Nat} {ls : List (Nat × Value)} {st : List Value} (h1 : Nat.ble a a' = true) (h2 : Nat.ble b b' = true) (kk : KK X B L nL (cn + a') (sn + b') M pc ls st) : KK X B L nL (cn + a) (sn + b) M pc ls st :=
  k_wide (Nat.add_le_add_left (Nat.le_of_ble_eq_true h1) _) (Nat.add_le_add_left (Nat.le_of_ble_eq_true h2) _) kk
/-- the law's frame, its script -/
def LG (X : KX) (B : KB) (L : KLay) (b Ln : Nat) (xs : Nat → Int32) : Prop := Good X B RL code 9 room_1 ∧ B.2.2.2 = false ∧ (okL L 0 srT ∧ okL L 235 srT ∧ arL L 470 9 1) ∧ va_X b Ln xs (xS X) (xS X).heap ∧ b < (xS X).heap.size ∧ b < B.1

def I_La_law : List (Nat × Instr × Nat) := [(0, .new 9, 3), (3, .dup, 1), (4, .invokespecial 100, 3), (7, .astore_n 1, 1), (8, .new 9, 3), (11, .dup, 1), (12, .invokespecial 100, 3), (15, .astore_n 2, 1), (16, .iconst 1, 1), (17, .newarray .int, 2), (19, .astore_n 3, 1), (20, .iconst 0, 1), (21, .istore 4, 2), (23, .iload 4, 2), (25, .bipush 48, 2), (27, .if_icmp .ge 257, 3), (30, .iload 4, 2), (32, .iconst 3, 1), (33, .if_icmp .ge 15, 3), (36, .aload_n 0, 1), (37, .iload 4, 2), (39, .invokestatic 101, 3), (42, .bipush (-32), 2), (44, .iand, 1), (45, .goto 9, 3), (48, .aload_n 0, 1), (49, .iload 4, 2), (51, .invokestatic 101, 3), (54, .istore 5, 2), (56, .aload_n 1, 1), (57, .iload 5, 2), (59, .aload_n 3, 1), (60, .invokestatic 105, 3), (63, .istore 6, 2), (65, .aload_n 3, 1), (66, .iconst 0, 1), (67, .iaload, 1), (68, .istore 7, 2), (70, .iload 6, 2), (72, .ifCond .eq 13, 3), (75, .aload_n 1, 1), (76, .aload_n 2, 1), (77, .invokestatic 109, 3), (80, .ifCond .ne 5, 3), (83, .iconst 0, 1), (84, .ireturn, 1), (85, .iload 6, 2), (87, .ifCond .ne 61, 3), (90, .iload 5, 2), (92, .bipush 9, 2), (94, .ishr, 1), (95, .iconst 1, 1), (96, .iand, 1), (97, .ifCond .ne 51, 3), (100, .aload_n 1, 1), (101, .aload_n 3, 1), (102, .invokestatic 93, 3), (105, .istore 8, 2), (107, .iload 8, 2), (109, .ifCond .ne 37, 3), (112, .aload_n 3, 1), (113, .iconst 0, 1), (114, .iaload, 1), (115, .bipush 13, 2), (117, .if_icmp .gt 29, 3), (120, .aload_n 1, 1), (121, .aload_n 2, 1), (122, .invokestatic 109, 3), (125, .ifCond .eq 21, 3), (128, .aload_n 1, 1), (129, .iload 5, 2), (131, .aload_n 3, 1), (132, .invokestatic 105, 3), (135, .ifCond .ne 11, 3), (138, .aload_n 3, 1), (139, .iconst 0, 1), (140, .iaload, 1), (141, .iload 7, 2), (143, .if_icmp .eq 5, 3), (146, .iconst 0, 1), (147, .ireturn, 1), (148, .aload_n 2, 1), (149, .iload 5, 2), (151, .aload_n 3, 1), (152, .invokestatic 105, 3), (155, .iload 6, 2), (157, .if_icmp .ne 24, 3), (160, .iload 6, 2), (162, .ifCond .ne 11, 3), (165, .aload_n 3, 1), (166, .iconst 0, 1), (167, .iaload, 1), (168, .iload 7, 2), (170, .if_icmp .ne 11, 3), (173, .aload_n 1, 1), (174, .aload_n 2, 1), (175, .invokestatic 109, 3), (178, .ifCond .ne 5, 3), (181, .iconst 0, 1), (182, .ireturn, 1), (183, .iload 4, 2), (185, .iconst 3, 1), (186, .irem, 1), (187, .iconst 2, 1), (188, .if_icmp .ne 33, 3), (191, .aload_n 1, 1), (192, .invokestatic 113, 3), (195, .ifCond .eq 24, 3), (198, .aload_n 1, 1), (199, .iload 5, 2), (201, .iconst 5, 1), (202, .ishr, 1), (203, .iconst 3, 1), (204, .invokestatic 44, 3), (207, .iload 5, 2), (209, .bipush 7, 2), (211, .ishr, 1), (212, .aload_n 3, 1), (213, .invokestatic 117, 3), (216, .ifCond .ne 5, 3), (219, .iconst 0, 1), (220, .ireturn, 1), (221, .iload 4, 2), (223, .iconst 3, 1), (224, .irem, 1), (225, .iconst 2, 1), (226, .if_icmp .ne 52, 3), (229, .aload_n 1, 1), (230, .iconst 0, 1), (231, .invokevirtual 60, 3), (234, .ifCond .le 44, 3), (237, .aload_n 1, 1), (238, .iload 5, 2), (240, .bipush 6, 2), (242, .ishr, 1), (243, .aload_n 1, 1), (244, .iconst 0, 1), (245, .invokevirtual 60, 3), (248, .invokestatic 44, 3), (251, .iload 5, 2), (253, .bipush 8, 2), (255, .ishr, 1), (256, .sipush 200, 3), (259, .invokestatic 44, 3), (262, .invokestatic 121, 3), (265, .ifCond .eq 11, 3), (268, .aload_n 1, 1), (269, .aload_n 2, 1), (270, .invokestatic 109, 3), (273, .ifCond .ne 5, 3), (276, .iconst 0, 1), (277, .ireturn, 1), (278, .iinc 4 1, 3), (281, .goto (-258), 3), (284, .aload_n 1, 1), (285, .invokestatic 113, 3), (288, .ireturn, 1)]
set_option maxRecDepth 100000 in
theorem d_La_law : decA code I_La_law = true := by decide +kernel
def m_La_step (i : Int32) (v : Int32) (M : KMem) : Option KMem :=
 Option.bind (m_La_act 0 v 470 1 M) fun (x2, M3) =>
 Option.bind (rdI M3 470 1 0) fun x5 =>
 Option.bind (α := KMem) (if x2 = 0 then
 (some M3)
 else
 (Option.bind (m_La_areAlike 0 235 M3) fun (x86, M87) =>
 if x86 = 0 then
 (none)
 else
 (some M87))) fun M6 =>
 Option.bind (α := KMem) (if x2 = 0 then
 (if ((jshr v 9) &&& 1) = 0 then
 (Option.bind (m_La_undoes 0 470 1 M6) fun (x63, M64) =>
 Option.bind (α := Unit) (if x63 = 0 then
 (some ())
 else
 (none)) fun _ =>
 Option.bind (rdI M64 470 1 0) fun x67 =>
 Option.bind (α := Unit) (if 13 < x67 then
 (none)
 else
 (some ())) fun _ =>
 Option.bind (m_La_areAlike 0 235 M64) fun (x70, M71) =>
 Option.bind (α := Unit) (if x70 = 0 then
 (none)
 else
 (some ())) fun _ =>
 Option.bind (m_La_act 0 v 470 1 M71) fun (x74, M75) =>
 Option.bind (α := Unit) (if x74 = 0 then
 (some ())
 else
 (none)) fun _ =>
 Option.bind (rdI M75 470 1 0) fun x78 =>
 if x78 = x5 then
 (some M75)
 else
 (none))
 else
 (some M6))
 else
 (some M6)) fun M8 =>
 Option.bind (m_La_act 235 v 470 1 M8) fun (x11, M12) =>
 Option.bind (α := Unit) (if x11 = x2 then
 (some ())
 else
 (none)) fun _ =>
 Option.bind (α := Unit) (if x2 = 0 then
 (Option.bind (rdI M12 470 1 0) fun x57 =>
 if x57 = x5 then
 (some ())
 else
 (none))
 else
 (some ())) fun _ =>
 Option.bind (m_La_areAlike 0 235 M12) fun (x16, M17) =>
 Option.bind (α := Unit) (if x16 = 0 then
 (none)
 else
 (some ())) fun _ =>
 Option.bind (α := KMem) (if (jrem i 3) = 2 then
 (Option.bind (m_La_areSums 0 M17) fun (x44, M45) =>
 Option.bind (α := Unit) (if x44 = 0 then
 (none)
 else
 (some ())) fun _ =>
 Option.bind (m_La_low (jshr v 5) 3) fun x48 =>
 Option.bind (m_La_isWhySo 0 x48 (jshr v 7) 470 1 M45) fun (x50, M51) =>
 if x50 = 0 then
 (none)
 else
 (some M51))
 else
 (some M17)) fun M19 =>
 if (jrem i 3) = 2 then
 (Option.bind (m_Sn_about 0 0 M19) fun (x23, M24) =>
 if x23 ≤ 0 then
 (some M24)
 else
 (Option.bind (m_Sn_about 0 0 M24) fun (x27, M28) =>
 Option.bind (m_La_low (jshr v 6) x27) fun x30 =>
 Option.bind (m_La_low (jshr v 8) 200) fun x32 =>
 Option.bind (m_La_isWorthSo 0 x30 x32 M28) fun (x34, M35) =>
 Option.bind (α := Unit) (if x34 = 0 then
 (none)
 else
 (some ())) fun _ =>
 Option.bind (m_La_areAlike 0 235 M35) fun (x38, M39) =>
 if x38 = 0 then
 (none)
 else
 (some M39)))
 else
 (some M19)
set_option maxHeartbeats 4000000 in
set_option maxRecDepth 100000 in
theorem b_La_step {X : KX} {B : KB} {L : KLay} {b Ln : Nat} {xs : Nat → Int32} {cn sn : Nat} {i v : Int32} {M : KMem} (H : LG X B L b Ln xs) (hc : cn + 100 ≤ 600104) (hs : sn + 1000 ≤ 7301314) (h : kOk (m_La_step i v M) (fun M' => KK X B L 9 (cn + 10) (sn + 60) M' 278 [(0, .ref b), (1, .ref (B.1 + 0)), (2, .ref (B.1 + 235)), (3, .ref (B.1 + 470)), (4, .int i)] [])) : KK X B L 9 (cn + 0) (sn + 0) M 54 [(0, .ref b), (1, .ref (B.1 + 0)), (2, .ref (B.1 + 235)), (3, .ref (B.1 + 470)), (4, .int i)] [.int v] := by
  obtain ⟨G, hx, ⟨hu, hv, ho⟩, -⟩ := id H
  unfold m_La_step at h
  refine k_istore G (dc d_La_law 28 rfl) (ls' := [(5, .int v), (0, .ref b), (1, .ref (B.1 + 0)), (2, .ref (B.1 + 235)), (3, .ref (B.1 + 470)), (4, .int i)]) rfl rfl ?_
  refine k_aload_n G (dc d_La_law 29 rfl) 2 rfl rfl ?_
  refine k_iload G (dc d_La_law 30 rfl) 0 rfl ?_
  refine k_aload_n G (dc d_La_law 31 rfl) 4 rfl rfl ?_
  obtain ⟨⟨x2, M3⟩, e1, h⟩ := kOk_b h
  refine k_callS G (dc d_La_law 32 rfl) mi_La_act ms_La_act ml_RL_105 (c_La_act (gst G) hx hu ho e1) rfl rfl ⟨rfl, rfl⟩ rfl ⟨blC hc rfl, blS hs rfl⟩ ?_
  show KK X B L 9 (cn + 2) (sn + 12) M3 63 [(5, .int v), (0, .ref b), (1, .ref (B.1 + 0)), (2, .ref (B.1 + 235)), (3, .ref (B.1 + 470)), (4, .int i)] [.int x2]
  refine k_istore G (dc d_La_law 33 rfl) (ls' := [(6, .int x2), (5, .int v), (0, .ref b), (1, .ref (B.1 + 0)), (2, .ref (B.1 + 235)), (3, .ref (B.1 + 470)), (4, .int i)]) rfl rfl ?_
  refine k_aload_n G (dc d_La_law 34 rfl) 5 rfl rfl ?_
  refine k_iconst G (dc d_La_law 35 rfl) cI_0 ?_
  obtain ⟨x5, e4, h⟩ := kOk_b h
  refine k_ild G (dc d_La_law 36 rfl) ho.1 ho.2.1 ho.2.2 e4 ?_
  refine k_istore G (dc d_La_law 37 rfl) (ls' := [(7, .int x5), (6, .int x2), (5, .int v), (0, .ref b), (1, .ref (B.1 + 0)), (2, .ref (B.1 + 235)), (3, .ref (B.1 + 470)), (4, .int i)]) rfl rfl ?_
  refine k_iload G (dc d_La_law 38 rfl) 1 rfl ?_
  refine kJ h (fun r7 => KK X B L 9 (cn + 2) (sn + 12) r7 85 [(0, .ref b), (1, .ref (B.1 + 0)), (2, .ref (B.1 + 235)), (3, .ref (B.1 + 470)), (4, .int i), (5, .int v), (6, .int x2), (7, .int x5)] []) (fun r7 h => ?_) (fun h => ?_)
  · obtain ⟨M6, rfl⟩ : ∃ z, z = r7 := ⟨_, rfl⟩
    show KK X B L 9 (cn + 2) (sn + 12) M6 85 [(0, .ref b), (1, .ref (B.1 + 0)), (2, .ref (B.1 + 235)), (3, .ref (B.1 + 470)), (4, .int i), (5, .int v), (6, .int x2), (7, .int x5)] []
    refine k_iload G (dc d_La_law 46 rfl) 6 rfl ?_
    refine kJ h (fun r9 => KK X B L 9 (cn + 5) (sn + 30) r9 148 [(0, .ref b), (1, .ref (B.1 + 0)), (2, .ref (B.1 + 235)), (3, .ref (B.1 + 470)), (4, .int i), (5, .int v), (6, .int x2), (7, .int x5)] []) (fun r9 h => ?_) (fun h => ?_)
    · obtain ⟨M8, rfl⟩ : ∃ z, z = r9 := ⟨_, rfl⟩
      show KK X B L 9 (cn + 5) (sn + 30) M8 148 [(0, .ref b), (1, .ref (B.1 + 0)), (2, .ref (B.1 + 235)), (3, .ref (B.1 + 470)), (4, .int i), (5, .int v), (6, .int x2), (7, .int x5)] []
      refine k_aload_n G (dc d_La_law 81 rfl) 2 rfl rfl ?_
      refine k_iload G (dc d_La_law 82 rfl) 5 rfl ?_
      refine k_aload_n G (dc d_La_law 83 rfl) 3 rfl rfl ?_
      obtain ⟨⟨x11, M12⟩, e10, h⟩ := kOk_b h
      refine k_callS G (dc d_La_law 84 rfl) mi_La_act ms_La_act ml_RL_105 (c_La_act (gst G) hx hv ho e10) rfl rfl ⟨rfl, rfl⟩ rfl ⟨blC hc rfl, blS hs rfl⟩ ?_
      show KK X B L 9 (cn + 7) (sn + 42) M12 155 [(0, .ref b), (1, .ref (B.1 + 0)), (2, .ref (B.1 + 235)), (3, .ref (B.1 + 470)), (4, .int i), (5, .int v), (6, .int x2), (7, .int x5)] [.int x11]
      refine k_iload G (dc d_La_law 85 rfl) 6 rfl ?_
      refine kJ h (fun _ => KK X B L 9 (cn + 7) (sn + 42) M12 160 [(0, .ref b), (1, .ref (B.1 + 0)), (2, .ref (B.1 + 235)), (3, .ref (B.1 + 470)), (4, .int i), (5, .int v), (6, .int x2), (7, .int x5)] []) (fun r13 h => ?_) (fun h => ?_)
      · refine k_iload G (dc d_La_law 87 rfl) 6 rfl ?_
        refine kJ h (fun _ => KK X B L 9 (cn + 7) (sn + 42) M12 173 [(0, .ref b), (1, .ref (B.1 + 0)), (2, .ref (B.1 + 235)), (3, .ref (B.1 + 470)), (4, .int i), (5, .int v)] []) (fun r14 h => ?_) (fun h => ?_)
        · refine k_aload_n G (dc d_La_law 94 rfl) 1 rfl rfl ?_
          refine k_aload_n G (dc d_La_law 95 rfl) 2 rfl rfl ?_
          obtain ⟨⟨x16, M17⟩, e15, h⟩ := kOk_b h
          refine k_callS G (dc d_La_law 96 rfl) mi_La_areAlike ms_La_areAlike ml_RL_109 (c_La_areAlike (gst G) hu hv e15) rfl rfl ⟨rfl, rfl⟩ rfl ⟨blC hc rfl, blS hs rfl⟩ ?_
          show KK X B L 9 (cn + 7) (sn + 42) M17 178 [(0, .ref b), (1, .ref (B.1 + 0)), (2, .ref (B.1 + 235)), (3, .ref (B.1 + 470)), (4, .int i), (5, .int v)] [.int x16]
          refine kJ h (fun _ => KK X B L 9 (cn + 7) (sn + 42) M17 183 [(0, .ref b), (1, .ref (B.1 + 0)), (2, .ref (B.1 + 235)), (3, .ref (B.1 + 470)), (4, .int i), (5, .int v)] []) (fun r18 h => ?_) (fun h => ?_)
          · refine k_iload G (dc d_La_law 100 rfl) 4 rfl ?_
            refine k_iconst G (dc d_La_law 101 rfl) cI_3 ?_
            refine k_irem G (dc d_La_law 102 rfl) czI_3 ?_
            refine k_iconst G (dc d_La_law 103 rfl) cI_2 ?_
            refine kJ h (fun r20 => KK X B L 9 (cn + 10) (sn + 60) r20 221 [(0, .ref b), (1, .ref (B.1 + 0)), (2, .ref (B.1 + 235)), (3, .ref (B.1 + 470)), (4, .int i), (5, .int v)] []) (fun r20 h => ?_) (fun h => ?_)
            · obtain ⟨M19, rfl⟩ : ∃ z, z = r20 := ⟨_, rfl⟩
              show KK X B L 9 (cn + 10) (sn + 60) M19 221 [(0, .ref b), (1, .ref (B.1 + 0)), (2, .ref (B.1 + 235)), (3, .ref (B.1 + 470)), (4, .int i), (5, .int v)] []
              refine k_iload G (dc d_La_law 122 rfl) 4 rfl ?_
              refine k_iconst G (dc d_La_law 123 rfl) cI_3 ?_
              refine k_irem G (dc d_La_law 124 rfl) czI_3 ?_
              refine k_iconst G (dc d_La_law 125 rfl) cI_2 ?_
              refine k_icmp_ne G (dc d_La_law 126 rfl) (tgt := 278) rfl (fun c21 => ?_) (fun c21 => ?_)
              · replace h := kOk_n c21 h
                refine k_sub [0, 1, 2, 3, 4] rfl ?_
                have h9 := kOk_s h
                exact h9
              · replace h := kOk_p c21 h
                refine k_aload_n G (dc d_La_law 127 rfl) 1 rfl rfl ?_
                refine k_iconst G (dc d_La_law 128 rfl) cI_0 ?_
                obtain ⟨⟨x23, M24⟩, e22, h⟩ := kOk_b h
                refine k_callV G (dc d_La_law 129 rfl) kc7 (okL_lt hu (o := 0) 0 rfl) (okL_k hu (o := 0) 0 rfl) mi_SR_about mv_SR_about rfl ml_RL_60 (c_Sn_about (gst G) hu e22) rfl rfl ⟨rfl, rfl⟩ rfl ⟨blC hc rfl, blS hs rfl⟩ ?_
                show KK X B L 9 (cn + 10) (sn + 60) M24 234 [(0, .ref b), (1, .ref (B.1 + 0)), (2, .ref (B.1 + 235)), (3, .ref (B.1 + 470)), (4, .int i), (5, .int v)] [.int x23]
                refine k_if_le G (dc d_La_law 130 rfl) (tgt := 278) rfl (fun c25 => ?_) (fun c25 => ?_)
                · replace h := kOk_p c25 h
                  refine k_sub [0, 1, 2, 3, 4] rfl ?_
                  have h9 := kOk_s h
                  exact h9
                · replace h := kOk_n c25 h
                  refine k_aload_n G (dc d_La_law 131 rfl) 1 rfl rfl ?_
                  refine k_iload G (dc d_La_law 132 rfl) 5 rfl ?_
                  refine k_bipush G (dc d_La_law 133 rfl) cB_6 ?_
                  refine k_ishr G (dc d_La_law 134 rfl) ?_
                  refine k_aload_n G (dc d_La_law 135 rfl) 1 rfl rfl ?_
                  refine k_iconst G (dc d_La_law 136 rfl) cI_0 ?_
                  obtain ⟨⟨x27, M28⟩, e26, h⟩ := kOk_b h
                  refine k_callV G (dc d_La_law 137 rfl) kc7 (okL_lt hu (o := 0) 0 rfl) (okL_k hu (o := 0) 0 rfl) mi_SR_about mv_SR_about rfl ml_RL_60 (c_Sn_about (gst G) hu e26) rfl rfl ⟨rfl, rfl⟩ rfl ⟨blC hc rfl, blS hs rfl⟩ ?_
                  show KK X B L 9 (cn + 10) (sn + 60) M28 248 [(0, .ref b), (1, .ref (B.1 + 0)), (2, .ref (B.1 + 235)), (3, .ref (B.1 + 470)), (4, .int i), (5, .int v)] [.int x27, .int (jshr v 6), .ref (B.1 + 0)]
                  obtain ⟨x30, e29, h⟩ := kOk_b h
                  refine k_callS G (dc d_La_law 138 rfl) mi_La_low ms_La_low ml_RL_44 (c_La_low (gst G)  e29) rfl rfl ⟨rfl, rfl⟩ rfl ⟨blC hc rfl, blS hs rfl⟩ ?_
                  show KK X B L 9 (cn + 10) (sn + 60) M28 251 [(0, .ref b), (1, .ref (B.1 + 0)), (2, .ref (B.1 + 235)), (3, .ref (B.1 + 470)), (4, .int i), (5, .int v)] [.int x30, .ref (B.1 + 0)]
                  refine k_iload G (dc d_La_law 139 rfl) 5 rfl ?_
                  refine k_bipush G (dc d_La_law 140 rfl) cB_8 ?_
                  refine k_ishr G (dc d_La_law 141 rfl) ?_
                  refine k_sipush G (dc d_La_law 142 rfl) cS_200 ?_
                  obtain ⟨x32, e31, h⟩ := kOk_b h
                  refine k_callS G (dc d_La_law 143 rfl) mi_La_low ms_La_low ml_RL_44 (c_La_low (gst G)  e31) rfl rfl ⟨rfl, rfl⟩ rfl ⟨blC hc rfl, blS hs rfl⟩ ?_
                  show KK X B L 9 (cn + 10) (sn + 60) M28 262 [(0, .ref b), (1, .ref (B.1 + 0)), (2, .ref (B.1 + 235)), (3, .ref (B.1 + 470)), (4, .int i), (5, .int v)] [.int x32, .int x30, .ref (B.1 + 0)]
                  obtain ⟨⟨x34, M35⟩, e33, h⟩ := kOk_b h
                  refine k_callS G (dc d_La_law 144 rfl) mi_La_isWorthSo ms_La_isWorthSo ml_RL_121 (c_La_isWorthSo (gst G) hx hu e33) rfl rfl ⟨rfl, rfl⟩ rfl ⟨blC hc rfl, blS hs rfl⟩ ?_
                  show KK X B L 9 (cn + 10) (sn + 60) M35 265 [(0, .ref b), (1, .ref (B.1 + 0)), (2, .ref (B.1 + 235)), (3, .ref (B.1 + 470)), (4, .int i), (5, .int v)] [.int x34]
                  refine kJ h (fun _ => KK X B L 9 (cn + 10) (sn + 60) M35 268 [(0, .ref b), (1, .ref (B.1 + 0)), (2, .ref (B.1 + 235)), (3, .ref (B.1 + 470)), (4, .int i)] []) (fun r36 h => ?_) (fun h => ?_)
                  · refine k_aload_n G (dc d_La_law 146 rfl) 1 rfl rfl ?_
                    refine k_aload_n G (dc d_La_law 147 rfl) 2 rfl rfl ?_
                    obtain ⟨⟨x38, M39⟩, e37, h⟩ := kOk_b h
                    refine k_callS G (dc d_La_law 148 rfl) mi_La_areAlike ms_La_areAlike ml_RL_109 (c_La_areAlike (gst G) hu hv e37) rfl rfl ⟨rfl, rfl⟩ rfl ⟨blC hc rfl, blS hs rfl⟩ ?_
                    show KK X B L 9 (cn + 10) (sn + 60) M39 273 [(0, .ref b), (1, .ref (B.1 + 0)), (2, .ref (B.1 + 235)), (3, .ref (B.1 + 470)), (4, .int i)] [.int x38]
                    refine k_if_ne G (dc d_La_law 149 rfl) (tgt := 278) rfl (fun c40 => ?_) (fun c40 => ?_)
                    · replace h := kOk_n c40 h
                      have h9 := kOk_s h
                      exact h9
                    · replace h := kOk_p c40 h
                      refine k_iconst G (dc d_La_law 150 rfl) cI_0 ?_
                      exact (kOk_none h).elim
                  · refine k_if_eq G (dc d_La_law 145 rfl) (tgt := 276) rfl (fun c41 => ?_) (fun c41 => ?_)
                    · replace h := kOk_p c41 h
                      refine k_iconst G (dc d_La_law 150 rfl) cI_0 ?_
                      exact (kOk_none h).elim
                    · replace h := kOk_n c41 h
                      refine k_sub [0, 1, 2, 3, 4] rfl ?_
                      have h9 := kOk_s h
                      exact h9
            · refine k_icmp_ne G (dc d_La_law 104 rfl) (tgt := 221) rfl (fun c42 => ?_) (fun c42 => ?_)
              · replace h := kOk_n c42 h
                refine k_wideL (a' := 10) (b' := 60) rfl rfl ?_
                have h9 := kOk_s h
                exact h9
              · replace h := kOk_p c42 h
                refine k_aload_n G (dc d_La_law 105 rfl) 1 rfl rfl ?_
                obtain ⟨⟨x44, M45⟩, e43, h⟩ := kOk_b h
                refine k_callS G (dc d_La_law 106 rfl) mi_La_areSums ms_La_areSums ml_RL_113 (c_La_areSums (gst G) hu e43) rfl rfl ⟨rfl, rfl⟩ rfl ⟨blC hc rfl, blS hs rfl⟩ ?_
                show KK X B L 9 (cn + 7) (sn + 42) M45 195 [(0, .ref b), (1, .ref (B.1 + 0)), (2, .ref (B.1 + 235)), (3, .ref (B.1 + 470)), (4, .int i), (5, .int v)] [.int x44]
                refine kJ h (fun _ => KK X B L 9 (cn + 7) (sn + 42) M45 198 [(0, .ref b), (1, .ref (B.1 + 0)), (2, .ref (B.1 + 235)), (3, .ref (B.1 + 470)), (4, .int i), (5, .int v)] []) (fun r46 h => ?_) (fun h => ?_)
                · refine k_aload_n G (dc d_La_law 108 rfl) 1 rfl rfl ?_
                  refine k_iload G (dc d_La_law 109 rfl) 5 rfl ?_
                  refine k_iconst G (dc d_La_law 110 rfl) cI_5 ?_
                  refine k_ishr G (dc d_La_law 111 rfl) ?_
                  refine k_iconst G (dc d_La_law 112 rfl) cI_3 ?_
                  obtain ⟨x48, e47, h⟩ := kOk_b h
                  refine k_callS G (dc d_La_law 113 rfl) mi_La_low ms_La_low ml_RL_44 (c_La_low (gst G)  e47) rfl rfl ⟨rfl, rfl⟩ rfl ⟨blC hc rfl, blS hs rfl⟩ ?_
                  show KK X B L 9 (cn + 7) (sn + 42) M45 207 [(0, .ref b), (1, .ref (B.1 + 0)), (2, .ref (B.1 + 235)), (3, .ref (B.1 + 470)), (4, .int i), (5, .int v)] [.int x48, .ref (B.1 + 0)]
                  refine k_iload G (dc d_La_law 114 rfl) 5 rfl ?_
                  refine k_bipush G (dc d_La_law 115 rfl) cB_7 ?_
                  refine k_ishr G (dc d_La_law 116 rfl) ?_
                  refine k_aload_n G (dc d_La_law 117 rfl) 3 rfl rfl ?_
                  obtain ⟨⟨x50, M51⟩, e49, h⟩ := kOk_b h
                  refine k_callS G (dc d_La_law 118 rfl) mi_La_isWhySo ms_La_isWhySo ml_RL_117 (c_La_isWhySo (gst G) hx hu ho e49) rfl rfl ⟨rfl, rfl⟩ rfl ⟨blC hc rfl, blS hs rfl⟩ ?_
                  show KK X B L 9 (cn + 10) (sn + 60) M51 216 [(0, .ref b), (1, .ref (B.1 + 0)), (2, .ref (B.1 + 235)), (3, .ref (B.1 + 470)), (4, .int i), (5, .int v)] [.int x50]
                  refine k_if_ne G (dc d_La_law 119 rfl) (tgt := 221) rfl (fun c52 => ?_) (fun c52 => ?_)
                  · replace h := kOk_n c52 h
                    have h9 := kOk_s h
                    exact h9
                  · replace h := kOk_p c52 h
                    refine k_iconst G (dc d_La_law 120 rfl) cI_0 ?_
                    exact (kOk_none h).elim
                · refine k_if_eq G (dc d_La_law 107 rfl) (tgt := 219) rfl (fun c53 => ?_) (fun c53 => ?_)
                  · replace h := kOk_p c53 h
                    refine k_iconst G (dc d_La_law 120 rfl) cI_0 ?_
                    exact (kOk_none h).elim
                  · replace h := kOk_n c53 h
                    have h9 := kOk_s h
                    exact h9
          · refine k_if_ne G (dc d_La_law 97 rfl) (tgt := 183) rfl (fun c54 => ?_) (fun c54 => ?_)
            · replace h := kOk_n c54 h
              have h9 := kOk_s h
              exact h9
            · replace h := kOk_p c54 h
              refine k_iconst G (dc d_La_law 98 rfl) cI_0 ?_
              exact (kOk_none h).elim
        · refine k_if_ne G (dc d_La_law 88 rfl) (tgt := 173) rfl (fun c55 => ?_) (fun c55 => ?_)
          · replace h := kOk_n c55 h
            refine k_sub [0, 1, 2, 3, 4, 5] rfl ?_
            have h9 := kOk_s h
            exact h9
          · replace h := kOk_p c55 h
            refine k_aload_n G (dc d_La_law 89 rfl) 3 rfl rfl ?_
            refine k_iconst G (dc d_La_law 90 rfl) cI_0 ?_
            obtain ⟨x57, e56, h⟩ := kOk_b h
            refine k_ild G (dc d_La_law 91 rfl) ho.1 ho.2.1 ho.2.2 e56 ?_
            refine k_iload G (dc d_La_law 92 rfl) 7 rfl ?_
            refine k_icmp_ne G (dc d_La_law 93 rfl) (tgt := 181) rfl (fun c58 => ?_) (fun c58 => ?_)
            · replace h := kOk_n c58 h
              refine k_iconst G (dc d_La_law 98 rfl) cI_0 ?_
              exact (kOk_none h).elim
            · replace h := kOk_p c58 h
              refine k_sub [0, 1, 2, 3, 4, 5] rfl ?_
              have h9 := kOk_s h
              exact h9
      · refine k_icmp_ne G (dc d_La_law 86 rfl) (tgt := 181) rfl (fun c59 => ?_) (fun c59 => ?_)
        · replace h := kOk_n c59 h
          refine k_iconst G (dc d_La_law 98 rfl) cI_0 ?_
          exact (kOk_none h).elim
        · replace h := kOk_p c59 h
          have h9 := kOk_s h
          exact h9
    · refine k_if_ne G (dc d_La_law 47 rfl) (tgt := 148) rfl (fun c60 => ?_) (fun c60 => ?_)
      · replace h := kOk_n c60 h
        refine k_wideL (a' := 5) (b' := 30) rfl rfl ?_
        have h9 := kOk_s h
        exact h9
      · replace h := kOk_p c60 h
        refine k_iload G (dc d_La_law 48 rfl) 5 rfl ?_
        refine k_bipush G (dc d_La_law 49 rfl) cB_9 ?_
        refine k_ishr G (dc d_La_law 50 rfl) ?_
        refine k_iconst G (dc d_La_law 51 rfl) cI_1 ?_
        refine k_iand G (dc d_La_law 52 rfl) ?_
        refine k_if_ne G (dc d_La_law 53 rfl) (tgt := 148) rfl (fun c61 => ?_) (fun c61 => ?_)
        · replace h := kOk_n c61 h
          refine k_wideL (a' := 5) (b' := 30) rfl rfl ?_
          have h9 := kOk_s h
          exact h9
        · replace h := kOk_p c61 h
          refine k_aload_n G (dc d_La_law 54 rfl) 1 rfl rfl ?_
          refine k_aload_n G (dc d_La_law 55 rfl) 3 rfl rfl ?_
          obtain ⟨⟨x63, M64⟩, e62, h⟩ := kOk_b h
          refine k_cSH G (dc d_La_law 56 rfl) mh_La_undoes ms_La_undoes ml_RL_93 (c_La_undoes (gst G) hx hu ho e62) rfl rfl ⟨rfl, rfl⟩ rfl ⟨blC hc rfl, blS hs rfl⟩ ?_
          show KK X B L 9 (cn + 3) (sn + 18) M64 105 [(0, .ref b), (1, .ref (B.1 + 0)), (2, .ref (B.1 + 235)), (3, .ref (B.1 + 470)), (4, .int i), (5, .int v), (6, .int x2), (7, .int x5)] [.int x63]
          refine k_istore G (dc d_La_law 57 rfl) (ls' := [(8, .int x63), (0, .ref b), (1, .ref (B.1 + 0)), (2, .ref (B.1 + 235)), (3, .ref (B.1 + 470)), (4, .int i), (5, .int v), (6, .int x2), (7, .int x5)]) rfl rfl ?_
          refine k_iload G (dc d_La_law 58 rfl) 0 rfl ?_
          refine kJ h (fun _ => KK X B L 9 (cn + 3) (sn + 18) M64 112 [(0, .ref b), (1, .ref (B.1 + 0)), (2, .ref (B.1 + 235)), (3, .ref (B.1 + 470)), (4, .int i), (5, .int v), (6, .int x2), (7, .int x5)] []) (fun r65 h => ?_) (fun h => ?_)
          · refine k_aload_n G (dc d_La_law 60 rfl) 3 rfl rfl ?_
            refine k_iconst G (dc d_La_law 61 rfl) cI_0 ?_
            obtain ⟨x67, e66, h⟩ := kOk_b h
            refine k_ild G (dc d_La_law 62 rfl) ho.1 ho.2.1 ho.2.2 e66 ?_
            refine k_bipush G (dc d_La_law 63 rfl) cB_13 ?_
            refine kJ h (fun _ => KK X B L 9 (cn + 3) (sn + 18) M64 120 [(0, .ref b), (1, .ref (B.1 + 0)), (2, .ref (B.1 + 235)), (3, .ref (B.1 + 470)), (4, .int i), (5, .int v), (6, .int x2), (7, .int x5)] []) (fun r68 h => ?_) (fun h => ?_)
            · refine k_aload_n G (dc d_La_law 65 rfl) 1 rfl rfl ?_
              refine k_aload_n G (dc d_La_law 66 rfl) 2 rfl rfl ?_
              obtain ⟨⟨x70, M71⟩, e69, h⟩ := kOk_b h
              refine k_callS G (dc d_La_law 67 rfl) mi_La_areAlike ms_La_areAlike ml_RL_109 (c_La_areAlike (gst G) hu hv e69) rfl rfl ⟨rfl, rfl⟩ rfl ⟨blC hc rfl, blS hs rfl⟩ ?_
              show KK X B L 9 (cn + 3) (sn + 18) M71 125 [(0, .ref b), (1, .ref (B.1 + 0)), (2, .ref (B.1 + 235)), (3, .ref (B.1 + 470)), (4, .int i), (5, .int v), (6, .int x2), (7, .int x5)] [.int x70]
              refine kJ h (fun _ => KK X B L 9 (cn + 3) (sn + 18) M71 128 [(0, .ref b), (1, .ref (B.1 + 0)), (2, .ref (B.1 + 235)), (3, .ref (B.1 + 470)), (4, .int i), (5, .int v), (6, .int x2), (7, .int x5)] []) (fun r72 h => ?_) (fun h => ?_)
              · refine k_aload_n G (dc d_La_law 69 rfl) 1 rfl rfl ?_
                refine k_iload G (dc d_La_law 70 rfl) 5 rfl ?_
                refine k_aload_n G (dc d_La_law 71 rfl) 3 rfl rfl ?_
                obtain ⟨⟨x74, M75⟩, e73, h⟩ := kOk_b h
                refine k_callS G (dc d_La_law 72 rfl) mi_La_act ms_La_act ml_RL_105 (c_La_act (gst G) hx hu ho e73) rfl rfl ⟨rfl, rfl⟩ rfl ⟨blC hc rfl, blS hs rfl⟩ ?_
                show KK X B L 9 (cn + 5) (sn + 30) M75 135 [(0, .ref b), (1, .ref (B.1 + 0)), (2, .ref (B.1 + 235)), (3, .ref (B.1 + 470)), (4, .int i), (5, .int v), (6, .int x2), (7, .int x5)] [.int x74]
                refine kJ h (fun _ => KK X B L 9 (cn + 5) (sn + 30) M75 138 [(0, .ref b), (1, .ref (B.1 + 0)), (2, .ref (B.1 + 235)), (3, .ref (B.1 + 470)), (4, .int i), (5, .int v), (6, .int x2), (7, .int x5)] []) (fun r76 h => ?_) (fun h => ?_)
                · refine k_aload_n G (dc d_La_law 74 rfl) 3 rfl rfl ?_
                  refine k_iconst G (dc d_La_law 75 rfl) cI_0 ?_
                  obtain ⟨x78, e77, h⟩ := kOk_b h
                  refine k_ild G (dc d_La_law 76 rfl) ho.1 ho.2.1 ho.2.2 e77 ?_
                  refine k_iload G (dc d_La_law 77 rfl) 7 rfl ?_
                  refine k_icmp_eq G (dc d_La_law 78 rfl) (tgt := 148) rfl (fun c79 => ?_) (fun c79 => ?_)
                  · replace h := kOk_p c79 h
                    have h9 := kOk_s h
                    exact h9
                  · replace h := kOk_n c79 h
                    refine k_iconst G (dc d_La_law 79 rfl) cI_0 ?_
                    exact (kOk_none h).elim
                · refine k_if_ne G (dc d_La_law 73 rfl) (tgt := 146) rfl (fun c80 => ?_) (fun c80 => ?_)
                  · replace h := kOk_n c80 h
                    refine k_iconst G (dc d_La_law 79 rfl) cI_0 ?_
                    exact (kOk_none h).elim
                  · replace h := kOk_p c80 h
                    have h9 := kOk_s h
                    exact h9
              · refine k_if_eq G (dc d_La_law 68 rfl) (tgt := 146) rfl (fun c81 => ?_) (fun c81 => ?_)
                · replace h := kOk_p c81 h
                  refine k_iconst G (dc d_La_law 79 rfl) cI_0 ?_
                  exact (kOk_none h).elim
                · replace h := kOk_n c81 h
                  have h9 := kOk_s h
                  exact h9
            · refine k_icmp_gt G (dc d_La_law 64 rfl) (tgt := 146) rfl (fun c82 => ?_) (fun c82 => ?_)
              · replace h := kOk_p c82 h
                refine k_iconst G (dc d_La_law 79 rfl) cI_0 ?_
                exact (kOk_none h).elim
              · replace h := kOk_n c82 h
                have h9 := kOk_s h
                exact h9
          · refine k_if_ne G (dc d_La_law 59 rfl) (tgt := 146) rfl (fun c83 => ?_) (fun c83 => ?_)
            · replace h := kOk_n c83 h
              refine k_iconst G (dc d_La_law 79 rfl) cI_0 ?_
              exact (kOk_none h).elim
            · replace h := kOk_p c83 h
              refine k_sub [1, 2, 3, 4, 5, 6, 7, 8] rfl ?_
              have h9 := kOk_s h
              exact h9
  · refine k_if_eq G (dc d_La_law 39 rfl) (tgt := 85) rfl (fun c84 => ?_) (fun c84 => ?_)
    · replace h := kOk_p c84 h
      refine k_sub [3, 4, 5, 6, 7, 2, 1, 0] rfl ?_
      have h9 := kOk_s h
      exact h9
    · replace h := kOk_n c84 h
      refine k_aload_n G (dc d_La_law 40 rfl) 4 rfl rfl ?_
      refine k_aload_n G (dc d_La_law 41 rfl) 5 rfl rfl ?_
      obtain ⟨⟨x86, M87⟩, e85, h⟩ := kOk_b h
      refine k_callS G (dc d_La_law 42 rfl) mi_La_areAlike ms_La_areAlike ml_RL_109 (c_La_areAlike (gst G) hu hv e85) rfl rfl ⟨rfl, rfl⟩ rfl ⟨blC hc rfl, blS hs rfl⟩ ?_
      show KK X B L 9 (cn + 2) (sn + 12) M87 80 [(7, .int x5), (6, .int x2), (5, .int v), (0, .ref b), (1, .ref (B.1 + 0)), (2, .ref (B.1 + 235)), (3, .ref (B.1 + 470)), (4, .int i)] [.int x86]
      refine k_if_ne G (dc d_La_law 43 rfl) (tgt := 85) rfl (fun c88 => ?_) (fun c88 => ?_)
      · replace h := kOk_n c88 h
        refine k_sub [3, 4, 5, 6, 7, 2, 1, 0] rfl ?_
        have h9 := kOk_s h
        exact h9
      · replace h := kOk_p c88 h
        refine k_iconst G (dc d_La_law 44 rfl) cI_0 ?_
        exact (kOk_none h).elim
