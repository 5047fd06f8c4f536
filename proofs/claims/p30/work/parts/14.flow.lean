/-! laid by wip/p30/g30.py: Fl_let, Fl_joinedTo, Fl_pastDecree, Fl_through, Fl_spellingOf -/
def I_Fl_let : List (Nat × Instr × Nat) := [(0, .aload_n 1, 1), (1, .iload_n 2, 1), (2, .invokevirtual 35, 3), (5, .ifCond .ne 5, 3), (8, .iload_n 3, 1), (9, .ireturn, 1), (10, .aload_n 1, 1), (11, .iload_n 2, 1), (12, .iconst 0, 1), (13, .invokevirtual 48, 3), (16, .istore 4, 2), (18, .iload_n 3, 1), (19, .aload_n 1, 1), (20, .iload_n 2, 1), (21, .iconst 1, 1), (22, .invokevirtual 48, 3), (25, .if_icmp .ne 7, 3), (28, .iconst 1, 1), (29, .goto 4, 3), (32, .iconst 0, 1), (33, .istore 5, 2), (35, .iload 4, 2), (37, .ifCond .ne 14, 3), (40, .iload 5, 2), (42, .ifCond .eq 7, 3), (45, .iconst 0, 1), (46, .goto 4, 3), (49, .iload_n 3, 1), (50, .ireturn, 1), (51, .aload_n 0, 1), (52, .getfield 9, 3), (55, .iload_n 2, 1), (56, .iaload, 1), (57, .istore 6, 2), (59, .iload 4, 2), (61, .iconst 1, 1), (62, .if_icmp .ne 32, 3), (65, .iload 6, 2), (67, .ifCond .eq 27, 3), (70, .iload_n 3, 1), (71, .aload_n 1, 1), (72, .iload_n 2, 1), (73, .iconst 2, 1), (74, .invokevirtual 48, 3), (77, .if_icmp .ne 17, 3), (80, .aload_n 0, 1), (81, .getfield 9, 3), (84, .iload_n 2, 1), (85, .iconst 0, 1), (86, .iastore, 1), (87, .aload_n 1, 1), (88, .iload_n 2, 1), (89, .iconst 3, 1), (90, .invokevirtual 48, 3), (93, .ireturn, 1), (94, .aload_n 0, 1), (95, .getfield 9, 3), (98, .iload_n 2, 1), (99, .iload 5, 2), (101, .ifCond .eq 7, 3), (104, .iload_n 3, 1), (105, .goto 4, 3), (108, .iconst 0, 1), (109, .iastore, 1), (110, .iload 5, 2), (112, .ifCond .eq 16, 3), (115, .iload 4, 2), (117, .iconst 1, 1), (118, .if_icmp .ne 8, 3), (121, .iload 6, 2), (123, .goto 4, 3), (126, .iconst 0, 1), (127, .ireturn, 1), (128, .iload 6, 2), (130, .bipush 10, 2), (132, .imul, 1), (133, .iload_n 3, 1), (134, .iadd, 1), (135, .ireturn, 1)]
set_option maxRecDepth 100000 in
theorem d_Fl_let : decA cX1_let I_Fl_let = true := by decide +kernel
abbrev rm_Fl_let : Room := ({ frames := 2, cells := 0, slots := 0, locals := 43 } : Room)
def m_Fl_let (u : Nat) (p0 : Nat) (p1 : Int32) (p2 : Int32) (M : KMem) : Option (Int32 × KMem) :=
 Option.bind (m_De_has p0 p1 M) fun x2 =>
 if x2 = 0 then
 (some (p2, M))
 else
 (Option.bind (m_De_number p0 p1 0 M) fun x5 =>
 Option.bind (m_De_number p0 p1 1 M) fun x7 =>
 Option.bind (α := Int32) (if p2 = x7 then
 (some 1)
 else
 (some 0)) fun t8 =>
 if x5 = 0 then
 (Option.bind (α := Int32) (if t8 = 0 then
 (some p2)
 else
 (some 0)) fun t49 =>
 some (t49, M))
 else
 (Option.bind (rdI M (u + 1) 10 p1) fun x12 =>
 if x5 = 1 then
 (if x12 = 0 then
 (Option.bind (α := Int32) (if t8 = 0 then
 (some 0)
 else
 (some p2)) fun t24 =>
 Option.bind (wrI M (u + 1) 10 p1 t24) fun M27 =>
 if t8 = 0 then
 (some ((x12 * 10) + p2, M27))
 else
 (Option.bind (α := Int32) (if x5 = 1 then
 (some x12)
 else
 (some 0)) fun t29 =>
 some (t29, M27)))
 else
 (Option.bind (m_De_number p0 p1 2 M) fun x34 =>
 if p2 = x34 then
 (Option.bind (wrI M (u + 1) 10 p1 0) fun M46 =>
 Option.bind (m_De_number p0 p1 3 M46) fun x48 =>
 some (x48, M46))
 else
 (Option.bind (α := Int32) (if t8 = 0 then
 (some 0)
 else
 (some p2)) fun t36 =>
 Option.bind (wrI M (u + 1) 10 p1 t36) fun M39 =>
 if t8 = 0 then
 (some ((x12 * 10) + p2, M39))
 else
 (Option.bind (α := Int32) (if x5 = 1 then
 (some x12)
 else
 (some 0)) fun t41 =>
 some (t41, M39)))))
 else
 (Option.bind (α := Int32) (if t8 = 0 then
 (some 0)
 else
 (some p2)) fun t14 =>
 Option.bind (wrI M (u + 1) 10 p1 t14) fun M17 =>
 if t8 = 0 then
 (some ((x12 * 10) + p2, M17))
 else
 (Option.bind (α := Int32) (if x5 = 1 then
 (some x12)
 else
 (some 0)) fun t19 =>
 some (t19, M17)))))
set_option maxHeartbeats 4000000 in
set_option maxRecDepth 100000 in
theorem b_Fl_let {X : KX} {B : KB} {L : KLay} {M : KMem} {u : Nat} {p0 : Nat} {p1 : Int32} {p2 : Int32} (G : Good X B RX1 cX1_let 7 rm_Fl_let) (hu : okL L u flT) (hp0 : okL L p0 deT) (h : kOk (m_Fl_let u p0 p1 p2 M) (fun r => RI X B L 7 cX1_let .int rm_Fl_let r.1 r.2)) : KK X B L 7 0 0 M 0 [(0, .ref (B.1 + u)), (1, .ref (B.1 + p0)), (2, .int p1), (3, .int p2)] [] := by
  unfold m_Fl_let at h
  refine k_aload_n G (dc d_Fl_let 0 rfl) 1 rfl rfl ?_
  refine k_iload_n G (dc d_Fl_let 1 rfl) 2 rfl rfl ?_
  obtain ⟨x2, e1, h⟩ := kOk_b h
  refine k_cVI G (dc d_Fl_let 2 rfl) kc0 (okL_lt hp0 (o := 0) 0 rfl) (okL_k hp0 (o := 0) 0 rfl) mi_De_has mv_De_has rfl ml_RX1_35 (c_De_has (gst G) hp0 e1) rfl rfl ⟨rfl, rfl⟩ rfl ⟨rfl, rfl⟩ ⟨rfl, rfl⟩ ?_
  refine k_if_ne G (dc d_Fl_let 3 rfl) (tgt := 10) rfl (fun c3 => ?_) (fun c3 => ?_)
  · replace h := kOk_n c3 h
    refine k_aload_n G (dc d_Fl_let 6 rfl) 1 rfl rfl ?_
    refine k_iload_n G (dc d_Fl_let 7 rfl) 2 rfl rfl ?_
    refine k_iconst G (dc d_Fl_let 8 rfl) cI_0 ?_
    obtain ⟨x5, e4, h⟩ := kOk_b h
    refine k_cVI G (dc d_Fl_let 9 rfl) kc0 (okL_lt hp0 (o := 0) 0 rfl) (okL_k hp0 (o := 0) 0 rfl) mi_De_number mv_De_number rfl ml_RX1_48 (c_De_number (gst G) hp0 e4) rfl rfl ⟨rfl, rfl⟩ rfl ⟨rfl, rfl⟩ ⟨rfl, rfl⟩ ?_
    refine k_istore G (dc d_Fl_let 10 rfl) (ls' := [(4, .int x5), (0, .ref (B.1 + u)), (1, .ref (B.1 + p0)), (2, .int p1), (3, .int p2)]) rfl rfl ?_
    refine k_iload_n G (dc d_Fl_let 11 rfl) 4 rfl rfl ?_
    refine k_aload_n G (dc d_Fl_let 12 rfl) 2 rfl rfl ?_
    refine k_iload_n G (dc d_Fl_let 13 rfl) 3 rfl rfl ?_
    refine k_iconst G (dc d_Fl_let 14 rfl) cI_1 ?_
    obtain ⟨x7, e6, h⟩ := kOk_b h
    refine k_cVI G (dc d_Fl_let 15 rfl) kc0 (okL_lt hp0 (o := 0) 0 rfl) (okL_k hp0 (o := 0) 0 rfl) mi_De_number mv_De_number rfl ml_RX1_48 (c_De_number (gst G) hp0 e6) rfl rfl ⟨rfl, rfl⟩ rfl ⟨rfl, rfl⟩ ⟨rfl, rfl⟩ ?_
    refine kJ h (fun r9 => KK X B L 7 0 0 M 33 [(0, .ref (B.1 + u)), (1, .ref (B.1 + p0)), (2, .int p1), (3, .int p2), (4, .int x5)] [.int r9]) (fun r9 h => ?_) (fun h => ?_)
    · obtain ⟨t8, rfl⟩ : ∃ z, z = r9 := ⟨_, rfl⟩
      show KK X B L 7 0 0 M 33 [(0, .ref (B.1 + u)), (1, .ref (B.1 + p0)), (2, .int p1), (3, .int p2), (4, .int x5)] [.int t8]
      refine k_istore G (dc d_Fl_let 20 rfl) (ls' := [(5, .int t8), (0, .ref (B.1 + u)), (1, .ref (B.1 + p0)), (2, .int p1), (3, .int p2), (4, .int x5)]) rfl rfl ?_
      refine k_iload G (dc d_Fl_let 21 rfl) 5 rfl ?_
      refine k_if_ne G (dc d_Fl_let 22 rfl) (tgt := 51) rfl (fun c10 => ?_) (fun c10 => ?_)
      · replace h := kOk_n c10 h
        refine k_aload_n G (dc d_Fl_let 29 rfl) 1 rfl rfl ?_
        refine k_getR G kc1 (dc d_Fl_let 30 rfl) (okL_lt hu (o := 0) 0 rfl) (okL_k hu (o := 0) 0 rfl) 0 (by decide) rfl fl_RX1_9 (u + 1) (okL_r hu (o := 0) (c := 1) 0 rfl 0 rfl) ?_
        refine k_iload_n G (dc d_Fl_let 31 rfl) 3 rfl rfl ?_
        obtain ⟨x12, e11, h⟩ := kOk_b h
        refine k_ild G (dc d_Fl_let 32 rfl) (okL_lt hu (o := 1) 1 rfl) (okL_k hu (o := 1) 1 rfl) (okL_n hu (o := 1) 1 rfl) e11 ?_
        refine k_istore G (dc d_Fl_let 33 rfl) (ls' := [(6, .int x12), (5, .int t8), (0, .ref (B.1 + u)), (1, .ref (B.1 + p0)), (2, .int p1), (3, .int p2), (4, .int x5)]) rfl rfl ?_
        refine k_iload G (dc d_Fl_let 34 rfl) 6 rfl ?_
        refine k_iconst G (dc d_Fl_let 35 rfl) cI_1 ?_
        refine k_icmp_ne G (dc d_Fl_let 36 rfl) (tgt := 94) rfl (fun c13 => ?_) (fun c13 => ?_)
        · replace h := kOk_n c13 h
          refine k_aload_n G (dc d_Fl_let 55 rfl) 2 rfl rfl ?_
          refine k_getR G kc1 (dc d_Fl_let 56 rfl) (okL_lt hu (o := 0) 0 rfl) (okL_k hu (o := 0) 0 rfl) 0 (by decide) rfl fl_RX1_9 (u + 1) (okL_r hu (o := 0) (c := 1) 0 rfl 0 rfl) ?_
          refine k_iload_n G (dc d_Fl_let 57 rfl) 4 rfl rfl ?_
          refine k_iload G (dc d_Fl_let 58 rfl) 1 rfl ?_
          refine kJ h (fun r15 => KK X B L 7 0 0 M 109 [(3, .int p2), (4, .int x5), (5, .int t8), (6, .int x12)] [.int r15, .int p1, .ref (B.1 + (u + 1))]) (fun r15 h => ?_) (fun h => ?_)
          · obtain ⟨t14, rfl⟩ : ∃ z, z = r15 := ⟨_, rfl⟩
            show KK X B L 7 0 0 M 109 [(3, .int p2), (4, .int x5), (5, .int t8), (6, .int x12)] [.int t14, .int p1, .ref (B.1 + (u + 1))]
            obtain ⟨M17, e16, h⟩ := kOk_b h
            refine k_ist G (dc d_Fl_let 63 rfl) (okL_lt hu (o := 1) 1 rfl) (okL_k hu (o := 1) 1 rfl) (okL_n hu (o := 1) 1 rfl) e16 ?_
            refine k_iload G (dc d_Fl_let 64 rfl) 2 rfl ?_
            refine k_if_eq G (dc d_Fl_let 65 rfl) (tgt := 128) rfl (fun c18 => ?_) (fun c18 => ?_)
            · replace h := kOk_p c18 h
              refine k_iload G (dc d_Fl_let 73 rfl) 3 rfl ?_
              refine k_bipush G (dc d_Fl_let 74 rfl) cB_10 ?_
              refine k_imul G (dc d_Fl_let 75 rfl) ?_
              refine k_iload_n G (dc d_Fl_let 76 rfl) 0 rfl rfl ?_
              refine k_iadd G (dc d_Fl_let 77 rfl) ?_
              exact (kOk_s h) _ _ _ _ rfl rfl rfl (dc d_Fl_let 78 rfl)
            · replace h := kOk_n c18 h
              refine k_iload G (dc d_Fl_let 66 rfl) 1 rfl ?_
              refine k_iconst G (dc d_Fl_let 67 rfl) cI_1 ?_
              refine kJ h (fun r20 => KK X B L 7 0 0 M17 127 [] [.int r20]) (fun r20 h => ?_) (fun h => ?_)
              · obtain ⟨t19, rfl⟩ : ∃ z, z = r20 := ⟨_, rfl⟩
                show KK X B L 7 0 0 M17 127 [] [.int t19]
                exact (kOk_s h) _ _ _ _ rfl rfl rfl (dc d_Fl_let 72 rfl)
              · refine k_icmp_ne G (dc d_Fl_let 68 rfl) (tgt := 126) rfl (fun c21 => ?_) (fun c21 => ?_)
                · replace h := kOk_n c21 h
                  refine k_iconst G (dc d_Fl_let 71 rfl) cI_0 ?_
                  refine k_sub [] rfl ?_
                  have h9 := kOk_s h
                  exact h9
                · replace h := kOk_p c21 h
                  refine k_iload G (dc d_Fl_let 69 rfl) 3 rfl ?_
                  refine k_goto G (dc d_Fl_let 70 rfl) (tgt := 127) rfl ?_
                  refine k_sub [] rfl ?_
                  have h9 := kOk_s h
                  exact h9
          · refine k_if_eq G (dc d_Fl_let 59 rfl) (tgt := 108) rfl (fun c22 => ?_) (fun c22 => ?_)
            · replace h := kOk_p c22 h
              refine k_iconst G (dc d_Fl_let 62 rfl) cI_0 ?_
              refine k_sub [5, 6, 1, 0] rfl ?_
              have h9 := kOk_s h
              exact h9
            · replace h := kOk_n c22 h
              refine k_iload_n G (dc d_Fl_let 60 rfl) 5 rfl rfl ?_
              refine k_goto G (dc d_Fl_let 61 rfl) (tgt := 109) rfl ?_
              refine k_sub [5, 6, 1, 0] rfl ?_
              have h9 := kOk_s h
              exact h9
        · replace h := kOk_p c13 h
          refine k_iload G (dc d_Fl_let 37 rfl) 0 rfl ?_
          refine k_if_eq G (dc d_Fl_let 38 rfl) (tgt := 94) rfl (fun c23 => ?_) (fun c23 => ?_)
          · replace h := kOk_p c23 h
            refine k_aload_n G (dc d_Fl_let 55 rfl) 2 rfl rfl ?_
            refine k_getR G kc1 (dc d_Fl_let 56 rfl) (okL_lt hu (o := 0) 0 rfl) (okL_k hu (o := 0) 0 rfl) 0 (by decide) rfl fl_RX1_9 (u + 1) (okL_r hu (o := 0) (c := 1) 0 rfl 0 rfl) ?_
            refine k_iload_n G (dc d_Fl_let 57 rfl) 4 rfl rfl ?_
            refine k_iload G (dc d_Fl_let 58 rfl) 1 rfl ?_
            refine kJ h (fun r25 => KK X B L 7 0 0 M 109 [(3, .int p2), (4, .int x5), (5, .int t8), (6, .int x12)] [.int r25, .int p1, .ref (B.1 + (u + 1))]) (fun r25 h => ?_) (fun h => ?_)
            · obtain ⟨t24, rfl⟩ : ∃ z, z = r25 := ⟨_, rfl⟩
              show KK X B L 7 0 0 M 109 [(3, .int p2), (4, .int x5), (5, .int t8), (6, .int x12)] [.int t24, .int p1, .ref (B.1 + (u + 1))]
              obtain ⟨M27, e26, h⟩ := kOk_b h
              refine k_ist G (dc d_Fl_let 63 rfl) (okL_lt hu (o := 1) 1 rfl) (okL_k hu (o := 1) 1 rfl) (okL_n hu (o := 1) 1 rfl) e26 ?_
              refine k_iload G (dc d_Fl_let 64 rfl) 2 rfl ?_
              refine k_if_eq G (dc d_Fl_let 65 rfl) (tgt := 128) rfl (fun c28 => ?_) (fun c28 => ?_)
              · replace h := kOk_p c28 h
                refine k_iload G (dc d_Fl_let 73 rfl) 3 rfl ?_
                refine k_bipush G (dc d_Fl_let 74 rfl) cB_10 ?_
                refine k_imul G (dc d_Fl_let 75 rfl) ?_
                refine k_iload_n G (dc d_Fl_let 76 rfl) 0 rfl rfl ?_
                refine k_iadd G (dc d_Fl_let 77 rfl) ?_
                exact (kOk_s h) _ _ _ _ rfl rfl rfl (dc d_Fl_let 78 rfl)
              · replace h := kOk_n c28 h
                refine k_iload G (dc d_Fl_let 66 rfl) 1 rfl ?_
                refine k_iconst G (dc d_Fl_let 67 rfl) cI_1 ?_
                refine kJ h (fun r30 => KK X B L 7 0 0 M27 127 [] [.int r30]) (fun r30 h => ?_) (fun h => ?_)
                · obtain ⟨t29, rfl⟩ : ∃ z, z = r30 := ⟨_, rfl⟩
                  show KK X B L 7 0 0 M27 127 [] [.int t29]
                  exact (kOk_s h) _ _ _ _ rfl rfl rfl (dc d_Fl_let 72 rfl)
                · refine k_icmp_ne G (dc d_Fl_let 68 rfl) (tgt := 126) rfl (fun c31 => ?_) (fun c31 => ?_)
                  · replace h := kOk_n c31 h
                    refine k_iconst G (dc d_Fl_let 71 rfl) cI_0 ?_
                    refine k_sub [] rfl ?_
                    have h9 := kOk_s h
                    exact h9
                  · replace h := kOk_p c31 h
                    refine k_iload G (dc d_Fl_let 69 rfl) 3 rfl ?_
                    refine k_goto G (dc d_Fl_let 70 rfl) (tgt := 127) rfl ?_
                    refine k_sub [] rfl ?_
                    have h9 := kOk_s h
                    exact h9
            · refine k_if_eq G (dc d_Fl_let 59 rfl) (tgt := 108) rfl (fun c32 => ?_) (fun c32 => ?_)
              · replace h := kOk_p c32 h
                refine k_iconst G (dc d_Fl_let 62 rfl) cI_0 ?_
                refine k_sub [5, 6, 1, 0] rfl ?_
                have h9 := kOk_s h
                exact h9
              · replace h := kOk_n c32 h
                refine k_iload_n G (dc d_Fl_let 60 rfl) 5 rfl rfl ?_
                refine k_goto G (dc d_Fl_let 61 rfl) (tgt := 109) rfl ?_
                refine k_sub [5, 6, 1, 0] rfl ?_
                have h9 := kOk_s h
                exact h9
          · replace h := kOk_n c23 h
            refine k_iload_n G (dc d_Fl_let 39 rfl) 5 rfl rfl ?_
            refine k_aload_n G (dc d_Fl_let 40 rfl) 3 rfl rfl ?_
            refine k_iload_n G (dc d_Fl_let 41 rfl) 4 rfl rfl ?_
            refine k_iconst G (dc d_Fl_let 42 rfl) cI_2 ?_
            obtain ⟨x34, e33, h⟩ := kOk_b h
            refine k_cVI G (dc d_Fl_let 43 rfl) kc0 (okL_lt hp0 (o := 0) 0 rfl) (okL_k hp0 (o := 0) 0 rfl) mi_De_number mv_De_number rfl ml_RX1_48 (c_De_number (gst G) hp0 e33) rfl rfl ⟨rfl, rfl⟩ rfl ⟨rfl, rfl⟩ ⟨rfl, rfl⟩ ?_
            refine k_icmp_ne G (dc d_Fl_let 44 rfl) (tgt := 94) rfl (fun c35 => ?_) (fun c35 => ?_)
            · replace h := kOk_n c35 h
              refine k_aload_n G (dc d_Fl_let 55 rfl) 2 rfl rfl ?_
              refine k_getR G kc1 (dc d_Fl_let 56 rfl) (okL_lt hu (o := 0) 0 rfl) (okL_k hu (o := 0) 0 rfl) 0 (by decide) rfl fl_RX1_9 (u + 1) (okL_r hu (o := 0) (c := 1) 0 rfl 0 rfl) ?_
              refine k_iload_n G (dc d_Fl_let 57 rfl) 4 rfl rfl ?_
              refine k_iload G (dc d_Fl_let 58 rfl) 1 rfl ?_
              refine kJ h (fun r37 => KK X B L 7 0 0 M 109 [(3, .int p2), (4, .int x5), (5, .int t8), (6, .int x12)] [.int r37, .int p1, .ref (B.1 + (u + 1))]) (fun r37 h => ?_) (fun h => ?_)
              · obtain ⟨t36, rfl⟩ : ∃ z, z = r37 := ⟨_, rfl⟩
                show KK X B L 7 0 0 M 109 [(3, .int p2), (4, .int x5), (5, .int t8), (6, .int x12)] [.int t36, .int p1, .ref (B.1 + (u + 1))]
                obtain ⟨M39, e38, h⟩ := kOk_b h
                refine k_ist G (dc d_Fl_let 63 rfl) (okL_lt hu (o := 1) 1 rfl) (okL_k hu (o := 1) 1 rfl) (okL_n hu (o := 1) 1 rfl) e38 ?_
                refine k_iload G (dc d_Fl_let 64 rfl) 2 rfl ?_
                refine k_if_eq G (dc d_Fl_let 65 rfl) (tgt := 128) rfl (fun c40 => ?_) (fun c40 => ?_)
                · replace h := kOk_p c40 h
                  refine k_iload G (dc d_Fl_let 73 rfl) 3 rfl ?_
                  refine k_bipush G (dc d_Fl_let 74 rfl) cB_10 ?_
                  refine k_imul G (dc d_Fl_let 75 rfl) ?_
                  refine k_iload_n G (dc d_Fl_let 76 rfl) 0 rfl rfl ?_
                  refine k_iadd G (dc d_Fl_let 77 rfl) ?_
                  exact (kOk_s h) _ _ _ _ rfl rfl rfl (dc d_Fl_let 78 rfl)
                · replace h := kOk_n c40 h
                  refine k_iload G (dc d_Fl_let 66 rfl) 1 rfl ?_
                  refine k_iconst G (dc d_Fl_let 67 rfl) cI_1 ?_
                  refine kJ h (fun r42 => KK X B L 7 0 0 M39 127 [] [.int r42]) (fun r42 h => ?_) (fun h => ?_)
                  · obtain ⟨t41, rfl⟩ : ∃ z, z = r42 := ⟨_, rfl⟩
                    show KK X B L 7 0 0 M39 127 [] [.int t41]
                    exact (kOk_s h) _ _ _ _ rfl rfl rfl (dc d_Fl_let 72 rfl)
                  · refine k_icmp_ne G (dc d_Fl_let 68 rfl) (tgt := 126) rfl (fun c43 => ?_) (fun c43 => ?_)
                    · replace h := kOk_n c43 h
                      refine k_iconst G (dc d_Fl_let 71 rfl) cI_0 ?_
                      refine k_sub [] rfl ?_
                      have h9 := kOk_s h
                      exact h9
                    · replace h := kOk_p c43 h
                      refine k_iload G (dc d_Fl_let 69 rfl) 3 rfl ?_
                      refine k_goto G (dc d_Fl_let 70 rfl) (tgt := 127) rfl ?_
                      refine k_sub [] rfl ?_
                      have h9 := kOk_s h
                      exact h9
              · refine k_if_eq G (dc d_Fl_let 59 rfl) (tgt := 108) rfl (fun c44 => ?_) (fun c44 => ?_)
                · replace h := kOk_p c44 h
                  refine k_iconst G (dc d_Fl_let 62 rfl) cI_0 ?_
                  refine k_sub [5, 6, 1, 0] rfl ?_
                  have h9 := kOk_s h
                  exact h9
                · replace h := kOk_n c44 h
                  refine k_iload_n G (dc d_Fl_let 60 rfl) 5 rfl rfl ?_
                  refine k_goto G (dc d_Fl_let 61 rfl) (tgt := 109) rfl ?_
                  refine k_sub [5, 6, 1, 0] rfl ?_
                  have h9 := kOk_s h
                  exact h9
            · replace h := kOk_p c35 h
              refine k_aload_n G (dc d_Fl_let 45 rfl) 2 rfl rfl ?_
              refine k_getR G kc1 (dc d_Fl_let 46 rfl) (okL_lt hu (o := 0) 0 rfl) (okL_k hu (o := 0) 0 rfl) 0 (by decide) rfl fl_RX1_9 (u + 1) (okL_r hu (o := 0) (c := 1) 0 rfl 0 rfl) ?_
              refine k_iload_n G (dc d_Fl_let 47 rfl) 4 rfl rfl ?_
              refine k_iconst G (dc d_Fl_let 48 rfl) cI_0 ?_
              obtain ⟨M46, e45, h⟩ := kOk_b h
              refine k_ist G (dc d_Fl_let 49 rfl) (okL_lt hu (o := 1) 1 rfl) (okL_k hu (o := 1) 1 rfl) (okL_n hu (o := 1) 1 rfl) e45 ?_
              refine k_aload_n G (dc d_Fl_let 50 rfl) 3 rfl rfl ?_
              refine k_iload_n G (dc d_Fl_let 51 rfl) 4 rfl rfl ?_
              refine k_iconst G (dc d_Fl_let 52 rfl) cI_3 ?_
              obtain ⟨x48, e47, h⟩ := kOk_b h
              refine k_cVI G (dc d_Fl_let 53 rfl) kc0 (okL_lt hp0 (o := 0) 0 rfl) (okL_k hp0 (o := 0) 0 rfl) mi_De_number mv_De_number rfl ml_RX1_48 (c_De_number (gst G) hp0 e47) rfl rfl ⟨rfl, rfl⟩ rfl ⟨rfl, rfl⟩ ⟨rfl, rfl⟩ ?_
              exact (kOk_s h) _ _ _ _ rfl rfl rfl (dc d_Fl_let 54 rfl)
      · replace h := kOk_p c10 h
        refine k_iload G (dc d_Fl_let 23 rfl) 0 rfl ?_
        refine kJ h (fun r50 => KK X B L 7 0 0 M 50 [] [.int r50]) (fun r50 h => ?_) (fun h => ?_)
        · obtain ⟨t49, rfl⟩ : ∃ z, z = r50 := ⟨_, rfl⟩
          show KK X B L 7 0 0 M 50 [] [.int t49]
          exact (kOk_s h) _ _ _ _ rfl rfl rfl (dc d_Fl_let 28 rfl)
        · refine k_if_eq G (dc d_Fl_let 24 rfl) (tgt := 49) rfl (fun c51 => ?_) (fun c51 => ?_)
          · replace h := kOk_p c51 h
            refine k_iload_n G (dc d_Fl_let 27 rfl) 4 rfl rfl ?_
            refine k_sub [] rfl ?_
            have h9 := kOk_s h
            exact h9
          · replace h := kOk_n c51 h
            refine k_iconst G (dc d_Fl_let 25 rfl) cI_0 ?_
            refine k_goto G (dc d_Fl_let 26 rfl) (tgt := 50) rfl ?_
            refine k_sub [] rfl ?_
            have h9 := kOk_s h
            exact h9
    · refine k_icmp_ne G (dc d_Fl_let 16 rfl) (tgt := 32) rfl (fun c52 => ?_) (fun c52 => ?_)
      · replace h := kOk_n c52 h
        refine k_iconst G (dc d_Fl_let 19 rfl) cI_0 ?_
        refine k_sub [1, 2, 3, 4, 0] rfl ?_
        have h9 := kOk_s h
        exact h9
      · replace h := kOk_p c52 h
        refine k_iconst G (dc d_Fl_let 17 rfl) cI_1 ?_
        refine k_goto G (dc d_Fl_let 18 rfl) (tgt := 33) rfl ?_
        refine k_sub [1, 2, 3, 4, 0] rfl ?_
        have h9 := kOk_s h
        exact h9
  · replace h := kOk_p c3 h
    refine k_iload_n G (dc d_Fl_let 4 rfl) 3 rfl rfl ?_
    exact (kOk_s h) _ _ _ _ rfl rfl rfl (dc d_Fl_let 5 rfl)
theorem c_Fl_let {l : Launch} {B : KB} {L : KLay} {M : KMem} {u : Nat} {p0 : Nat} {p1 : Int32} {p2 : Int32} (hst : l.stackTraces = false) (hu : okL L u flT) (hp0 : okL L p0 deT) {r : Int32} {M' : KMem} (e : m_Fl_let u p0 p1 p2 M = some (r, M')) : CtrN l B yX1_let cX1_let 7 (some .int) rm_Fl_let [.ref (B.1 + u), .ref (B.1 + p0), .int p1, .int p2] L M (some (.int r)) L M' :=
  mk_I rfl hst rfl (fun X hl G _ R => b_Fl_let G hu hp0 ⟨_, e, R⟩)
def I_Fl_joinedTo : List (Nat × Instr × Nat) := [(0, .iload_n 0, 1), (1, .istore_n 2, 1), (2, .iload_n 1, 1), (3, .invokestatic 21, 3), (6, .istore_n 3, 1), (7, .iconst 0, 1), (8, .istore 4, 2), (10, .iload 4, 2), (12, .bipush 8, 2), (14, .if_icmp .ge 28, 3), (17, .iload_n 3, 1), (18, .ifCond .eq 24, 3), (21, .iload_n 2, 1), (22, .bipush 10, 2), (24, .imul, 1), (25, .iload_n 3, 1), (26, .bipush 10, 2), (28, .irem, 1), (29, .iadd, 1), (30, .istore_n 2, 1), (31, .iload_n 3, 1), (32, .bipush 10, 2), (34, .idiv, 1), (35, .istore_n 3, 1), (36, .iinc 4 1, 3), (39, .goto (-29), 3), (42, .iload_n 2, 1), (43, .ireturn, 1)]
set_option maxRecDepth 100000 in
theorem d_Fl_joinedTo : decA cX1_joinedTo I_Fl_joinedTo = true := by decide +kernel
abbrev rm_Fl_joinedTo : Room := ({ frames := 1, cells := 0, slots := 0, locals := 23 } : Room)
def m_Fl_joinedTo_l10  : (Int32 × Int32 × Int32) → Option ((Int32 × Int32 × Int32) ⊕ Int32) := fun (v2_3, v3_4, v4_5) =>
 if 8 ≤ v4_5 then
 (some (.inr v2_3))
 else
 (if v3_4 = 0 then
 (some (.inr v2_3))
 else
 (some (.inl ((v2_3 * 10) + (jrem v3_4 10), v3_4 / 10, v4_5 + 1))))
def m_Fl_joinedTo (p0 : Int32) (p1 : Int32) : Option Int32 :=
 Option.bind (m_Wo_mirrored p1) fun x2 =>
 Option.bind (α := Int32) (kLp m_Fl_joinedTo_l10 kFU (p0, x2, 0)) fun v2_8 =>
 some v2_8
set_option maxHeartbeats 4000000 in
set_option maxRecDepth 100000 in
theorem b_Fl_joinedTo {X : KX} {B : KB} {L : KLay} {M : KMem} {p0 : Int32} {p1 : Int32} (G : Good X B RX1 cX1_joinedTo 5 rm_Fl_joinedTo)  (h : kOk (m_Fl_joinedTo p0 p1) (fun r => RI X B L 5 cX1_joinedTo .int rm_Fl_joinedTo r M)) : KK X B L 5 0 0 M 0 [(0, .int p0), (1, .int p1)] [] := by
  unfold m_Fl_joinedTo at h
  refine k_iload_n G (dc d_Fl_joinedTo 0 rfl) 0 rfl rfl ?_
  refine k_istore_n G (dc d_Fl_joinedTo 1 rfl) (ls' := [(2, .int p0), (0, .int p0), (1, .int p1)]) rfl rfl rfl ?_
  refine k_iload_n G (dc d_Fl_joinedTo 2 rfl) 2 rfl rfl ?_
  obtain ⟨x2, e1, h⟩ := kOk_b h
  refine k_cSI G (dc d_Fl_joinedTo 3 rfl) mi_Wo_mirrored ms_Wo_mirrored ml_RX1_21 (c_Wo_mirrored (gst G)  e1) rfl rfl ⟨rfl, rfl⟩ rfl ⟨rfl, rfl⟩ ⟨rfl, rfl⟩ ?_
  refine k_istore_n G (dc d_Fl_joinedTo 4 rfl) (ls' := [(3, .int x2), (2, .int p0), (0, .int p0), (1, .int p1)]) rfl rfl rfl ?_
  refine k_iconst G (dc d_Fl_joinedTo 5 rfl) cI_0 ?_
  refine k_istore G (dc d_Fl_joinedTo 6 rfl) (ls' := [(4, .int 0), (3, .int x2), (2, .int p0), (0, .int p0), (1, .int p1)]) rfl rfl ?_
  refine kJ h (fun r9 => KK X B L 5 0 0 M 42 [(2, .int r9)] []) (fun r9 h => ?_) (fun h => ?_)
  · obtain ⟨v2_8, rfl⟩ : ∃ z, z = r9 := ⟨_, rfl⟩
    show KK X B L 5 0 0 M 42 [(2, .int v2_8)] []
    refine k_iload_n G (dc d_Fl_joinedTo 26 rfl) 0 rfl rfl ?_
    exact (kOk_s h) _ _ _ _ rfl rfl rfl (dc d_Fl_joinedTo 27 rfl)
  · refine k_sub [2, 1, 0] rfl ?_
    refine kLp_ok (P := fun s10 => KK X B L 5 0 0 M 10 [(2, .int s10.1), (3, .int s10.2.1), (4, .int s10.2.2)] []) (fun s10 h => ?_) kFU _ h
    obtain ⟨v2_3, v3_4, v4_5⟩ := s10
    unfold m_Fl_joinedTo_l10 at h
    show KK X B L 5 0 0 M 10 [(2, .int v2_3), (3, .int v3_4), (4, .int v4_5)] []
    refine k_iload G (dc d_Fl_joinedTo 7 rfl) 2 rfl ?_
    refine k_bipush G (dc d_Fl_joinedTo 8 rfl) cB_8 ?_
    refine k_icmp_ge G (dc d_Fl_joinedTo 9 rfl) (tgt := 42) rfl (fun c6 => ?_) (fun c6 => ?_)
    · replace h := kOk_p c6 h
      refine k_sub [0] rfl ?_
      have h9 := kOk_s h
      exact h9
    · replace h := kOk_n c6 h
      refine k_iload_n G (dc d_Fl_joinedTo 10 rfl) 1 rfl rfl ?_
      refine k_if_eq G (dc d_Fl_joinedTo 11 rfl) (tgt := 42) rfl (fun c7 => ?_) (fun c7 => ?_)
      · replace h := kOk_p c7 h
        refine k_sub [0] rfl ?_
        have h9 := kOk_s h
        exact h9
      · replace h := kOk_n c7 h
        refine k_iload_n G (dc d_Fl_joinedTo 12 rfl) 0 rfl rfl ?_
        refine k_bipush G (dc d_Fl_joinedTo 13 rfl) cB_10 ?_
        refine k_imul G (dc d_Fl_joinedTo 14 rfl) ?_
        refine k_iload_n G (dc d_Fl_joinedTo 15 rfl) 1 rfl rfl ?_
        refine k_bipush G (dc d_Fl_joinedTo 16 rfl) cB_10 ?_
        refine k_irem G (dc d_Fl_joinedTo 17 rfl) czI_10 ?_
        refine k_iadd G (dc d_Fl_joinedTo 18 rfl) ?_
        refine k_istore_n G (dc d_Fl_joinedTo 19 rfl) (ls' := [(2, .int ((v2_3 * 10) + (jrem v3_4 10))), (3, .int v3_4), (4, .int v4_5)]) rfl rfl rfl ?_
        refine k_iload_n G (dc d_Fl_joinedTo 20 rfl) 1 rfl rfl ?_
        refine k_bipush G (dc d_Fl_joinedTo 21 rfl) cB_10 ?_
        refine k_idiv G (dc d_Fl_joinedTo 22 rfl) czI_10 ?_
        refine k_istore_n G (dc d_Fl_joinedTo 23 rfl) (ls' := [(3, .int (v3_4 / 10)), (2, .int ((v2_3 * 10) + (jrem v3_4 10))), (4, .int v4_5)]) rfl rfl rfl ?_
        refine k_iinc G (dc d_Fl_joinedTo 24 rfl) (ls' := [(4, .int (v4_5 + 1)), (3, .int (v3_4 / 10)), (2, .int ((v2_3 * 10) + (jrem v3_4 10)))]) 2 rfl cI_1 rfl rfl ?_
        refine k_goto G (dc d_Fl_joinedTo 25 rfl) (tgt := 10) rfl ?_
        refine k_sub [2, 1, 0] rfl ?_
        have h9 := kOk_s h
        exact h9
theorem c_Fl_joinedTo {l : Launch} {B : KB} {L : KLay} {M : KMem} {p0 : Int32} {p1 : Int32} (hst : l.stackTraces = false)  {r : Int32} (e : m_Fl_joinedTo p0 p1 = some r) : CtrN l B yX1_joinedTo cX1_joinedTo 5 (some .int) rm_Fl_joinedTo [.int p0, .int p1] L M (some (.int r)) L M :=
  mk_I rfl hst rfl (fun X hl G _ R => b_Fl_joinedTo G  ⟨_, e, R⟩)
def I_Fl_pastDecree : List (Nat × Instr × Nat) := [(0, .iconst 0, 1), (1, .istore 4, 2), (3, .iload_n 3, 1), (4, .invokestatic 21, 3), (7, .istore 5, 2), (9, .iconst 0, 1), (10, .istore 6, 2), (12, .iload 6, 2), (14, .bipush 8, 2), (16, .if_icmp .ge 39, 3), (19, .iload 5, 2), (21, .ifCond .eq 34, 3), (24, .iload 4, 2), (26, .aload_n 0, 1), (27, .aload_n 1, 1), (28, .iload_n 2, 1), (29, .iload 5, 2), (31, .bipush 10, 2), (33, .irem, 1), (34, .invokevirtual 45, 3), (37, .invokestatic 31, 3), (40, .istore 4, 2), (42, .iload 5, 2), (44, .bipush 10, 2), (46, .idiv, 1), (47, .istore 5, 2), (49, .iinc 6 1, 3), (52, .goto (-40), 3), (55, .iload 4, 2), (57, .ireturn, 1)]
set_option maxRecDepth 100000 in
theorem d_Fl_pastDecree : decA cX1_pastDecree I_Fl_pastDecree = true := by decide +kernel
abbrev rm_Fl_pastDecree : Room := ({ frames := 3, cells := 0, slots := 0, locals := 69 } : Room)
def m_Fl_pastDecree_l12 (u : Nat) (p0 : Nat) (p1 : Int32) : (Int32 × Int32 × Int32 × KMem) → Option ((Int32 × Int32 × Int32 × KMem) ⊕ (Int32 × KMem)) := fun (v4_3, v5_4, v6_5, M6) =>
 if 8 ≤ v6_5 then
 (some (.inr (v4_3, M6)))
 else
 (if v5_4 = 0 then
 (some (.inr (v4_3, M6)))
 else
 (Option.bind (m_Fl_let u p0 p1 (jrem v5_4 10) M6) fun (x10, M11) =>
 Option.bind (m_Fl_joinedTo v4_3 x10) fun x13 =>
 some (.inl (x13, v5_4 / 10, v6_5 + 1, M11))))
def m_Fl_pastDecree (u : Nat) (p0 : Nat) (p1 : Int32) (p2 : Int32) (M : KMem) : Option (Int32 × KMem) :=
 Option.bind (m_Wo_mirrored p2) fun x2 =>
 Option.bind (α := Int32 × KMem) (kLp (m_Fl_pastDecree_l12 u p0 p1) kFU (0, x2, 0, M)) fun (v4_14, M15) =>
 some (v4_14, M15)
set_option maxHeartbeats 4000000 in
set_option maxRecDepth 100000 in
theorem b_Fl_pastDecree {X : KX} {B : KB} {L : KLay} {M : KMem} {u : Nat} {p0 : Nat} {p1 : Int32} {p2 : Int32} (G : Good X B RX1 cX1_pastDecree 7 rm_Fl_pastDecree) (hu : okL L u flT) (hp0 : okL L p0 deT) (h : kOk (m_Fl_pastDecree u p0 p1 p2 M) (fun r => RI X B L 7 cX1_pastDecree .int rm_Fl_pastDecree r.1 r.2)) : KK X B L 7 0 0 M 0 [(0, .ref (B.1 + u)), (1, .ref (B.1 + p0)), (2, .int p1), (3, .int p2)] [] := by
  unfold m_Fl_pastDecree at h
  refine k_iconst G (dc d_Fl_pastDecree 0 rfl) cI_0 ?_
  refine k_istore G (dc d_Fl_pastDecree 1 rfl) (ls' := [(4, .int 0), (0, .ref (B.1 + u)), (1, .ref (B.1 + p0)), (2, .int p1), (3, .int p2)]) rfl rfl ?_
  refine k_iload_n G (dc d_Fl_pastDecree 2 rfl) 4 rfl rfl ?_
  obtain ⟨x2, e1, h⟩ := kOk_b h
  refine k_cSI G (dc d_Fl_pastDecree 3 rfl) mi_Wo_mirrored ms_Wo_mirrored ml_RX1_21 (c_Wo_mirrored (gst G)  e1) rfl rfl ⟨rfl, rfl⟩ rfl ⟨rfl, rfl⟩ ⟨rfl, rfl⟩ ?_
  refine k_istore G (dc d_Fl_pastDecree 4 rfl) (ls' := [(5, .int x2), (4, .int 0), (0, .ref (B.1 + u)), (1, .ref (B.1 + p0)), (2, .int p1), (3, .int p2)]) rfl rfl ?_
  refine k_iconst G (dc d_Fl_pastDecree 5 rfl) cI_0 ?_
  refine k_istore G (dc d_Fl_pastDecree 6 rfl) (ls' := [(6, .int 0), (5, .int x2), (4, .int 0), (0, .ref (B.1 + u)), (1, .ref (B.1 + p0)), (2, .int p1), (3, .int p2)]) rfl rfl ?_
  refine kJ h (fun r16 => KK X B L 7 0 0 r16.2 55 [(4, .int r16.1)] []) (fun r16 h => ?_) (fun h => ?_)
  · obtain ⟨v4_14, M15⟩ := r16
    show KK X B L 7 0 0 M15 55 [(4, .int v4_14)] []
    refine k_iload G (dc d_Fl_pastDecree 28 rfl) 0 rfl ?_
    exact (kOk_s h) _ _ _ _ rfl rfl rfl (dc d_Fl_pastDecree 29 rfl)
  · refine k_sub [3, 4, 5, 2, 1, 0] rfl ?_
    refine kLp_ok (P := fun s17 => KK X B L 7 0 0 s17.2.2.2 12 [(0, .ref (B.1 + u)), (1, .ref (B.1 + p0)), (2, .int p1), (4, .int s17.1), (5, .int s17.2.1), (6, .int s17.2.2.1)] []) (fun s17 h => ?_) kFU _ h
    obtain ⟨v4_3, v5_4, v6_5, M6⟩ := s17
    unfold m_Fl_pastDecree_l12 at h
    show KK X B L 7 0 0 M6 12 [(0, .ref (B.1 + u)), (1, .ref (B.1 + p0)), (2, .int p1), (4, .int v4_3), (5, .int v5_4), (6, .int v6_5)] []
    refine k_iload G (dc d_Fl_pastDecree 7 rfl) 5 rfl ?_
    refine k_bipush G (dc d_Fl_pastDecree 8 rfl) cB_8 ?_
    refine k_icmp_ge G (dc d_Fl_pastDecree 9 rfl) (tgt := 55) rfl (fun c7 => ?_) (fun c7 => ?_)
    · replace h := kOk_p c7 h
      refine k_sub [3] rfl ?_
      have h9 := kOk_s h
      exact h9
    · replace h := kOk_n c7 h
      refine k_iload G (dc d_Fl_pastDecree 10 rfl) 4 rfl ?_
      refine k_if_eq G (dc d_Fl_pastDecree 11 rfl) (tgt := 55) rfl (fun c8 => ?_) (fun c8 => ?_)
      · replace h := kOk_p c8 h
        refine k_sub [3] rfl ?_
        have h9 := kOk_s h
        exact h9
      · replace h := kOk_n c8 h
        refine k_iload G (dc d_Fl_pastDecree 12 rfl) 3 rfl ?_
        refine k_aload_n G (dc d_Fl_pastDecree 13 rfl) 0 rfl rfl ?_
        refine k_aload_n G (dc d_Fl_pastDecree 14 rfl) 1 rfl rfl ?_
        refine k_iload_n G (dc d_Fl_pastDecree 15 rfl) 2 rfl rfl ?_
        refine k_iload G (dc d_Fl_pastDecree 16 rfl) 4 rfl ?_
        refine k_bipush G (dc d_Fl_pastDecree 17 rfl) cB_10 ?_
        refine k_irem G (dc d_Fl_pastDecree 18 rfl) czI_10 ?_
        obtain ⟨⟨x10, M11⟩, e9, h⟩ := kOk_b h
        refine k_cVI G (dc d_Fl_pastDecree 19 rfl) kc1 (okL_lt hu (o := 0) 0 rfl) (okL_k hu (o := 0) 0 rfl) mi_Fl_let mv_Fl_let rfl ml_RX1_45 (c_Fl_let (gst G) hu hp0 e9) rfl rfl ⟨rfl, rfl⟩ rfl ⟨rfl, rfl⟩ ⟨rfl, rfl⟩ ?_
        obtain ⟨x13, e12, h⟩ := kOk_b h
        refine k_cSI G (dc d_Fl_pastDecree 20 rfl) mi_Fl_joinedTo ms_Fl_joinedTo ml_RX1_31 (c_Fl_joinedTo (gst G)  e12) rfl rfl ⟨rfl, rfl⟩ rfl ⟨rfl, rfl⟩ ⟨rfl, rfl⟩ ?_
        refine k_istore G (dc d_Fl_pastDecree 21 rfl) (ls' := [(4, .int x13), (0, .ref (B.1 + u)), (1, .ref (B.1 + p0)), (2, .int p1), (5, .int v5_4), (6, .int v6_5)]) rfl rfl ?_
        refine k_iload G (dc d_Fl_pastDecree 22 rfl) 4 rfl ?_
        refine k_bipush G (dc d_Fl_pastDecree 23 rfl) cB_10 ?_
        refine k_idiv G (dc d_Fl_pastDecree 24 rfl) czI_10 ?_
        refine k_istore G (dc d_Fl_pastDecree 25 rfl) (ls' := [(5, .int (v5_4 / 10)), (4, .int x13), (0, .ref (B.1 + u)), (1, .ref (B.1 + p0)), (2, .int p1), (6, .int v6_5)]) rfl rfl ?_
        refine k_iinc G (dc d_Fl_pastDecree 26 rfl) (ls' := [(6, .int (v6_5 + 1)), (5, .int (v5_4 / 10)), (4, .int x13), (0, .ref (B.1 + u)), (1, .ref (B.1 + p0)), (2, .int p1)]) 5 rfl cI_1 rfl rfl ?_
        refine k_goto G (dc d_Fl_pastDecree 27 rfl) (tgt := 12) rfl ?_
        refine k_sub [3, 4, 5, 2, 1, 0] rfl ?_
        have h9 := kOk_s h
        exact h9
theorem c_Fl_pastDecree {l : Launch} {B : KB} {L : KLay} {M : KMem} {u : Nat} {p0 : Nat} {p1 : Int32} {p2 : Int32} (hst : l.stackTraces = false) (hu : okL L u flT) (hp0 : okL L p0 deT) {r : Int32} {M' : KMem} (e : m_Fl_pastDecree u p0 p1 p2 M = some (r, M')) : CtrN l B yX1_pastDecree cX1_pastDecree 7 (some .int) rm_Fl_pastDecree [.ref (B.1 + u), .ref (B.1 + p0), .int p1, .int p2] L M (some (.int r)) L M' :=
  mk_I rfl hst rfl (fun X hl G _ R => b_Fl_pastDecree G hu hp0 ⟨_, e, R⟩)
def I_Fl_through : List (Nat × Instr × Nat) := [(0, .iload_n 2, 1), (1, .istore 4, 2), (3, .iconst 0, 1), (4, .istore 5, 2), (6, .iload 5, 2), (8, .bipush 10, 2), (10, .if_icmp .ge 47, 3), (13, .aload_n 1, 1), (14, .iload 5, 2), (16, .invokevirtual 35, 3), (19, .ifCond .eq 38, 3), (22, .aload_n 0, 1), (23, .aload_n 1, 1), (24, .iload 5, 2), (26, .iload 4, 2), (28, .invokevirtual 41, 3), (31, .istore 4, 2), (33, .iload_n 3, 1), (34, .ifCond .eq 17, 3), (37, .iload 4, 2), (39, .aload_n 0, 1), (40, .getfield 9, 3), (43, .iload 5, 2), (45, .iaload, 1), (46, .invokestatic 31, 3), (49, .istore 4, 2), (51, .iinc 5 1, 3), (54, .goto (-48), 3), (57, .iload 4, 2), (59, .ireturn, 1)]
set_option maxRecDepth 100000 in
theorem d_Fl_through : decA cX1_through I_Fl_through = true := by decide +kernel
abbrev rm_Fl_through : Room := ({ frames := 4, cells := 0, slots := 0, locals := 95 } : Room)
def m_Fl_through_l6 (u : Nat) (p0 : Nat) (p2 : Int32) : (Int32 × Int32 × KMem) → Option ((Int32 × Int32 × KMem) ⊕ (Int32 × KMem)) := fun (v4_1, v5_2, M3) =>
 if 10 ≤ v5_2 then
 (some (.inr (v4_1, M3)))
 else
 (Option.bind (m_De_has p0 v5_2 M3) fun x6 =>
 if x6 = 0 then
 (some (.inr (v4_1, M3)))
 else
 (Option.bind (m_Fl_pastDecree u p0 v5_2 v4_1 M3) fun (x9, M10) =>
 Option.bind (α := Int32) (if p2 = 0 then
 (some x9)
 else
 (Option.bind (rdI M10 (u + 1) 10 v5_2) fun x15 =>
 Option.bind (m_Fl_joinedTo x9 x15) fun x17 =>
 some x17)) fun v4_11 =>
 some (.inl (v4_11, v5_2 + 1, M10))))
def m_Fl_through (u : Nat) (p0 : Nat) (p1 : Int32) (p2 : Int32) (M : KMem) : Option (Int32 × KMem) :=
 Option.bind (α := Int32 × KMem) (kLp (m_Fl_through_l6 u p0 p2) kFU (p1, 0, M)) fun (v4_18, M19) =>
 some (v4_18, M19)
set_option maxHeartbeats 4000000 in
set_option maxRecDepth 100000 in
theorem b_Fl_through {X : KX} {B : KB} {L : KLay} {M : KMem} {u : Nat} {p0 : Nat} {p1 : Int32} {p2 : Int32} (G : Good X B RX1 cX1_through 6 rm_Fl_through) (hu : okL L u flT) (hp0 : okL L p0 deT) (h : kOk (m_Fl_through u p0 p1 p2 M) (fun r => RI X B L 6 cX1_through .int rm_Fl_through r.1 r.2)) : KK X B L 6 0 0 M 0 [(0, .ref (B.1 + u)), (1, .ref (B.1 + p0)), (2, .int p1), (3, .int p2)] [] := by
  unfold m_Fl_through at h
  refine k_iload_n G (dc d_Fl_through 0 rfl) 2 rfl rfl ?_
  refine k_istore G (dc d_Fl_through 1 rfl) (ls' := [(4, .int p1), (0, .ref (B.1 + u)), (1, .ref (B.1 + p0)), (2, .int p1), (3, .int p2)]) rfl rfl ?_
  refine k_iconst G (dc d_Fl_through 2 rfl) cI_0 ?_
  refine k_istore G (dc d_Fl_through 3 rfl) (ls' := [(5, .int 0), (4, .int p1), (0, .ref (B.1 + u)), (1, .ref (B.1 + p0)), (2, .int p1), (3, .int p2)]) rfl rfl ?_
  refine kJ h (fun r20 => KK X B L 6 0 0 r20.2 57 [(4, .int r20.1)] []) (fun r20 h => ?_) (fun h => ?_)
  · obtain ⟨v4_18, M19⟩ := r20
    show KK X B L 6 0 0 M19 57 [(4, .int v4_18)] []
    refine k_iload G (dc d_Fl_through 28 rfl) 0 rfl ?_
    exact (kOk_s h) _ _ _ _ rfl rfl rfl (dc d_Fl_through 29 rfl)
  · refine k_sub [2, 3, 5, 1, 0] rfl ?_
    refine kLp_ok (P := fun s21 => KK X B L 6 0 0 s21.2.2 6 [(0, .ref (B.1 + u)), (1, .ref (B.1 + p0)), (3, .int p2), (4, .int s21.1), (5, .int s21.2.1)] []) (fun s21 h => ?_) kFU _ h
    obtain ⟨v4_1, v5_2, M3⟩ := s21
    unfold m_Fl_through_l6 at h
    show KK X B L 6 0 0 M3 6 [(0, .ref (B.1 + u)), (1, .ref (B.1 + p0)), (3, .int p2), (4, .int v4_1), (5, .int v5_2)] []
    refine k_iload G (dc d_Fl_through 4 rfl) 4 rfl ?_
    refine k_bipush G (dc d_Fl_through 5 rfl) cB_10 ?_
    refine k_icmp_ge G (dc d_Fl_through 6 rfl) (tgt := 57) rfl (fun c4 => ?_) (fun c4 => ?_)
    · replace h := kOk_p c4 h
      refine k_sub [3] rfl ?_
      have h9 := kOk_s h
      exact h9
    · replace h := kOk_n c4 h
      refine k_aload_n G (dc d_Fl_through 7 rfl) 1 rfl rfl ?_
      refine k_iload G (dc d_Fl_through 8 rfl) 4 rfl ?_
      obtain ⟨x6, e5, h⟩ := kOk_b h
      refine k_cVI G (dc d_Fl_through 9 rfl) kc0 (okL_lt hp0 (o := 0) 0 rfl) (okL_k hp0 (o := 0) 0 rfl) mi_De_has mv_De_has rfl ml_RX1_35 (c_De_has (gst G) hp0 e5) rfl rfl ⟨rfl, rfl⟩ rfl ⟨rfl, rfl⟩ ⟨rfl, rfl⟩ ?_
      refine k_if_eq G (dc d_Fl_through 10 rfl) (tgt := 57) rfl (fun c7 => ?_) (fun c7 => ?_)
      · replace h := kOk_p c7 h
        refine k_sub [3] rfl ?_
        have h9 := kOk_s h
        exact h9
      · replace h := kOk_n c7 h
        refine k_aload_n G (dc d_Fl_through 11 rfl) 0 rfl rfl ?_
        refine k_aload_n G (dc d_Fl_through 12 rfl) 1 rfl rfl ?_
        refine k_iload G (dc d_Fl_through 13 rfl) 4 rfl ?_
        refine k_iload G (dc d_Fl_through 14 rfl) 3 rfl ?_
        obtain ⟨⟨x9, M10⟩, e8, h⟩ := kOk_b h
        refine k_cVI G (dc d_Fl_through 15 rfl) kc1 (okL_lt hu (o := 0) 0 rfl) (okL_k hu (o := 0) 0 rfl) mi_Fl_pastDecree mv_Fl_pastDecree rfl ml_RX1_41 (c_Fl_pastDecree (gst G) hu hp0 e8) rfl rfl ⟨rfl, rfl⟩ rfl ⟨rfl, rfl⟩ ⟨rfl, rfl⟩ ?_
        refine k_istore G (dc d_Fl_through 16 rfl) (ls' := [(4, .int x9), (0, .ref (B.1 + u)), (1, .ref (B.1 + p0)), (3, .int p2), (5, .int v5_2)]) rfl rfl ?_
        refine k_iload_n G (dc d_Fl_through 17 rfl) 3 rfl rfl ?_
        refine kJ h (fun r12 => KK X B L 6 0 0 M10 51 [(0, .ref (B.1 + u)), (1, .ref (B.1 + p0)), (3, .int p2), (4, .int r12), (5, .int v5_2)] []) (fun r12 h => ?_) (fun h => ?_)
        · obtain ⟨v4_11, rfl⟩ : ∃ z, z = r12 := ⟨_, rfl⟩
          show KK X B L 6 0 0 M10 51 [(0, .ref (B.1 + u)), (1, .ref (B.1 + p0)), (3, .int p2), (4, .int v4_11), (5, .int v5_2)] []
          refine k_iinc G (dc d_Fl_through 26 rfl) (ls' := [(5, .int (v5_2 + 1)), (0, .ref (B.1 + u)), (1, .ref (B.1 + p0)), (3, .int p2), (4, .int v4_11)]) 4 rfl cI_1 rfl rfl ?_
          refine k_goto G (dc d_Fl_through 27 rfl) (tgt := 6) rfl ?_
          refine k_sub [1, 2, 3, 4, 0] rfl ?_
          have h9 := kOk_s h
          exact h9
        · refine k_if_eq G (dc d_Fl_through 18 rfl) (tgt := 51) rfl (fun c13 => ?_) (fun c13 => ?_)
          · replace h := kOk_p c13 h
            refine k_sub [1, 2, 3, 0, 4] rfl ?_
            have h9 := kOk_s h
            exact h9
          · replace h := kOk_n c13 h
            refine k_iload G (dc d_Fl_through 19 rfl) 0 rfl ?_
            refine k_aload_n G (dc d_Fl_through 20 rfl) 1 rfl rfl ?_
            refine k_getR G kc1 (dc d_Fl_through 21 rfl) (okL_lt hu (o := 0) 0 rfl) (okL_k hu (o := 0) 0 rfl) 0 (by decide) rfl fl_RX1_9 (u + 1) (okL_r hu (o := 0) (c := 1) 0 rfl 0 rfl) ?_
            refine k_iload G (dc d_Fl_through 22 rfl) 4 rfl ?_
            obtain ⟨x15, e14, h⟩ := kOk_b h
            refine k_ild G (dc d_Fl_through 23 rfl) (okL_lt hu (o := 1) 1 rfl) (okL_k hu (o := 1) 1 rfl) (okL_n hu (o := 1) 1 rfl) e14 ?_
            obtain ⟨x17, e16, h⟩ := kOk_b h
            refine k_cSI G (dc d_Fl_through 24 rfl) mi_Fl_joinedTo ms_Fl_joinedTo ml_RX1_31 (c_Fl_joinedTo (gst G)  e16) rfl rfl ⟨rfl, rfl⟩ rfl ⟨rfl, rfl⟩ ⟨rfl, rfl⟩ ?_
            refine k_istore G (dc d_Fl_through 25 rfl) (ls' := [(4, .int x17), (0, .ref (B.1 + u)), (1, .ref (B.1 + p0)), (3, .int p2), (5, .int v5_2)]) rfl rfl ?_
            refine k_sub [1, 2, 3, 0, 4] rfl ?_
            have h9 := kOk_s h
            exact h9
theorem c_Fl_through {l : Launch} {B : KB} {L : KLay} {M : KMem} {u : Nat} {p0 : Nat} {p1 : Int32} {p2 : Int32} (hst : l.stackTraces = false) (hu : okL L u flT) (hp0 : okL L p0 deT) {r : Int32} {M' : KMem} (e : m_Fl_through u p0 p1 p2 M = some (r, M')) : CtrN l B yX1_through cX1_through 6 (some .int) rm_Fl_through [.ref (B.1 + u), .ref (B.1 + p0), .int p1, .int p2] L M (some (.int r)) L M' :=
  mk_I rfl hst rfl (fun X hl G _ R => b_Fl_through G hu hp0 ⟨_, e, R⟩)
def I_Fl_spellingOf : List (Nat × Instr × Nat) := [(0, .aload_n 0, 1), (1, .getfield 9, 3), (4, .iconst 0, 1), (5, .invokestatic 15, 3), (8, .iconst 0, 1), (9, .istore_n 3, 1), (10, .iload_n 2, 1), (11, .invokestatic 21, 3), (14, .istore 4, 2), (16, .iconst 0, 1), (17, .istore 5, 2), (19, .iload 5, 2), (21, .bipush 8, 2), (23, .if_icmp .ge 37, 3), (26, .iload 4, 2), (28, .ifCond .eq 32, 3), (31, .iload_n 3, 1), (32, .aload_n 0, 1), (33, .aload_n 1, 1), (34, .iload 4, 2), (36, .bipush 10, 2), (38, .irem, 1), (39, .iconst 0, 1), (40, .invokevirtual 27, 3), (43, .invokestatic 31, 3), (46, .istore_n 3, 1), (47, .iload 4, 2), (49, .bipush 10, 2), (51, .idiv, 1), (52, .istore 4, 2), (54, .iinc 5 1, 3), (57, .goto (-38), 3), (60, .iload_n 3, 1), (61, .aload_n 0, 1), (62, .aload_n 1, 1), (63, .iconst 0, 1), (64, .iconst 1, 1), (65, .invokevirtual 27, 3), (68, .invokestatic 31, 3), (71, .ireturn, 1)]
set_option maxRecDepth 100000 in
theorem d_Fl_spellingOf : decA cX1_spellingOf I_Fl_spellingOf = true := by decide +kernel
abbrev rm_Fl_spellingOf : Room := ({ frames := 5, cells := 0, slots := 0, locals := 120 } : Room)
def m_Fl_spellingOf_l19 (u : Nat) (p0 : Nat) : (Int32 × Int32 × Int32 × KMem) → Option ((Int32 × Int32 × Int32 × KMem) ⊕ (Int32 × KMem)) := fun (v3_5, v4_6, v5_7, M8) =>
 if 8 ≤ v5_7 then
 (some (.inr (v3_5, M8)))
 else
 (if v4_6 = 0 then
 (some (.inr (v3_5, M8)))
 else
 (Option.bind (m_Fl_through u p0 (jrem v4_6 10) 0 M8) fun (x12, M13) =>
 Option.bind (m_Fl_joinedTo v3_5 x12) fun x15 =>
 some (.inl (x15, v4_6 / 10, v5_7 + 1, M13))))
def m_Fl_spellingOf (u : Nat) (p0 : Nat) (p1 : Int32) (M : KMem) : Option (Int32 × KMem) :=
 Option.bind (m_Ar_fillI (u + 1) 10 0 M) fun M2 =>
 Option.bind (m_Wo_mirrored p1) fun x4 =>
 Option.bind (α := Int32 × KMem) (kLp (m_Fl_spellingOf_l19 u p0) kFU (0, x4, 0, M2)) fun (v3_16, M17) =>
 Option.bind (m_Fl_through u p0 0 1 M17) fun (x19, M20) =>
 Option.bind (m_Fl_joinedTo v3_16 x19) fun x22 =>
 some (x22, M20)
set_option maxHeartbeats 4000000 in
set_option maxRecDepth 100000 in
theorem b_Fl_spellingOf {X : KX} {B : KB} {L : KLay} {M : KMem} {u : Nat} {p0 : Nat} {p1 : Int32} (G : Good X B RX1 cX1_spellingOf 6 rm_Fl_spellingOf) (hu : okL L u flT) (hp0 : okL L p0 deT) (h : kOk (m_Fl_spellingOf u p0 p1 M) (fun r => RI X B L 6 cX1_spellingOf .int rm_Fl_spellingOf r.1 r.2)) : KK X B L 6 0 0 M 0 [(0, .ref (B.1 + u)), (1, .ref (B.1 + p0)), (2, .int p1)] [] := by
  unfold m_Fl_spellingOf at h
  refine k_aload_n G (dc d_Fl_spellingOf 0 rfl) 0 rfl rfl ?_
  refine k_getR G kc1 (dc d_Fl_spellingOf 1 rfl) (okL_lt hu (o := 0) 0 rfl) (okL_k hu (o := 0) 0 rfl) 0 (by decide) rfl fl_RX1_9 (u + 1) (okL_r hu (o := 0) (c := 1) 0 rfl 0 rfl) ?_
  refine k_iconst G (dc d_Fl_spellingOf 2 rfl) cI_0 ?_
  obtain ⟨M2, e1, h⟩ := kOk_b h
  refine k_cSV G (dc d_Fl_spellingOf 3 rfl) mi_Ar_fillI ms_Ar_fillI ml_RX1_15 (c_Ar_fillI (gst G) (okL_a hu (o := 1) 1 rfl) e1) rfl rfl ⟨rfl, rfl⟩ rfl ⟨rfl, rfl⟩ ⟨rfl, rfl⟩ ?_
  refine k_iconst G (dc d_Fl_spellingOf 4 rfl) cI_0 ?_
  refine k_istore_n G (dc d_Fl_spellingOf 5 rfl) (ls' := [(3, .int 0), (0, .ref (B.1 + u)), (1, .ref (B.1 + p0)), (2, .int p1)]) rfl rfl rfl ?_
  refine k_iload_n G (dc d_Fl_spellingOf 6 rfl) 3 rfl rfl ?_
  obtain ⟨x4, e3, h⟩ := kOk_b h
  refine k_cSI G (dc d_Fl_spellingOf 7 rfl) mi_Wo_mirrored ms_Wo_mirrored ml_RX1_21 (c_Wo_mirrored (gst G)  e3) rfl rfl ⟨rfl, rfl⟩ rfl ⟨rfl, rfl⟩ ⟨rfl, rfl⟩ ?_
  refine k_istore G (dc d_Fl_spellingOf 8 rfl) (ls' := [(4, .int x4), (3, .int 0), (0, .ref (B.1 + u)), (1, .ref (B.1 + p0)), (2, .int p1)]) rfl rfl ?_
  refine k_iconst G (dc d_Fl_spellingOf 9 rfl) cI_0 ?_
  refine k_istore G (dc d_Fl_spellingOf 10 rfl) (ls' := [(5, .int 0), (4, .int x4), (3, .int 0), (0, .ref (B.1 + u)), (1, .ref (B.1 + p0)), (2, .int p1)]) rfl rfl ?_
  refine kJ h (fun r23 => KK X B L 6 0 0 r23.2 60 [(0, .ref (B.1 + u)), (1, .ref (B.1 + p0)), (3, .int r23.1)] []) (fun r23 h => ?_) (fun h => ?_)
  · obtain ⟨v3_16, M17⟩ := r23
    show KK X B L 6 0 0 M17 60 [(0, .ref (B.1 + u)), (1, .ref (B.1 + p0)), (3, .int v3_16)] []
    refine k_iload_n G (dc d_Fl_spellingOf 32 rfl) 2 rfl rfl ?_
    refine k_aload_n G (dc d_Fl_spellingOf 33 rfl) 0 rfl rfl ?_
    refine k_aload_n G (dc d_Fl_spellingOf 34 rfl) 1 rfl rfl ?_
    refine k_iconst G (dc d_Fl_spellingOf 35 rfl) cI_0 ?_
    refine k_iconst G (dc d_Fl_spellingOf 36 rfl) cI_1 ?_
    obtain ⟨⟨x19, M20⟩, e18, h⟩ := kOk_b h
    refine k_cVI G (dc d_Fl_spellingOf 37 rfl) kc1 (okL_lt hu (o := 0) 0 rfl) (okL_k hu (o := 0) 0 rfl) mi_Fl_through mv_Fl_through rfl ml_RX1_27 (c_Fl_through (gst G) hu hp0 e18) rfl rfl ⟨rfl, rfl⟩ rfl ⟨rfl, rfl⟩ ⟨rfl, rfl⟩ ?_
    obtain ⟨x22, e21, h⟩ := kOk_b h
    refine k_cSI G (dc d_Fl_spellingOf 38 rfl) mi_Fl_joinedTo ms_Fl_joinedTo ml_RX1_31 (c_Fl_joinedTo (gst G)  e21) rfl rfl ⟨rfl, rfl⟩ rfl ⟨rfl, rfl⟩ ⟨rfl, rfl⟩ ?_
    exact (kOk_s h) _ _ _ _ rfl rfl rfl (dc d_Fl_spellingOf 39 rfl)
  · refine k_sub [3, 4, 2, 1, 0] rfl ?_
    refine kLp_ok (P := fun s24 => KK X B L 6 0 0 s24.2.2.2 19 [(0, .ref (B.1 + u)), (1, .ref (B.1 + p0)), (3, .int s24.1), (4, .int s24.2.1), (5, .int s24.2.2.1)] []) (fun s24 h => ?_) kFU _ h
    obtain ⟨v3_5, v4_6, v5_7, M8⟩ := s24
    unfold m_Fl_spellingOf_l19 at h
    show KK X B L 6 0 0 M8 19 [(0, .ref (B.1 + u)), (1, .ref (B.1 + p0)), (3, .int v3_5), (4, .int v4_6), (5, .int v5_7)] []
    refine k_iload G (dc d_Fl_spellingOf 11 rfl) 4 rfl ?_
    refine k_bipush G (dc d_Fl_spellingOf 12 rfl) cB_8 ?_
    refine k_icmp_ge G (dc d_Fl_spellingOf 13 rfl) (tgt := 60) rfl (fun c9 => ?_) (fun c9 => ?_)
    · replace h := kOk_p c9 h
      refine k_sub [0, 1, 2] rfl ?_
      have h9 := kOk_s h
      exact h9
    · replace h := kOk_n c9 h
      refine k_iload G (dc d_Fl_spellingOf 14 rfl) 3 rfl ?_
      refine k_if_eq G (dc d_Fl_spellingOf 15 rfl) (tgt := 60) rfl (fun c10 => ?_) (fun c10 => ?_)
      · replace h := kOk_p c10 h
        refine k_sub [0, 1, 2] rfl ?_
        have h9 := kOk_s h
        exact h9
      · replace h := kOk_n c10 h
        refine k_iload_n G (dc d_Fl_spellingOf 16 rfl) 2 rfl rfl ?_
        refine k_aload_n G (dc d_Fl_spellingOf 17 rfl) 0 rfl rfl ?_
        refine k_aload_n G (dc d_Fl_spellingOf 18 rfl) 1 rfl rfl ?_
        refine k_iload G (dc d_Fl_spellingOf 19 rfl) 3 rfl ?_
        refine k_bipush G (dc d_Fl_spellingOf 20 rfl) cB_10 ?_
        refine k_irem G (dc d_Fl_spellingOf 21 rfl) czI_10 ?_
        refine k_iconst G (dc d_Fl_spellingOf 22 rfl) cI_0 ?_
        obtain ⟨⟨x12, M13⟩, e11, h⟩ := kOk_b h
        refine k_cVI G (dc d_Fl_spellingOf 23 rfl) kc1 (okL_lt hu (o := 0) 0 rfl) (okL_k hu (o := 0) 0 rfl) mi_Fl_through mv_Fl_through rfl ml_RX1_27 (c_Fl_through (gst G) hu hp0 e11) rfl rfl ⟨rfl, rfl⟩ rfl ⟨rfl, rfl⟩ ⟨rfl, rfl⟩ ?_
        obtain ⟨x15, e14, h⟩ := kOk_b h
        refine k_cSI G (dc d_Fl_spellingOf 24 rfl) mi_Fl_joinedTo ms_Fl_joinedTo ml_RX1_31 (c_Fl_joinedTo (gst G)  e14) rfl rfl ⟨rfl, rfl⟩ rfl ⟨rfl, rfl⟩ ⟨rfl, rfl⟩ ?_
        refine k_istore_n G (dc d_Fl_spellingOf 25 rfl) (ls' := [(3, .int x15), (0, .ref (B.1 + u)), (1, .ref (B.1 + p0)), (4, .int v4_6), (5, .int v5_7)]) rfl rfl rfl ?_
        refine k_iload G (dc d_Fl_spellingOf 26 rfl) 3 rfl ?_
        refine k_bipush G (dc d_Fl_spellingOf 27 rfl) cB_10 ?_
        refine k_idiv G (dc d_Fl_spellingOf 28 rfl) czI_10 ?_
        refine k_istore G (dc d_Fl_spellingOf 29 rfl) (ls' := [(4, .int (v4_6 / 10)), (3, .int x15), (0, .ref (B.1 + u)), (1, .ref (B.1 + p0)), (5, .int v5_7)]) rfl rfl ?_
        refine k_iinc G (dc d_Fl_spellingOf 30 rfl) (ls' := [(5, .int (v5_7 + 1)), (4, .int (v4_6 / 10)), (3, .int x15), (0, .ref (B.1 + u)), (1, .ref (B.1 + p0))]) 4 rfl cI_1 rfl rfl ?_
        refine k_goto G (dc d_Fl_spellingOf 31 rfl) (tgt := 19) rfl ?_
        refine k_sub [3, 4, 2, 1, 0] rfl ?_
        have h9 := kOk_s h
        exact h9
theorem c_Fl_spellingOf {l : Launch} {B : KB} {L : KLay} {M : KMem} {u : Nat} {p0 : Nat} {p1 : Int32} (hst : l.stackTraces = false) (hu : okL L u flT) (hp0 : okL L p0 deT) {r : Int32} {M' : KMem} (e : m_Fl_spellingOf u p0 p1 M = some (r, M')) : CtrN l B yX1_spellingOf cX1_spellingOf 6 (some .int) rm_Fl_spellingOf [.ref (B.1 + u), .ref (B.1 + p0), .int p1] L M (some (.int r)) L M' :=
  mk_I rfl hst rfl (fun X hl G _ R => b_Fl_spellingOf G hu hp0 ⟨_, e, R⟩)
