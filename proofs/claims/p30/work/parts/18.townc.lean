/-! laid by wip/p30/g30.py: Tw_signsOfGuild, Tw_numberOfTown, Tw_numberOfSign, Tw_numberOfGuild -/
def I_Tw_signsOfGuild : List (Nat × Instr × Nat) := [(0, .iconst 0, 1), (1, .istore_n 3, 1), (2, .iconst 0, 1), (3, .istore 4, 2), (5, .iload 4, 2), (7, .bipush 8, 2), (9, .if_icmp .ge 48, 3), (12, .aload_n 0, 1), (13, .iload 4, 2), (15, .invokevirtual 40, 3), (18, .ifCond .eq 39, 3), (21, .aload_n 0, 1), (22, .getfield 12, 3), (25, .getfield 79, 3), (28, .iload 4, 2), (30, .iaload, 1), (31, .iload_n 1, 1), (32, .if_icmp .ne 19, 3), (35, .iload_n 2, 1), (36, .ifCond .eq 12, 3), (39, .aload_n 0, 1), (40, .iload 4, 2), (42, .invokevirtual 151, 3), (45, .ifCond .eq 6, 3), (48, .iinc 3 1, 3), (51, .iinc 4 1, 3), (54, .goto (-49), 3), (57, .iload_n 3, 1), (58, .ireturn, 1)]
set_option maxRecDepth 100000 in
theorem d_Tw_signsOfGuild : decA cX8_signsOfGuild I_Tw_signsOfGuild = true := by decide +kernel
abbrev rm_Tw_signsOfGuild : Room := ({ frames := 2, cells := 0, slots := 0, locals := 42 } : Room)
def m_Tw_signsOfGuild_l5 (u : Nat) (p0 : Int32) (p1 : Int32) (M : KMem) : (Int32 × Int32) → Option ((Int32 × Int32) ⊕ Int32) := fun (v3_1, v4_2) =>
 if 8 ≤ v4_2 then
 (some (.inr v3_1))
 else
 (Option.bind (m_Tw_hasSign u v4_2 M) fun x5 =>
 if x5 = 0 then
 (some (.inr v3_1))
 else
 (Option.bind (rdI M (u + 4) 8 v4_2) fun x8 =>
 Option.bind (α := Int32) (if x8 = p0 then
 (if p1 = 0 then
 (some (v3_1 + 1))
 else
 (Option.bind (m_Tw_isWrong u v4_2 M) fun x14 =>
 if x14 = 0 then
 (some v3_1)
 else
 (some (v3_1 + 1))))
 else
 (some v3_1)) fun v3_9 =>
 some (.inl (v3_9, v4_2 + 1))))
def m_Tw_signsOfGuild (u : Nat) (p0 : Int32) (p1 : Int32) (M : KMem) : Option Int32 :=
 Option.bind (α := Int32) (kLp (m_Tw_signsOfGuild_l5 u p0 p1 M) kFU (0, 0)) fun v3_16 =>
 some v3_16
set_option maxHeartbeats 4000000 in
set_option maxRecDepth 100000 in
theorem b_Tw_signsOfGuild {X : KX} {B : KB} {L : KLay} {M : KMem} {u : Nat} {p0 : Int32} {p1 : Int32} (G : Good X B RX8 cX8_signsOfGuild 5 rm_Tw_signsOfGuild) (hu : okL L u twT) (h : kOk (m_Tw_signsOfGuild u p0 p1 M) (fun r => RI X B L 5 cX8_signsOfGuild .int rm_Tw_signsOfGuild r M)) : KK X B L 5 0 0 M 0 [(0, .ref (B.1 + u)), (1, .int p0), (2, .int p1)] [] := by
  unfold m_Tw_signsOfGuild at h
  refine k_iconst G (dc d_Tw_signsOfGuild 0 rfl) cI_0 ?_
  refine k_istore_n G (dc d_Tw_signsOfGuild 1 rfl) (ls' := [(3, .int 0), (0, .ref (B.1 + u)), (1, .int p0), (2, .int p1)]) rfl rfl rfl ?_
  refine k_iconst G (dc d_Tw_signsOfGuild 2 rfl) cI_0 ?_
  refine k_istore G (dc d_Tw_signsOfGuild 3 rfl) (ls' := [(4, .int 0), (3, .int 0), (0, .ref (B.1 + u)), (1, .int p0), (2, .int p1)]) rfl rfl ?_
  refine kJ h (fun r17 => KK X B L 5 0 0 M 57 [(3, .int r17)] []) (fun r17 h => ?_) (fun h => ?_)
  · obtain ⟨v3_16, rfl⟩ : ∃ z, z = r17 := ⟨_, rfl⟩
    show KK X B L 5 0 0 M 57 [(3, .int v3_16)] []
    refine k_iload_n G (dc d_Tw_signsOfGuild 27 rfl) 0 rfl rfl ?_
    exact (kOk_s h) _ _ _ _ rfl rfl rfl (dc d_Tw_signsOfGuild 28 rfl)
  · refine k_sub [2, 3, 4, 1, 0] rfl ?_
    refine kLp_ok (P := fun s18 => KK X B L 5 0 0 M 5 [(0, .ref (B.1 + u)), (1, .int p0), (2, .int p1), (3, .int s18.1), (4, .int s18.2)] []) (fun s18 h => ?_) kFU _ h
    obtain ⟨v3_1, v4_2⟩ := s18
    unfold m_Tw_signsOfGuild_l5 at h
    show KK X B L 5 0 0 M 5 [(0, .ref (B.1 + u)), (1, .int p0), (2, .int p1), (3, .int v3_1), (4, .int v4_2)] []
    refine k_iload G (dc d_Tw_signsOfGuild 4 rfl) 4 rfl ?_
    refine k_bipush G (dc d_Tw_signsOfGuild 5 rfl) cB_8 ?_
    refine k_icmp_ge G (dc d_Tw_signsOfGuild 6 rfl) (tgt := 57) rfl (fun c3 => ?_) (fun c3 => ?_)
    · replace h := kOk_p c3 h
      refine k_sub [3] rfl ?_
      have h9 := kOk_s h
      exact h9
    · replace h := kOk_n c3 h
      refine k_aload_n G (dc d_Tw_signsOfGuild 7 rfl) 0 rfl rfl ?_
      refine k_iload G (dc d_Tw_signsOfGuild 8 rfl) 4 rfl ?_
      obtain ⟨x5, e4, h⟩ := kOk_b h
      refine k_cVI G (dc d_Tw_signsOfGuild 9 rfl) kc6 (okL_lt hu (o := 0) 0 rfl) (okL_k hu (o := 0) 0 rfl) mi_Tw_hasSign mv_Tw_hasSign rfl ml_RX8_40 (c_Tw_hasSign (gst G) hu e4) rfl rfl ⟨rfl, rfl⟩ rfl ⟨rfl, rfl⟩ ⟨rfl, rfl⟩ ?_
      refine k_if_eq G (dc d_Tw_signsOfGuild 10 rfl) (tgt := 57) rfl (fun c6 => ?_) (fun c6 => ?_)
      · replace h := kOk_p c6 h
        refine k_sub [3] rfl ?_
        have h9 := kOk_s h
        exact h9
      · replace h := kOk_n c6 h
        refine k_aload_n G (dc d_Tw_signsOfGuild 11 rfl) 0 rfl rfl ?_
        refine k_getR G kc6 (dc d_Tw_signsOfGuild 12 rfl) (okL_lt hu (o := 0) 0 rfl) (okL_k hu (o := 0) 0 rfl) 0 (by decide) rfl fl_RX8_12 (u + 1) (okL_r hu (o := 0) (c := 1) 0 rfl 0 rfl) ?_
        refine k_getR G kc5 (dc d_Tw_signsOfGuild 13 rfl) (okL_lt hu (o := 1) 1 rfl) (okL_k hu (o := 1) 1 rfl) 2 (by decide) rfl fl_RX8_79 (u + 4) (okL_r hu (o := 1) (c := 4) 1 rfl 1 rfl) ?_
        refine k_iload G (dc d_Tw_signsOfGuild 14 rfl) 4 rfl ?_
        obtain ⟨x8, e7, h⟩ := kOk_b h
        refine k_ild G (dc d_Tw_signsOfGuild 15 rfl) (okL_lt hu (o := 4) 4 rfl) (okL_k hu (o := 4) 4 rfl) (okL_n hu (o := 4) 4 rfl) e7 ?_
        refine k_iload_n G (dc d_Tw_signsOfGuild 16 rfl) 1 rfl rfl ?_
        refine kJ h (fun r10 => KK X B L 5 0 0 M 51 [(0, .ref (B.1 + u)), (1, .int p0), (2, .int p1), (3, .int r10), (4, .int v4_2)] []) (fun r10 h => ?_) (fun h => ?_)
        · obtain ⟨v3_9, rfl⟩ : ∃ z, z = r10 := ⟨_, rfl⟩
          show KK X B L 5 0 0 M 51 [(0, .ref (B.1 + u)), (1, .int p0), (2, .int p1), (3, .int v3_9), (4, .int v4_2)] []
          refine k_iinc G (dc d_Tw_signsOfGuild 25 rfl) (ls' := [(4, .int (v4_2 + 1)), (0, .ref (B.1 + u)), (1, .int p0), (2, .int p1), (3, .int v3_9)]) 4 rfl cI_1 rfl rfl ?_
          refine k_goto G (dc d_Tw_signsOfGuild 26 rfl) (tgt := 5) rfl ?_
          refine k_sub [1, 2, 3, 4, 0] rfl ?_
          have h9 := kOk_s h
          exact h9
        · refine k_icmp_ne G (dc d_Tw_signsOfGuild 17 rfl) (tgt := 51) rfl (fun c11 => ?_) (fun c11 => ?_)
          · replace h := kOk_n c11 h
            have h9 := kOk_s h
            exact h9
          · replace h := kOk_p c11 h
            refine k_iload_n G (dc d_Tw_signsOfGuild 18 rfl) 2 rfl rfl ?_
            refine k_if_eq G (dc d_Tw_signsOfGuild 19 rfl) (tgt := 48) rfl (fun c12 => ?_) (fun c12 => ?_)
            · replace h := kOk_p c12 h
              refine k_iinc G (dc d_Tw_signsOfGuild 24 rfl) (ls' := [(3, .int (v3_1 + 1)), (0, .ref (B.1 + u)), (1, .int p0), (2, .int p1), (4, .int v4_2)]) 3 rfl cI_1 rfl rfl ?_
              refine k_sub [1, 2, 3, 0, 4] rfl ?_
              have h9 := kOk_s h
              exact h9
            · replace h := kOk_n c12 h
              refine k_aload_n G (dc d_Tw_signsOfGuild 20 rfl) 0 rfl rfl ?_
              refine k_iload G (dc d_Tw_signsOfGuild 21 rfl) 4 rfl ?_
              obtain ⟨x14, e13, h⟩ := kOk_b h
              refine k_cVI G (dc d_Tw_signsOfGuild 22 rfl) kc6 (okL_lt hu (o := 0) 0 rfl) (okL_k hu (o := 0) 0 rfl) mi_Tw_isWrong mv_Tw_isWrong rfl ml_RX8_151 (c_Tw_isWrong (gst G) hu e13) rfl rfl ⟨rfl, rfl⟩ rfl ⟨rfl, rfl⟩ ⟨rfl, rfl⟩ ?_
              refine k_if_eq G (dc d_Tw_signsOfGuild 23 rfl) (tgt := 51) rfl (fun c15 => ?_) (fun c15 => ?_)
              · replace h := kOk_p c15 h
                have h9 := kOk_s h
                exact h9
              · replace h := kOk_n c15 h
                refine k_iinc G (dc d_Tw_signsOfGuild 24 rfl) (ls' := [(3, .int (v3_1 + 1)), (0, .ref (B.1 + u)), (1, .int p0), (2, .int p1), (4, .int v4_2)]) 3 rfl cI_1 rfl rfl ?_
                refine k_sub [1, 2, 3, 0, 4] rfl ?_
                have h9 := kOk_s h
                exact h9
theorem c_Tw_signsOfGuild {l : Launch} {B : KB} {L : KLay} {M : KMem} {u : Nat} {p0 : Int32} {p1 : Int32} (hst : l.stackTraces = false) (hu : okL L u twT) {r : Int32} (e : m_Tw_signsOfGuild u p0 p1 M = some r) : CtrN l B yX8_signsOfGuild cX8_signsOfGuild 5 (some .int) rm_Tw_signsOfGuild [.ref (B.1 + u), .int p0, .int p1] L M (some (.int r)) L M :=
  mk_I rfl hst rfl (fun X hl G _ R => b_Tw_signsOfGuild G hu ⟨_, e, R⟩)
def I_Tw_numberOfTown : List (Nat × Instr × Nat) := [(0, .iload_n 1, 1), (1, .tableswitch 148 0 10 #[59, 67, 78, 83, 91, 99, 107, 112, 123, 131, 143], 59), (60, .aload_n 0, 1), (61, .getfield 12, 3), (64, .getfield 36, 3), (67, .ireturn, 1), (68, .aload_n 0, 1), (69, .getfield 12, 3), (72, .getfield 64, 3), (75, .getfield 176, 3), (78, .ireturn, 1), (79, .aload_n 0, 1), (80, .invokevirtual 163, 3), (83, .ireturn, 1), (84, .aload_n 0, 1), (85, .getfield 12, 3), (88, .getfield 96, 3), (91, .ireturn, 1), (92, .aload_n 0, 1), (93, .getfield 12, 3), (96, .getfield 145, 3), (99, .ireturn, 1), (100, .aload_n 0, 1), (101, .getfield 12, 3), (104, .getfield 157, 3), (107, .ireturn, 1), (108, .aload_n 0, 1), (109, .invokevirtual 142, 3), (112, .ireturn, 1), (113, .aload_n 0, 1), (114, .getfield 12, 3), (117, .getfield 135, 3), (120, .invokestatic 166, 3), (123, .ireturn, 1), (124, .aload_n 0, 1), (125, .getfield 12, 3), (128, .getfield 129, 3), (131, .ireturn, 1), (132, .aload_n 0, 1), (133, .aload_n 0, 1), (134, .getfield 12, 3), (137, .getfield 61, 3), (140, .invokevirtual 170, 3), (143, .ireturn, 1), (144, .aload_n 0, 1), (145, .invokevirtual 179, 3), (148, .ireturn, 1), (149, .aload_n 0, 1), (150, .invokevirtual 182, 3), (153, .ireturn, 1)]
set_option maxRecDepth 100000 in
theorem d_Tw_numberOfTown : decA cX8_numberOfTown I_Tw_numberOfTown = true := by decide +kernel
abbrev rm_Tw_numberOfTown : Room := ({ frames := 6, cells := 0, slots := 0, locals := 137 } : Room)
def m_Tw_numberOfTown (u : Nat) (p0 : Int32) (M : KMem) : Option (Int32 × KMem) :=
 if p0 = 0 then
 (some (M (u + 1) 1, M))
 else
 (if p0 = 1 then
 (some (M (u + 2) 0, M))
 else
 (if p0 = 2 then
 (Option.bind (m_Tw_wrongSigns u M) fun x15 =>
 some (x15, M))
 else
 (if p0 = 3 then
 (some (M (u + 1) 11, M))
 else
 (if p0 = 4 then
 (some (M (u + 1) 12, M))
 else
 (if p0 = 5 then
 (some (M (u + 1) 13, M))
 else
 (if p0 = 6 then
 (Option.bind (m_Tw_allFines u M) fun x21 =>
 some (x21, M))
 else
 (if p0 = 7 then
 (Option.bind (m_Tw_sum (u + 11) 4 M) fun x24 =>
 some (x24, M))
 else
 (if p0 = 8 then
 (some (M (u + 1) 14, M))
 else
 (if p0 = 9 then
 (Option.bind (m_Tw_lettersOf u (u + 5) 8 M) fun x28 =>
 some (x28, M))
 else
 (if p0 = 10 then
 (Option.bind (m_Tw_lettersOfRights u M) fun x31 =>
 some (x31, M))
 else
 (Option.bind (m_Tw_costOfAll u M) fun (x34, M35) =>
 some (x34, M35))))))))))))
set_option maxHeartbeats 4000000 in
set_option maxRecDepth 100000 in
theorem b_Tw_numberOfTown {X : KX} {B : KB} {L : KLay} {M : KMem} {u : Nat} {p0 : Int32} (G : Good X B RX8 cX8_numberOfTown 2 rm_Tw_numberOfTown) (hu : okL L u twT) (h : kOk (m_Tw_numberOfTown u p0 M) (fun r => RI X B L 2 cX8_numberOfTown .int rm_Tw_numberOfTown r.1 r.2)) : KK X B L 2 0 0 M 0 [(0, .ref (B.1 + u)), (1, .int p0)] [] := by
  unfold m_Tw_numberOfTown at h
  refine k_iload_n G (dc d_Tw_numberOfTown 0 rfl) 1 rfl rfl ?_
  by_cases c1 : p0 = 0
  · replace h := kOk_p c1 h
    refine k_tsI G (dc d_Tw_numberOfTown 1 rfl) (off := 59) (tgt := 60) c1 (by decide) (by decide) (by decide) (by decide) ?_
    refine k_aload_n G (dc d_Tw_numberOfTown 2 rfl) 0 rfl rfl ?_
    refine k_getR G kc6 (dc d_Tw_numberOfTown 3 rfl) (okL_lt hu (o := 0) 0 rfl) (okL_k hu (o := 0) 0 rfl) 0 (by decide) rfl fl_RX8_12 (u + 1) (okL_r hu (o := 0) (c := 1) 0 rfl 0 rfl) ?_
    refine k_getI G kc5 (dc d_Tw_numberOfTown 4 rfl) (okL_lt hu (o := 1) 1 rfl) (okL_k hu (o := 1) 1 rfl) 1 (by decide) rfl fl_RX8_36 ?_
    exact (kOk_s h) _ _ _ _ rfl rfl rfl (dc d_Tw_numberOfTown 5 rfl)
  · replace h := kOk_n c1 h
    by_cases c2 : p0 = 1
    · replace h := kOk_p c2 h
      refine k_tsI G (dc d_Tw_numberOfTown 1 rfl) (off := 67) (tgt := 68) c2 (by decide) (by decide) (by decide) (by decide) ?_
      refine k_aload_n G (dc d_Tw_numberOfTown 6 rfl) 0 rfl rfl ?_
      refine k_getR G kc6 (dc d_Tw_numberOfTown 7 rfl) (okL_lt hu (o := 0) 0 rfl) (okL_k hu (o := 0) 0 rfl) 0 (by decide) rfl fl_RX8_12 (u + 1) (okL_r hu (o := 0) (c := 1) 0 rfl 0 rfl) ?_
      refine k_getR G kc5 (dc d_Tw_numberOfTown 8 rfl) (okL_lt hu (o := 1) 1 rfl) (okL_k hu (o := 1) 1 rfl) 0 (by decide) rfl fl_RX8_64 (u + 2) (okL_r hu (o := 1) (c := 2) 1 rfl 0 rfl) ?_
      refine k_getIN G kc0 (dc d_Tw_numberOfTown 9 rfl) (okL_lt hu (o := 2) 2 rfl) (okL_k hu (o := 2) 2 rfl) 0 (by decide) rfl fl_RX8_176 ?_
      exact (kOk_s h) _ _ _ _ rfl rfl rfl (dc d_Tw_numberOfTown 10 rfl)
    · replace h := kOk_n c2 h
      by_cases c3 : p0 = 2
      · replace h := kOk_p c3 h
        refine k_tsI G (dc d_Tw_numberOfTown 1 rfl) (off := 78) (tgt := 79) c3 (by decide) (by decide) (by decide) (by decide) ?_
        refine k_aload_n G (dc d_Tw_numberOfTown 11 rfl) 0 rfl rfl ?_
        obtain ⟨x15, e14, h⟩ := kOk_b h
        refine k_cVI G (dc d_Tw_numberOfTown 12 rfl) kc6 (okL_lt hu (o := 0) 0 rfl) (okL_k hu (o := 0) 0 rfl) mi_Tw_wrongSigns mv_Tw_wrongSigns rfl ml_RX8_163 (c_Tw_wrongSigns (gst G) hu e14) rfl rfl ⟨rfl, rfl⟩ rfl ⟨rfl, rfl⟩ ⟨rfl, rfl⟩ ?_
        exact (kOk_s h) _ _ _ _ rfl rfl rfl (dc d_Tw_numberOfTown 13 rfl)
      · replace h := kOk_n c3 h
        by_cases c4 : p0 = 3
        · replace h := kOk_p c4 h
          refine k_tsI G (dc d_Tw_numberOfTown 1 rfl) (off := 83) (tgt := 84) c4 (by decide) (by decide) (by decide) (by decide) ?_
          refine k_aload_n G (dc d_Tw_numberOfTown 14 rfl) 0 rfl rfl ?_
          refine k_getR G kc6 (dc d_Tw_numberOfTown 15 rfl) (okL_lt hu (o := 0) 0 rfl) (okL_k hu (o := 0) 0 rfl) 0 (by decide) rfl fl_RX8_12 (u + 1) (okL_r hu (o := 0) (c := 1) 0 rfl 0 rfl) ?_
          refine k_getI G kc5 (dc d_Tw_numberOfTown 16 rfl) (okL_lt hu (o := 1) 1 rfl) (okL_k hu (o := 1) 1 rfl) 11 (by decide) rfl fl_RX8_96 ?_
          exact (kOk_s h) _ _ _ _ rfl rfl rfl (dc d_Tw_numberOfTown 17 rfl)
        · replace h := kOk_n c4 h
          by_cases c5 : p0 = 4
          · replace h := kOk_p c5 h
            refine k_tsI G (dc d_Tw_numberOfTown 1 rfl) (off := 91) (tgt := 92) c5 (by decide) (by decide) (by decide) (by decide) ?_
            refine k_aload_n G (dc d_Tw_numberOfTown 18 rfl) 0 rfl rfl ?_
            refine k_getR G kc6 (dc d_Tw_numberOfTown 19 rfl) (okL_lt hu (o := 0) 0 rfl) (okL_k hu (o := 0) 0 rfl) 0 (by decide) rfl fl_RX8_12 (u + 1) (okL_r hu (o := 0) (c := 1) 0 rfl 0 rfl) ?_
            refine k_getI G kc5 (dc d_Tw_numberOfTown 20 rfl) (okL_lt hu (o := 1) 1 rfl) (okL_k hu (o := 1) 1 rfl) 12 (by decide) rfl fl_RX8_145 ?_
            exact (kOk_s h) _ _ _ _ rfl rfl rfl (dc d_Tw_numberOfTown 21 rfl)
          · replace h := kOk_n c5 h
            by_cases c6 : p0 = 5
            · replace h := kOk_p c6 h
              refine k_tsI G (dc d_Tw_numberOfTown 1 rfl) (off := 99) (tgt := 100) c6 (by decide) (by decide) (by decide) (by decide) ?_
              refine k_aload_n G (dc d_Tw_numberOfTown 22 rfl) 0 rfl rfl ?_
              refine k_getR G kc6 (dc d_Tw_numberOfTown 23 rfl) (okL_lt hu (o := 0) 0 rfl) (okL_k hu (o := 0) 0 rfl) 0 (by decide) rfl fl_RX8_12 (u + 1) (okL_r hu (o := 0) (c := 1) 0 rfl 0 rfl) ?_
              refine k_getI G kc5 (dc d_Tw_numberOfTown 24 rfl) (okL_lt hu (o := 1) 1 rfl) (okL_k hu (o := 1) 1 rfl) 13 (by decide) rfl fl_RX8_157 ?_
              exact (kOk_s h) _ _ _ _ rfl rfl rfl (dc d_Tw_numberOfTown 25 rfl)
            · replace h := kOk_n c6 h
              by_cases c7 : p0 = 6
              · replace h := kOk_p c7 h
                refine k_tsI G (dc d_Tw_numberOfTown 1 rfl) (off := 107) (tgt := 108) c7 (by decide) (by decide) (by decide) (by decide) ?_
                refine k_aload_n G (dc d_Tw_numberOfTown 26 rfl) 0 rfl rfl ?_
                obtain ⟨x21, e20, h⟩ := kOk_b h
                refine k_cVI G (dc d_Tw_numberOfTown 27 rfl) kc6 (okL_lt hu (o := 0) 0 rfl) (okL_k hu (o := 0) 0 rfl) mi_Tw_allFines mv_Tw_allFines rfl ml_RX8_142 (c_Tw_allFines (gst G) hu e20) rfl rfl ⟨rfl, rfl⟩ rfl ⟨rfl, rfl⟩ ⟨rfl, rfl⟩ ?_
                exact (kOk_s h) _ _ _ _ rfl rfl rfl (dc d_Tw_numberOfTown 28 rfl)
              · replace h := kOk_n c7 h
                by_cases c8 : p0 = 7
                · replace h := kOk_p c8 h
                  refine k_tsI G (dc d_Tw_numberOfTown 1 rfl) (off := 112) (tgt := 113) c8 (by decide) (by decide) (by decide) (by decide) ?_
                  refine k_aload_n G (dc d_Tw_numberOfTown 29 rfl) 0 rfl rfl ?_
                  refine k_getR G kc6 (dc d_Tw_numberOfTown 30 rfl) (okL_lt hu (o := 0) 0 rfl) (okL_k hu (o := 0) 0 rfl) 0 (by decide) rfl fl_RX8_12 (u + 1) (okL_r hu (o := 0) (c := 1) 0 rfl 0 rfl) ?_
                  refine k_getR G kc5 (dc d_Tw_numberOfTown 31 rfl) (okL_lt hu (o := 1) 1 rfl) (okL_k hu (o := 1) 1 rfl) 9 (by decide) rfl fl_RX8_135 (u + 11) (okL_r hu (o := 1) (c := 11) 1 rfl 8 rfl) ?_
                  obtain ⟨x24, e23, h⟩ := kOk_b h
                  refine k_cSI G (dc d_Tw_numberOfTown 32 rfl) mi_Tw_sum ms_Tw_sum ml_RX8_166 (c_Tw_sum (gst G) (okL_a hu (o := 11) 11 rfl) e23) rfl rfl ⟨rfl, rfl⟩ rfl ⟨rfl, rfl⟩ ⟨rfl, rfl⟩ ?_
                  exact (kOk_s h) _ _ _ _ rfl rfl rfl (dc d_Tw_numberOfTown 33 rfl)
                · replace h := kOk_n c8 h
                  by_cases c9 : p0 = 8
                  · replace h := kOk_p c9 h
                    refine k_tsI G (dc d_Tw_numberOfTown 1 rfl) (off := 123) (tgt := 124) c9 (by decide) (by decide) (by decide) (by decide) ?_
                    refine k_aload_n G (dc d_Tw_numberOfTown 34 rfl) 0 rfl rfl ?_
                    refine k_getR G kc6 (dc d_Tw_numberOfTown 35 rfl) (okL_lt hu (o := 0) 0 rfl) (okL_k hu (o := 0) 0 rfl) 0 (by decide) rfl fl_RX8_12 (u + 1) (okL_r hu (o := 0) (c := 1) 0 rfl 0 rfl) ?_
                    refine k_getI G kc5 (dc d_Tw_numberOfTown 36 rfl) (okL_lt hu (o := 1) 1 rfl) (okL_k hu (o := 1) 1 rfl) 14 (by decide) rfl fl_RX8_129 ?_
                    exact (kOk_s h) _ _ _ _ rfl rfl rfl (dc d_Tw_numberOfTown 37 rfl)
                  · replace h := kOk_n c9 h
                    by_cases c10 : p0 = 9
                    · replace h := kOk_p c10 h
                      refine k_tsI G (dc d_Tw_numberOfTown 1 rfl) (off := 131) (tgt := 132) c10 (by decide) (by decide) (by decide) (by decide) ?_
                      refine k_aload_n G (dc d_Tw_numberOfTown 38 rfl) 0 rfl rfl ?_
                      refine k_aload_n G (dc d_Tw_numberOfTown 39 rfl) 0 rfl rfl ?_
                      refine k_getR G kc6 (dc d_Tw_numberOfTown 40 rfl) (okL_lt hu (o := 0) 0 rfl) (okL_k hu (o := 0) 0 rfl) 0 (by decide) rfl fl_RX8_12 (u + 1) (okL_r hu (o := 0) (c := 1) 0 rfl 0 rfl) ?_
                      refine k_getR G kc5 (dc d_Tw_numberOfTown 41 rfl) (okL_lt hu (o := 1) 1 rfl) (okL_k hu (o := 1) 1 rfl) 3 (by decide) rfl fl_RX8_61 (u + 5) (okL_r hu (o := 1) (c := 5) 1 rfl 2 rfl) ?_
                      obtain ⟨x28, e27, h⟩ := kOk_b h
                      refine k_cVI G (dc d_Tw_numberOfTown 42 rfl) kc6 (okL_lt hu (o := 0) 0 rfl) (okL_k hu (o := 0) 0 rfl) mi_Tw_lettersOf mv_Tw_lettersOf rfl ml_RX8_170 (c_Tw_lettersOf (gst G) hu (okL_a hu (o := 5) 5 rfl) e27) rfl rfl ⟨rfl, rfl⟩ rfl ⟨rfl, rfl⟩ ⟨rfl, rfl⟩ ?_
                      exact (kOk_s h) _ _ _ _ rfl rfl rfl (dc d_Tw_numberOfTown 43 rfl)
                    · replace h := kOk_n c10 h
                      by_cases c11 : p0 = 10
                      · replace h := kOk_p c11 h
                        refine k_tsI G (dc d_Tw_numberOfTown 1 rfl) (off := 143) (tgt := 144) c11 (by decide) (by decide) (by decide) (by decide) ?_
                        refine k_aload_n G (dc d_Tw_numberOfTown 44 rfl) 0 rfl rfl ?_
                        obtain ⟨x31, e30, h⟩ := kOk_b h
                        refine k_cVI G (dc d_Tw_numberOfTown 45 rfl) kc6 (okL_lt hu (o := 0) 0 rfl) (okL_k hu (o := 0) 0 rfl) mi_Tw_lettersOfRights mv_Tw_lettersOfRights rfl ml_RX8_179 (c_Tw_lettersOfRights (gst G) hu e30) rfl rfl ⟨rfl, rfl⟩ rfl ⟨rfl, rfl⟩ ⟨rfl, rfl⟩ ?_
                        exact (kOk_s h) _ _ _ _ rfl rfl rfl (dc d_Tw_numberOfTown 46 rfl)
                      · replace h := kOk_n c11 h
                        have hD36 : KK X B L 2 0 0 M 149 [(0, .ref (B.1 + u)), (1, .int p0)] [] := by
                          refine k_aload_n G (dc d_Tw_numberOfTown 47 rfl) 0 rfl rfl ?_
                          obtain ⟨⟨x34, M35⟩, e33, h⟩ := kOk_b h
                          refine k_cVI G (dc d_Tw_numberOfTown 48 rfl) kc6 (okL_lt hu (o := 0) 0 rfl) (okL_k hu (o := 0) 0 rfl) mi_Tw_costOfAll mv_Tw_costOfAll rfl ml_RX8_182 (c_Tw_costOfAll (gst G) hu e33) rfl rfl ⟨rfl, rfl⟩ rfl ⟨rfl, rfl⟩ ⟨rfl, rfl⟩ ?_
                          exact (kOk_s h) _ _ _ _ rfl rfl rfl (dc d_Tw_numberOfTown 49 rfl)
                        rcases ts_out p0 0 10 with ho | ⟨k9, h91, h92, h93⟩
                        · exact k_tableOut G (dc d_Tw_numberOfTown 1 rfl) (tgt := 149) ho rfl hD36
                        · have h94 : k9 = 0 ∨ k9 = 1 ∨ k9 = 2 ∨ k9 = 3 ∨ k9 = 4 ∨ k9 = 5 ∨ k9 = 6 ∨ k9 = 7 ∨ k9 = 8 ∨ k9 = 9 ∨ k9 = 10 := by omega
                          rcases h94 with rfl | rfl | rfl | rfl | rfl | rfl | rfl | rfl | rfl | rfl | rfl
                          · exact absurd (h93.trans cI_0) c1
                          · exact absurd (h93.trans cI_1) c2
                          · exact absurd (h93.trans cI_2) c3
                          · exact absurd (h93.trans cI_3) c4
                          · exact absurd (h93.trans cI_4) c5
                          · exact absurd (h93.trans cI_5) c6
                          · exact absurd (h93.trans cI_6) c7
                          · exact absurd (h93.trans cI_7) c8
                          · exact absurd (h93.trans cI_8) c9
                          · exact absurd (h93.trans cI_9) c10
                          · exact absurd (h93.trans cI_10) c11
theorem c_Tw_numberOfTown {l : Launch} {B : KB} {L : KLay} {M : KMem} {u : Nat} {p0 : Int32} (hst : l.stackTraces = false) (hu : okL L u twT) {r : Int32} {M' : KMem} (e : m_Tw_numberOfTown u p0 M = some (r, M')) : CtrN l B yX8_numberOfTown cX8_numberOfTown 2 (some .int) rm_Tw_numberOfTown [.ref (B.1 + u), .int p0] L M (some (.int r)) L M' :=
  mk_I rfl hst rfl (fun X hl G _ R => b_Tw_numberOfTown G hu ⟨_, e, R⟩)
def I_Tw_numberOfSign : List (Nat × Instr × Nat) := [(0, .aload_n 0, 1), (1, .iload_n 1, 1), (2, .invokevirtual 40, 3), (5, .ifCond .ne 5, 3), (8, .iconst 0, 1), (9, .ireturn, 1), (10, .iload_n 2, 1), (11, .tableswitch 107 0 6 #[41, 51, 61, 71, 85, 91, 97], 41), (52, .aload_n 0, 1), (53, .getfield 12, 3), (56, .getfield 79, 3), (59, .iload_n 1, 1), (60, .iaload, 1), (61, .ireturn, 1), (62, .aload_n 0, 1), (63, .getfield 12, 3), (66, .getfield 61, 3), (69, .iload_n 1, 1), (70, .iaload, 1), (71, .ireturn, 1), (72, .aload_n 0, 1), (73, .getfield 12, 3), (76, .getfield 44, 3), (79, .iload_n 1, 1), (80, .iaload, 1), (81, .ireturn, 1), (82, .aload_n 0, 1), (83, .iload_n 1, 1), (84, .invokevirtual 151, 3), (87, .ifCond .eq 7, 3), (90, .iconst 1, 1), (91, .goto 4, 3), (94, .iconst 0, 1), (95, .ireturn, 1), (96, .aload_n 0, 1), (97, .iload_n 1, 1), (98, .invokevirtual 54, 3), (101, .ireturn, 1), (102, .aload_n 0, 1), (103, .iload_n 1, 1), (104, .invokevirtual 132, 3), (107, .ireturn, 1), (108, .aload_n 0, 1), (109, .getfield 12, 3), (112, .getfield 82, 3), (115, .iload_n 1, 1), (116, .iaload, 1), (117, .ireturn, 1), (118, .aload_n 0, 1), (119, .getfield 12, 3), (122, .getfield 85, 3), (125, .iload_n 1, 1), (126, .iaload, 1), (127, .ireturn, 1)]
set_option maxRecDepth 100000 in
theorem d_Tw_numberOfSign : decA cX8_numberOfSign I_Tw_numberOfSign = true := by decide +kernel
abbrev rm_Tw_numberOfSign : Room := ({ frames := 5, cells := 0, slots := 0, locals := 115 } : Room)
def m_Tw_numberOfSign (u : Nat) (p0 : Int32) (p1 : Int32) (M : KMem) : Option (Int32 × KMem) :=
 Option.bind (m_Tw_hasSign u p0 M) fun x2 =>
 if x2 = 0 then
 (some (0, M))
 else
 (if p1 = 0 then
 (Option.bind (rdI M (u + 4) 8 p0) fun x12 =>
 some (x12, M))
 else
 (if p1 = 1 then
 (Option.bind (rdI M (u + 5) 8 p0) fun x15 =>
 some (x15, M))
 else
 (if p1 = 2 then
 (Option.bind (rdI M (u + 6) 8 p0) fun x18 =>
 some (x18, M))
 else
 (if p1 = 3 then
 (Option.bind (m_Tw_isWrong u p0 M) fun x21 =>
 Option.bind (α := Int32) (if x21 = 0 then
 (some 0)
 else
 (some 1)) fun t22 =>
 some (t22, M))
 else
 (if p1 = 4 then
 (Option.bind (m_Tw_lettersWrong u p0 M) fun (x27, M28) =>
 some (x27, M28))
 else
 (if p1 = 5 then
 (Option.bind (m_Tw_costOf u p0 M) fun (x31, M32) =>
 some (x31, M32))
 else
 (if p1 = 6 then
 (Option.bind (rdI M (u + 8) 8 p0) fun x35 =>
 some (x35, M))
 else
 (Option.bind (rdI M (u + 9) 8 p0) fun x38 =>
 some (x38, M)))))))))
set_option maxHeartbeats 4000000 in
set_option maxRecDepth 100000 in
theorem b_Tw_numberOfSign {X : KX} {B : KB} {L : KLay} {M : KMem} {u : Nat} {p0 : Int32} {p1 : Int32} (G : Good X B RX8 cX8_numberOfSign 3 rm_Tw_numberOfSign) (hu : okL L u twT) (h : kOk (m_Tw_numberOfSign u p0 p1 M) (fun r => RI X B L 3 cX8_numberOfSign .int rm_Tw_numberOfSign r.1 r.2)) : KK X B L 3 0 0 M 0 [(0, .ref (B.1 + u)), (1, .int p0), (2, .int p1)] [] := by
  unfold m_Tw_numberOfSign at h
  refine k_aload_n G (dc d_Tw_numberOfSign 0 rfl) 0 rfl rfl ?_
  refine k_iload_n G (dc d_Tw_numberOfSign 1 rfl) 1 rfl rfl ?_
  obtain ⟨x2, e1, h⟩ := kOk_b h
  refine k_cVI G (dc d_Tw_numberOfSign 2 rfl) kc6 (okL_lt hu (o := 0) 0 rfl) (okL_k hu (o := 0) 0 rfl) mi_Tw_hasSign mv_Tw_hasSign rfl ml_RX8_40 (c_Tw_hasSign (gst G) hu e1) rfl rfl ⟨rfl, rfl⟩ rfl ⟨rfl, rfl⟩ ⟨rfl, rfl⟩ ?_
  refine k_if_ne G (dc d_Tw_numberOfSign 3 rfl) (tgt := 10) rfl (fun c3 => ?_) (fun c3 => ?_)
  · replace h := kOk_n c3 h
    refine k_iload_n G (dc d_Tw_numberOfSign 6 rfl) 2 rfl rfl ?_
    by_cases c4 : p1 = 0
    · replace h := kOk_p c4 h
      refine k_tsI G (dc d_Tw_numberOfSign 7 rfl) (off := 41) (tgt := 52) c4 (by decide) (by decide) (by decide) (by decide) ?_
      refine k_aload_n G (dc d_Tw_numberOfSign 8 rfl) 0 rfl rfl ?_
      refine k_getR G kc6 (dc d_Tw_numberOfSign 9 rfl) (okL_lt hu (o := 0) 0 rfl) (okL_k hu (o := 0) 0 rfl) 0 (by decide) rfl fl_RX8_12 (u + 1) (okL_r hu (o := 0) (c := 1) 0 rfl 0 rfl) ?_
      refine k_getR G kc5 (dc d_Tw_numberOfSign 10 rfl) (okL_lt hu (o := 1) 1 rfl) (okL_k hu (o := 1) 1 rfl) 2 (by decide) rfl fl_RX8_79 (u + 4) (okL_r hu (o := 1) (c := 4) 1 rfl 1 rfl) ?_
      refine k_iload_n G (dc d_Tw_numberOfSign 11 rfl) 1 rfl rfl ?_
      obtain ⟨x12, e11, h⟩ := kOk_b h
      refine k_ild G (dc d_Tw_numberOfSign 12 rfl) (okL_lt hu (o := 4) 4 rfl) (okL_k hu (o := 4) 4 rfl) (okL_n hu (o := 4) 4 rfl) e11 ?_
      exact (kOk_s h) _ _ _ _ rfl rfl rfl (dc d_Tw_numberOfSign 13 rfl)
    · replace h := kOk_n c4 h
      by_cases c5 : p1 = 1
      · replace h := kOk_p c5 h
        refine k_tsI G (dc d_Tw_numberOfSign 7 rfl) (off := 51) (tgt := 62) c5 (by decide) (by decide) (by decide) (by decide) ?_
        refine k_aload_n G (dc d_Tw_numberOfSign 14 rfl) 0 rfl rfl ?_
        refine k_getR G kc6 (dc d_Tw_numberOfSign 15 rfl) (okL_lt hu (o := 0) 0 rfl) (okL_k hu (o := 0) 0 rfl) 0 (by decide) rfl fl_RX8_12 (u + 1) (okL_r hu (o := 0) (c := 1) 0 rfl 0 rfl) ?_
        refine k_getR G kc5 (dc d_Tw_numberOfSign 16 rfl) (okL_lt hu (o := 1) 1 rfl) (okL_k hu (o := 1) 1 rfl) 3 (by decide) rfl fl_RX8_61 (u + 5) (okL_r hu (o := 1) (c := 5) 1 rfl 2 rfl) ?_
        refine k_iload_n G (dc d_Tw_numberOfSign 17 rfl) 1 rfl rfl ?_
        obtain ⟨x15, e14, h⟩ := kOk_b h
        refine k_ild G (dc d_Tw_numberOfSign 18 rfl) (okL_lt hu (o := 5) 5 rfl) (okL_k hu (o := 5) 5 rfl) (okL_n hu (o := 5) 5 rfl) e14 ?_
        exact (kOk_s h) _ _ _ _ rfl rfl rfl (dc d_Tw_numberOfSign 19 rfl)
      · replace h := kOk_n c5 h
        by_cases c6 : p1 = 2
        · replace h := kOk_p c6 h
          refine k_tsI G (dc d_Tw_numberOfSign 7 rfl) (off := 61) (tgt := 72) c6 (by decide) (by decide) (by decide) (by decide) ?_
          refine k_aload_n G (dc d_Tw_numberOfSign 20 rfl) 0 rfl rfl ?_
          refine k_getR G kc6 (dc d_Tw_numberOfSign 21 rfl) (okL_lt hu (o := 0) 0 rfl) (okL_k hu (o := 0) 0 rfl) 0 (by decide) rfl fl_RX8_12 (u + 1) (okL_r hu (o := 0) (c := 1) 0 rfl 0 rfl) ?_
          refine k_getR G kc5 (dc d_Tw_numberOfSign 22 rfl) (okL_lt hu (o := 1) 1 rfl) (okL_k hu (o := 1) 1 rfl) 4 (by decide) rfl fl_RX8_44 (u + 6) (okL_r hu (o := 1) (c := 6) 1 rfl 3 rfl) ?_
          refine k_iload_n G (dc d_Tw_numberOfSign 23 rfl) 1 rfl rfl ?_
          obtain ⟨x18, e17, h⟩ := kOk_b h
          refine k_ild G (dc d_Tw_numberOfSign 24 rfl) (okL_lt hu (o := 6) 6 rfl) (okL_k hu (o := 6) 6 rfl) (okL_n hu (o := 6) 6 rfl) e17 ?_
          exact (kOk_s h) _ _ _ _ rfl rfl rfl (dc d_Tw_numberOfSign 25 rfl)
        · replace h := kOk_n c6 h
          by_cases c7 : p1 = 3
          · replace h := kOk_p c7 h
            refine k_tsI G (dc d_Tw_numberOfSign 7 rfl) (off := 71) (tgt := 82) c7 (by decide) (by decide) (by decide) (by decide) ?_
            refine k_aload_n G (dc d_Tw_numberOfSign 26 rfl) 0 rfl rfl ?_
            refine k_iload_n G (dc d_Tw_numberOfSign 27 rfl) 1 rfl rfl ?_
            obtain ⟨x21, e20, h⟩ := kOk_b h
            refine k_cVI G (dc d_Tw_numberOfSign 28 rfl) kc6 (okL_lt hu (o := 0) 0 rfl) (okL_k hu (o := 0) 0 rfl) mi_Tw_isWrong mv_Tw_isWrong rfl ml_RX8_151 (c_Tw_isWrong (gst G) hu e20) rfl rfl ⟨rfl, rfl⟩ rfl ⟨rfl, rfl⟩ ⟨rfl, rfl⟩ ?_
            refine kJ h (fun r23 => KK X B L 3 0 0 M 95 [] [.int r23]) (fun r23 h => ?_) (fun h => ?_)
            · obtain ⟨t22, rfl⟩ : ∃ z, z = r23 := ⟨_, rfl⟩
              show KK X B L 3 0 0 M 95 [] [.int t22]
              exact (kOk_s h) _ _ _ _ rfl rfl rfl (dc d_Tw_numberOfSign 33 rfl)
            · refine k_if_eq G (dc d_Tw_numberOfSign 29 rfl) (tgt := 94) rfl (fun c24 => ?_) (fun c24 => ?_)
              · replace h := kOk_p c24 h
                refine k_iconst G (dc d_Tw_numberOfSign 32 rfl) cI_0 ?_
                refine k_sub [] rfl ?_
                have h9 := kOk_s h
                exact h9
              · replace h := kOk_n c24 h
                refine k_iconst G (dc d_Tw_numberOfSign 30 rfl) cI_1 ?_
                refine k_goto G (dc d_Tw_numberOfSign 31 rfl) (tgt := 95) rfl ?_
                refine k_sub [] rfl ?_
                have h9 := kOk_s h
                exact h9
          · replace h := kOk_n c7 h
            by_cases c8 : p1 = 4
            · replace h := kOk_p c8 h
              refine k_tsI G (dc d_Tw_numberOfSign 7 rfl) (off := 85) (tgt := 96) c8 (by decide) (by decide) (by decide) (by decide) ?_
              refine k_aload_n G (dc d_Tw_numberOfSign 34 rfl) 0 rfl rfl ?_
              refine k_iload_n G (dc d_Tw_numberOfSign 35 rfl) 1 rfl rfl ?_
              obtain ⟨⟨x27, M28⟩, e26, h⟩ := kOk_b h
              refine k_cVI G (dc d_Tw_numberOfSign 36 rfl) kc6 (okL_lt hu (o := 0) 0 rfl) (okL_k hu (o := 0) 0 rfl) mi_Tw_lettersWrong mv_Tw_lettersWrong rfl ml_RX8_54 (c_Tw_lettersWrong (gst G) hu e26) rfl rfl ⟨rfl, rfl⟩ rfl ⟨rfl, rfl⟩ ⟨rfl, rfl⟩ ?_
              exact (kOk_s h) _ _ _ _ rfl rfl rfl (dc d_Tw_numberOfSign 37 rfl)
            · replace h := kOk_n c8 h
              by_cases c9 : p1 = 5
              · replace h := kOk_p c9 h
                refine k_tsI G (dc d_Tw_numberOfSign 7 rfl) (off := 91) (tgt := 102) c9 (by decide) (by decide) (by decide) (by decide) ?_
                refine k_aload_n G (dc d_Tw_numberOfSign 38 rfl) 0 rfl rfl ?_
                refine k_iload_n G (dc d_Tw_numberOfSign 39 rfl) 1 rfl rfl ?_
                obtain ⟨⟨x31, M32⟩, e30, h⟩ := kOk_b h
                refine k_cVI G (dc d_Tw_numberOfSign 40 rfl) kc6 (okL_lt hu (o := 0) 0 rfl) (okL_k hu (o := 0) 0 rfl) mi_Tw_costOf mv_Tw_costOf rfl ml_RX8_132 (c_Tw_costOf (gst G) hu e30) rfl rfl ⟨rfl, rfl⟩ rfl ⟨rfl, rfl⟩ ⟨rfl, rfl⟩ ?_
                exact (kOk_s h) _ _ _ _ rfl rfl rfl (dc d_Tw_numberOfSign 41 rfl)
              · replace h := kOk_n c9 h
                by_cases c10 : p1 = 6
                · replace h := kOk_p c10 h
                  refine k_tsI G (dc d_Tw_numberOfSign 7 rfl) (off := 97) (tgt := 108) c10 (by decide) (by decide) (by decide) (by decide) ?_
                  refine k_aload_n G (dc d_Tw_numberOfSign 42 rfl) 0 rfl rfl ?_
                  refine k_getR G kc6 (dc d_Tw_numberOfSign 43 rfl) (okL_lt hu (o := 0) 0 rfl) (okL_k hu (o := 0) 0 rfl) 0 (by decide) rfl fl_RX8_12 (u + 1) (okL_r hu (o := 0) (c := 1) 0 rfl 0 rfl) ?_
                  refine k_getR G kc5 (dc d_Tw_numberOfSign 44 rfl) (okL_lt hu (o := 1) 1 rfl) (okL_k hu (o := 1) 1 rfl) 6 (by decide) rfl fl_RX8_82 (u + 8) (okL_r hu (o := 1) (c := 8) 1 rfl 5 rfl) ?_
                  refine k_iload_n G (dc d_Tw_numberOfSign 45 rfl) 1 rfl rfl ?_
                  obtain ⟨x35, e34, h⟩ := kOk_b h
                  refine k_ild G (dc d_Tw_numberOfSign 46 rfl) (okL_lt hu (o := 8) 8 rfl) (okL_k hu (o := 8) 8 rfl) (okL_n hu (o := 8) 8 rfl) e34 ?_
                  exact (kOk_s h) _ _ _ _ rfl rfl rfl (dc d_Tw_numberOfSign 47 rfl)
                · replace h := kOk_n c10 h
                  have hD39 : KK X B L 3 0 0 M 118 [(0, .ref (B.1 + u)), (1, .int p0), (2, .int p1)] [] := by
                    refine k_aload_n G (dc d_Tw_numberOfSign 48 rfl) 0 rfl rfl ?_
                    refine k_getR G kc6 (dc d_Tw_numberOfSign 49 rfl) (okL_lt hu (o := 0) 0 rfl) (okL_k hu (o := 0) 0 rfl) 0 (by decide) rfl fl_RX8_12 (u + 1) (okL_r hu (o := 0) (c := 1) 0 rfl 0 rfl) ?_
                    refine k_getR G kc5 (dc d_Tw_numberOfSign 50 rfl) (okL_lt hu (o := 1) 1 rfl) (okL_k hu (o := 1) 1 rfl) 7 (by decide) rfl fl_RX8_85 (u + 9) (okL_r hu (o := 1) (c := 9) 1 rfl 6 rfl) ?_
                    refine k_iload_n G (dc d_Tw_numberOfSign 51 rfl) 1 rfl rfl ?_
                    obtain ⟨x38, e37, h⟩ := kOk_b h
                    refine k_ild G (dc d_Tw_numberOfSign 52 rfl) (okL_lt hu (o := 9) 9 rfl) (okL_k hu (o := 9) 9 rfl) (okL_n hu (o := 9) 9 rfl) e37 ?_
                    exact (kOk_s h) _ _ _ _ rfl rfl rfl (dc d_Tw_numberOfSign 53 rfl)
                  rcases ts_out p1 0 6 with ho | ⟨k9, h91, h92, h93⟩
                  · exact k_tableOut G (dc d_Tw_numberOfSign 7 rfl) (tgt := 118) ho rfl hD39
                  · have h94 : k9 = 0 ∨ k9 = 1 ∨ k9 = 2 ∨ k9 = 3 ∨ k9 = 4 ∨ k9 = 5 ∨ k9 = 6 := by omega
                    rcases h94 with rfl | rfl | rfl | rfl | rfl | rfl | rfl
                    · exact absurd (h93.trans cI_0) c4
                    · exact absurd (h93.trans cI_1) c5
                    · exact absurd (h93.trans cI_2) c6
                    · exact absurd (h93.trans cI_3) c7
                    · exact absurd (h93.trans cI_4) c8
                    · exact absurd (h93.trans cI_5) c9
                    · exact absurd (h93.trans cI_6) c10
  · replace h := kOk_p c3 h
    refine k_iconst G (dc d_Tw_numberOfSign 4 rfl) cI_0 ?_
    exact (kOk_s h) _ _ _ _ rfl rfl rfl (dc d_Tw_numberOfSign 5 rfl)
theorem c_Tw_numberOfSign {l : Launch} {B : KB} {L : KLay} {M : KMem} {u : Nat} {p0 : Int32} {p1 : Int32} (hst : l.stackTraces = false) (hu : okL L u twT) {r : Int32} {M' : KMem} (e : m_Tw_numberOfSign u p0 p1 M = some (r, M')) : CtrN l B yX8_numberOfSign cX8_numberOfSign 3 (some .int) rm_Tw_numberOfSign [.ref (B.1 + u), .int p0, .int p1] L M (some (.int r)) L M' :=
  mk_I rfl hst rfl (fun X hl G _ R => b_Tw_numberOfSign G hu ⟨_, e, R⟩)
def I_Tw_numberOfGuild : List (Nat × Instr × Nat) := [(0, .iload_n 1, 1), (1, .ifCond .lt 8, 3), (4, .iload_n 1, 1), (5, .iconst 4, 1), (6, .if_icmp .lt 5, 3), (9, .iconst 0, 1), (10, .ireturn, 1), (11, .iload_n 2, 1), (12, .tableswitch 52 0 2 #[28, 35, 42], 28), (40, .aload_n 0, 1), (41, .iload_n 1, 1), (42, .iconst 0, 1), (43, .invokevirtual 185, 3), (46, .ireturn, 1), (47, .aload_n 0, 1), (48, .iload_n 1, 1), (49, .iconst 1, 1), (50, .invokevirtual 185, 3), (53, .ireturn, 1), (54, .aload_n 0, 1), (55, .getfield 12, 3), (58, .getfield 154, 3), (61, .iload_n 1, 1), (62, .iaload, 1), (63, .ireturn, 1), (64, .aload_n 0, 1), (65, .getfield 12, 3), (68, .getfield 135, 3), (71, .iload_n 1, 1), (72, .iaload, 1), (73, .ireturn, 1)]
set_option maxRecDepth 100000 in
theorem d_Tw_numberOfGuild : decA cX8_numberOfGuild I_Tw_numberOfGuild = true := by decide +kernel
abbrev rm_Tw_numberOfGuild : Room := ({ frames := 3, cells := 0, slots := 0, locals := 66 } : Room)
def m_Tw_numberOfGuild (u : Nat) (p0 : Int32) (p1 : Int32) (M : KMem) : Option Int32 :=
 if p0 < 0 then
 (some 0)
 else
 (if p0 < 4 then
 (if p1 = 0 then
 (Option.bind (m_Tw_signsOfGuild u p0 0 M) fun x7 =>
 some x7)
 else
 (if p1 = 1 then
 (Option.bind (m_Tw_signsOfGuild u p0 1 M) fun x10 =>
 some x10)
 else
 (if p1 = 2 then
 (Option.bind (rdI M (u + 10) 4 p0) fun x13 =>
 some x13)
 else
 (Option.bind (rdI M (u + 11) 4 p0) fun x16 =>
 some x16))))
 else
 (some 0))
set_option maxHeartbeats 4000000 in
set_option maxRecDepth 100000 in
theorem b_Tw_numberOfGuild {X : KX} {B : KB} {L : KLay} {M : KMem} {u : Nat} {p0 : Int32} {p1 : Int32} (G : Good X B RX8 cX8_numberOfGuild 3 rm_Tw_numberOfGuild) (hu : okL L u twT) (h : kOk (m_Tw_numberOfGuild u p0 p1 M) (fun r => RI X B L 3 cX8_numberOfGuild .int rm_Tw_numberOfGuild r M)) : KK X B L 3 0 0 M 0 [(0, .ref (B.1 + u)), (1, .int p0), (2, .int p1)] [] := by
  unfold m_Tw_numberOfGuild at h
  refine k_iload_n G (dc d_Tw_numberOfGuild 0 rfl) 1 rfl rfl ?_
  refine k_if_lt G (dc d_Tw_numberOfGuild 1 rfl) (tgt := 9) rfl (fun c1 => ?_) (fun c1 => ?_)
  · replace h := kOk_p c1 h
    refine k_iconst G (dc d_Tw_numberOfGuild 5 rfl) cI_0 ?_
    exact (kOk_s h) _ _ _ _ rfl rfl rfl (dc d_Tw_numberOfGuild 6 rfl)
  · replace h := kOk_n c1 h
    refine k_iload_n G (dc d_Tw_numberOfGuild 2 rfl) 1 rfl rfl ?_
    refine k_iconst G (dc d_Tw_numberOfGuild 3 rfl) cI_4 ?_
    refine k_icmp_lt G (dc d_Tw_numberOfGuild 4 rfl) (tgt := 11) rfl (fun c2 => ?_) (fun c2 => ?_)
    · replace h := kOk_p c2 h
      refine k_iload_n G (dc d_Tw_numberOfGuild 7 rfl) 2 rfl rfl ?_
      by_cases c3 : p1 = 0
      · replace h := kOk_p c3 h
        refine k_tsI G (dc d_Tw_numberOfGuild 8 rfl) (off := 28) (tgt := 40) c3 (by decide) (by decide) (by decide) (by decide) ?_
        refine k_aload_n G (dc d_Tw_numberOfGuild 9 rfl) 0 rfl rfl ?_
        refine k_iload_n G (dc d_Tw_numberOfGuild 10 rfl) 1 rfl rfl ?_
        refine k_iconst G (dc d_Tw_numberOfGuild 11 rfl) cI_0 ?_
        obtain ⟨x7, e6, h⟩ := kOk_b h
        refine k_cVI G (dc d_Tw_numberOfGuild 12 rfl) kc6 (okL_lt hu (o := 0) 0 rfl) (okL_k hu (o := 0) 0 rfl) mi_Tw_signsOfGuild mv_Tw_signsOfGuild rfl ml_RX8_185 (c_Tw_signsOfGuild (gst G) hu e6) rfl rfl ⟨rfl, rfl⟩ rfl ⟨rfl, rfl⟩ ⟨rfl, rfl⟩ ?_
        exact (kOk_s h) _ _ _ _ rfl rfl rfl (dc d_Tw_numberOfGuild 13 rfl)
      · replace h := kOk_n c3 h
        by_cases c4 : p1 = 1
        · replace h := kOk_p c4 h
          refine k_tsI G (dc d_Tw_numberOfGuild 8 rfl) (off := 35) (tgt := 47) c4 (by decide) (by decide) (by decide) (by decide) ?_
          refine k_aload_n G (dc d_Tw_numberOfGuild 14 rfl) 0 rfl rfl ?_
          refine k_iload_n G (dc d_Tw_numberOfGuild 15 rfl) 1 rfl rfl ?_
          refine k_iconst G (dc d_Tw_numberOfGuild 16 rfl) cI_1 ?_
          obtain ⟨x10, e9, h⟩ := kOk_b h
          refine k_cVI G (dc d_Tw_numberOfGuild 17 rfl) kc6 (okL_lt hu (o := 0) 0 rfl) (okL_k hu (o := 0) 0 rfl) mi_Tw_signsOfGuild mv_Tw_signsOfGuild rfl ml_RX8_185 (c_Tw_signsOfGuild (gst G) hu e9) rfl rfl ⟨rfl, rfl⟩ rfl ⟨rfl, rfl⟩ ⟨rfl, rfl⟩ ?_
          exact (kOk_s h) _ _ _ _ rfl rfl rfl (dc d_Tw_numberOfGuild 18 rfl)
        · replace h := kOk_n c4 h
          by_cases c5 : p1 = 2
          · replace h := kOk_p c5 h
            refine k_tsI G (dc d_Tw_numberOfGuild 8 rfl) (off := 42) (tgt := 54) c5 (by decide) (by decide) (by decide) (by decide) ?_
            refine k_aload_n G (dc d_Tw_numberOfGuild 19 rfl) 0 rfl rfl ?_
            refine k_getR G kc6 (dc d_Tw_numberOfGuild 20 rfl) (okL_lt hu (o := 0) 0 rfl) (okL_k hu (o := 0) 0 rfl) 0 (by decide) rfl fl_RX8_12 (u + 1) (okL_r hu (o := 0) (c := 1) 0 rfl 0 rfl) ?_
            refine k_getR G kc5 (dc d_Tw_numberOfGuild 21 rfl) (okL_lt hu (o := 1) 1 rfl) (okL_k hu (o := 1) 1 rfl) 8 (by decide) rfl fl_RX8_154 (u + 10) (okL_r hu (o := 1) (c := 10) 1 rfl 7 rfl) ?_
            refine k_iload_n G (dc d_Tw_numberOfGuild 22 rfl) 1 rfl rfl ?_
            obtain ⟨x13, e12, h⟩ := kOk_b h
            refine k_ild G (dc d_Tw_numberOfGuild 23 rfl) (okL_lt hu (o := 10) 10 rfl) (okL_k hu (o := 10) 10 rfl) (okL_n hu (o := 10) 10 rfl) e12 ?_
            exact (kOk_s h) _ _ _ _ rfl rfl rfl (dc d_Tw_numberOfGuild 24 rfl)
          · replace h := kOk_n c5 h
            have hD17 : KK X B L 3 0 0 M 64 [(0, .ref (B.1 + u)), (1, .int p0), (2, .int p1)] [] := by
              refine k_aload_n G (dc d_Tw_numberOfGuild 25 rfl) 0 rfl rfl ?_
              refine k_getR G kc6 (dc d_Tw_numberOfGuild 26 rfl) (okL_lt hu (o := 0) 0 rfl) (okL_k hu (o := 0) 0 rfl) 0 (by decide) rfl fl_RX8_12 (u + 1) (okL_r hu (o := 0) (c := 1) 0 rfl 0 rfl) ?_
              refine k_getR G kc5 (dc d_Tw_numberOfGuild 27 rfl) (okL_lt hu (o := 1) 1 rfl) (okL_k hu (o := 1) 1 rfl) 9 (by decide) rfl fl_RX8_135 (u + 11) (okL_r hu (o := 1) (c := 11) 1 rfl 8 rfl) ?_
              refine k_iload_n G (dc d_Tw_numberOfGuild 28 rfl) 1 rfl rfl ?_
              obtain ⟨x16, e15, h⟩ := kOk_b h
              refine k_ild G (dc d_Tw_numberOfGuild 29 rfl) (okL_lt hu (o := 11) 11 rfl) (okL_k hu (o := 11) 11 rfl) (okL_n hu (o := 11) 11 rfl) e15 ?_
              exact (kOk_s h) _ _ _ _ rfl rfl rfl (dc d_Tw_numberOfGuild 30 rfl)
            rcases ts_out p1 0 2 with ho | ⟨k9, h91, h92, h93⟩
            · exact k_tableOut G (dc d_Tw_numberOfGuild 8 rfl) (tgt := 64) ho rfl hD17
            · have h94 : k9 = 0 ∨ k9 = 1 ∨ k9 = 2 := by omega
              rcases h94 with rfl | rfl | rfl
              · exact absurd (h93.trans cI_0) c3
              · exact absurd (h93.trans cI_1) c4
              · exact absurd (h93.trans cI_2) c5
    · replace h := kOk_n c2 h
      refine k_iconst G (dc d_Tw_numberOfGuild 5 rfl) cI_0 ?_
      exact (kOk_s h) _ _ _ _ rfl rfl rfl (dc d_Tw_numberOfGuild 6 rfl)
theorem c_Tw_numberOfGuild {l : Launch} {B : KB} {L : KLay} {M : KMem} {u : Nat} {p0 : Int32} {p1 : Int32} (hst : l.stackTraces = false) (hu : okL L u twT) {r : Int32} (e : m_Tw_numberOfGuild u p0 p1 M = some r) : CtrN l B yX8_numberOfGuild cX8_numberOfGuild 3 (some .int) rm_Tw_numberOfGuild [.ref (B.1 + u), .int p0, .int p1] L M (some (.int r)) L M :=
  mk_I rfl hst rfl (fun X hl G _ R => b_Tw_numberOfGuild G hu ⟨_, e, R⟩)
