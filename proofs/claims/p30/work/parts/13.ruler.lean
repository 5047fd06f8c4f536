/-! laid by wip/p30/g30.py: Ru_lastOfNextRow, Ru_measured -/
def I_Ru_lastOfNextRow : List (Nat × Instr × Nat) := [(0, .aload_n 0, 1), (1, .getfield 9, 3), (4, .iconst 0, 1), (5, .iaload, 1), (6, .istore_n 3, 1), (7, .aload_n 0, 1), (8, .getfield 9, 3), (11, .iconst 0, 1), (12, .dup2, 1), (13, .iaload, 1), (14, .iconst 1, 1), (15, .iadd, 1), (16, .iastore, 1), (17, .aload_n 0, 1), (18, .getfield 9, 3), (21, .iconst 0, 1), (22, .iaload, 1), (23, .istore 4, 2), (25, .iload_n 2, 1), (26, .istore 5, 2), (28, .iconst 1, 1), (29, .istore 6, 2), (31, .iload 6, 2), (33, .bipush 8, 2), (35, .if_icmp .gt 71, 3), (38, .iload 5, 2), (40, .ifCond .eq 66, 3), (43, .iload_n 3, 1), (44, .iload 5, 2), (46, .bipush 10, 2), (48, .irem, 1), (49, .iload_n 1, 1), (50, .if_icmp .ne 7, 3), (53, .iconst 0, 1), (54, .goto 4, 3), (57, .iconst 1, 1), (58, .iadd, 1), (59, .istore 7, 2), (61, .aload_n 0, 1), (62, .getfield 9, 3), (65, .iload 6, 2), (67, .iaload, 1), (68, .istore_n 3, 1), (69, .iload 7, 2), (71, .iconst 1, 1), (72, .iload_n 3, 1), (73, .iload 4, 2), (75, .invokestatic 25, 3), (78, .iadd, 1), (79, .invokestatic 25, 3), (82, .istore 4, 2), (84, .aload_n 0, 1), (85, .getfield 9, 3), (88, .iload 6, 2), (90, .iload 4, 2), (92, .iastore, 1), (93, .iload 5, 2), (95, .bipush 10, 2), (97, .idiv, 1), (98, .istore 5, 2), (100, .iinc 6 1, 3), (103, .goto (-72), 3), (106, .iload 4, 2), (108, .ireturn, 1)]
set_option maxRecDepth 100000 in
theorem d_Ru_lastOfNextRow : decA cX4_lastOfNextRow I_Ru_lastOfNextRow = true := by decide +kernel
abbrev rm_Ru_lastOfNextRow : Room := ({ frames := 1, cells := 0, slots := 0, locals := 21 } : Room)
def m_Ru_lastOfNextRow_l31 (u : Nat) (p0 : Int32) : (Int32 × Int32 × Int32 × Int32 × KMem) → Option ((Int32 × Int32 × Int32 × Int32 × KMem) ⊕ (Int32 × KMem)) := fun (v3_9, v4_10, v5_11, v6_12, M13) =>
 if 8 < v6_12 then
 (some (.inr (v4_10, M13)))
 else
 (if v5_11 = 0 then
 (some (.inr (v4_10, M13)))
 else
 (Option.bind (α := Int32) (if (jrem v5_11 10) = p0 then
 (some 0)
 else
 (some 1)) fun t16 =>
 Option.bind (rdI M13 (u + 1) 9 v6_12) fun x19 =>
 Option.bind (wrI M13 (u + 1) 9 v6_12 (jmin (v3_9 + t16) (1 + (jmin x19 v4_10)))) fun M21 =>
 some (.inl (x19, jmin (v3_9 + t16) (1 + (jmin x19 v4_10)), v5_11 / 10, v6_12 + 1, M21))))
def m_Ru_lastOfNextRow (u : Nat) (p0 : Int32) (p1 : Int32) (M : KMem) : Option (Int32 × KMem) :=
 Option.bind (rdI M (u + 1) 9 0) fun x2 =>
 Option.bind (rdI M (u + 1) 9 0) fun x4 =>
 Option.bind (wrI M (u + 1) 9 0 (x4 + 1)) fun M6 =>
 Option.bind (rdI M6 (u + 1) 9 0) fun x8 =>
 Option.bind (α := Int32 × KMem) (kLp (m_Ru_lastOfNextRow_l31 u p0) kFU (x2, x8, p1, 1, M6)) fun (v4_23, M24) =>
 some (v4_23, M24)
set_option maxHeartbeats 4000000 in
set_option maxRecDepth 100000 in
theorem b_Ru_lastOfNextRow {X : KX} {B : KB} {L : KLay} {M : KMem} {u : Nat} {p0 : Int32} {p1 : Int32} (G : Good X B RX4 cX4_lastOfNextRow 8 rm_Ru_lastOfNextRow) (hu : okL L u ruT) (h : kOk (m_Ru_lastOfNextRow u p0 p1 M) (fun r => RI X B L 8 cX4_lastOfNextRow .int rm_Ru_lastOfNextRow r.1 r.2)) : KK X B L 8 0 0 M 0 [(0, .ref (B.1 + u)), (1, .int p0), (2, .int p1)] [] := by
  unfold m_Ru_lastOfNextRow at h
  refine k_aload_n G (dc d_Ru_lastOfNextRow 0 rfl) 0 rfl rfl ?_
  refine k_getR G kc4 (dc d_Ru_lastOfNextRow 1 rfl) (okL_lt hu (o := 0) 0 rfl) (okL_k hu (o := 0) 0 rfl) 0 (by decide) rfl fl_RX4_9 (u + 1) (okL_r hu (o := 0) (c := 1) 0 rfl 0 rfl) ?_
  refine k_iconst G (dc d_Ru_lastOfNextRow 2 rfl) cI_0 ?_
  obtain ⟨x2, e1, h⟩ := kOk_b h
  refine k_ild G (dc d_Ru_lastOfNextRow 3 rfl) (okL_lt hu (o := 1) 1 rfl) (okL_k hu (o := 1) 1 rfl) (okL_n hu (o := 1) 1 rfl) e1 ?_
  refine k_istore_n G (dc d_Ru_lastOfNextRow 4 rfl) (ls' := [(3, .int x2), (0, .ref (B.1 + u)), (1, .int p0), (2, .int p1)]) rfl rfl rfl ?_
  refine k_aload_n G (dc d_Ru_lastOfNextRow 5 rfl) 1 rfl rfl ?_
  refine k_getR G kc4 (dc d_Ru_lastOfNextRow 6 rfl) (okL_lt hu (o := 0) 0 rfl) (okL_k hu (o := 0) 0 rfl) 0 (by decide) rfl fl_RX4_9 (u + 1) (okL_r hu (o := 0) (c := 1) 0 rfl 0 rfl) ?_
  refine k_iconst G (dc d_Ru_lastOfNextRow 7 rfl) cI_0 ?_
  refine k_dup2 G (dc d_Ru_lastOfNextRow 8 rfl) rfl rfl ?_
  obtain ⟨x4, e3, h⟩ := kOk_b h
  refine k_ild G (dc d_Ru_lastOfNextRow 9 rfl) (okL_lt hu (o := 1) 1 rfl) (okL_k hu (o := 1) 1 rfl) (okL_n hu (o := 1) 1 rfl) e3 ?_
  refine k_iconst G (dc d_Ru_lastOfNextRow 10 rfl) cI_1 ?_
  refine k_iadd G (dc d_Ru_lastOfNextRow 11 rfl) ?_
  obtain ⟨M6, e5, h⟩ := kOk_b h
  refine k_ist G (dc d_Ru_lastOfNextRow 12 rfl) (okL_lt hu (o := 1) 1 rfl) (okL_k hu (o := 1) 1 rfl) (okL_n hu (o := 1) 1 rfl) e5 ?_
  refine k_aload_n G (dc d_Ru_lastOfNextRow 13 rfl) 1 rfl rfl ?_
  refine k_getR G kc4 (dc d_Ru_lastOfNextRow 14 rfl) (okL_lt hu (o := 0) 0 rfl) (okL_k hu (o := 0) 0 rfl) 0 (by decide) rfl fl_RX4_9 (u + 1) (okL_r hu (o := 0) (c := 1) 0 rfl 0 rfl) ?_
  refine k_iconst G (dc d_Ru_lastOfNextRow 15 rfl) cI_0 ?_
  obtain ⟨x8, e7, h⟩ := kOk_b h
  refine k_ild G (dc d_Ru_lastOfNextRow 16 rfl) (okL_lt hu (o := 1) 1 rfl) (okL_k hu (o := 1) 1 rfl) (okL_n hu (o := 1) 1 rfl) e7 ?_
  refine k_istore G (dc d_Ru_lastOfNextRow 17 rfl) (ls' := [(4, .int x8), (3, .int x2), (0, .ref (B.1 + u)), (1, .int p0), (2, .int p1)]) rfl rfl ?_
  refine k_iload_n G (dc d_Ru_lastOfNextRow 18 rfl) 4 rfl rfl ?_
  refine k_istore G (dc d_Ru_lastOfNextRow 19 rfl) (ls' := [(5, .int p1), (4, .int x8), (3, .int x2), (0, .ref (B.1 + u)), (1, .int p0), (2, .int p1)]) rfl rfl ?_
  refine k_iconst G (dc d_Ru_lastOfNextRow 20 rfl) cI_1 ?_
  refine k_istore G (dc d_Ru_lastOfNextRow 21 rfl) (ls' := [(6, .int 1), (5, .int p1), (4, .int x8), (3, .int x2), (0, .ref (B.1 + u)), (1, .int p0), (2, .int p1)]) rfl rfl ?_
  refine kJ h (fun r25 => KK X B L 8 0 0 r25.2 106 [(4, .int r25.1)] []) (fun r25 h => ?_) (fun h => ?_)
  · obtain ⟨v4_23, M24⟩ := r25
    show KK X B L 8 0 0 M24 106 [(4, .int v4_23)] []
    refine k_iload G (dc d_Ru_lastOfNextRow 62 rfl) 0 rfl ?_
    exact (kOk_s h) _ _ _ _ rfl rfl rfl (dc d_Ru_lastOfNextRow 63 rfl)
  · refine k_sub [4, 5, 3, 2, 1, 0] rfl ?_
    refine kLp_ok (P := fun s26 => KK X B L 8 0 0 s26.2.2.2.2 31 [(0, .ref (B.1 + u)), (1, .int p0), (3, .int s26.1), (4, .int s26.2.1), (5, .int s26.2.2.1), (6, .int s26.2.2.2.1)] []) (fun s26 h => ?_) kFU _ h
    obtain ⟨v3_9, v4_10, v5_11, v6_12, M13⟩ := s26
    unfold m_Ru_lastOfNextRow_l31 at h
    show KK X B L 8 0 0 M13 31 [(0, .ref (B.1 + u)), (1, .int p0), (3, .int v3_9), (4, .int v4_10), (5, .int v5_11), (6, .int v6_12)] []
    refine k_iload G (dc d_Ru_lastOfNextRow 22 rfl) 5 rfl ?_
    refine k_bipush G (dc d_Ru_lastOfNextRow 23 rfl) cB_8 ?_
    refine k_icmp_gt G (dc d_Ru_lastOfNextRow 24 rfl) (tgt := 106) rfl (fun c14 => ?_) (fun c14 => ?_)
    · replace h := kOk_p c14 h
      refine k_sub [3] rfl ?_
      have h9 := kOk_s h
      exact h9
    · replace h := kOk_n c14 h
      refine k_iload G (dc d_Ru_lastOfNextRow 25 rfl) 4 rfl ?_
      refine k_if_eq G (dc d_Ru_lastOfNextRow 26 rfl) (tgt := 106) rfl (fun c15 => ?_) (fun c15 => ?_)
      · replace h := kOk_p c15 h
        refine k_sub [3] rfl ?_
        have h9 := kOk_s h
        exact h9
      · replace h := kOk_n c15 h
        refine k_iload_n G (dc d_Ru_lastOfNextRow 27 rfl) 2 rfl rfl ?_
        refine k_iload G (dc d_Ru_lastOfNextRow 28 rfl) 4 rfl ?_
        refine k_bipush G (dc d_Ru_lastOfNextRow 29 rfl) cB_10 ?_
        refine k_irem G (dc d_Ru_lastOfNextRow 30 rfl) czI_10 ?_
        refine k_iload_n G (dc d_Ru_lastOfNextRow 31 rfl) 1 rfl rfl ?_
        refine kJ h (fun r17 => KK X B L 8 0 0 M13 58 [(0, .ref (B.1 + u)), (1, .int p0), (4, .int v4_10), (5, .int v5_11), (6, .int v6_12)] [.int r17, .int v3_9]) (fun r17 h => ?_) (fun h => ?_)
        · obtain ⟨t16, rfl⟩ : ∃ z, z = r17 := ⟨_, rfl⟩
          show KK X B L 8 0 0 M13 58 [(0, .ref (B.1 + u)), (1, .int p0), (4, .int v4_10), (5, .int v5_11), (6, .int v6_12)] [.int t16, .int v3_9]
          refine k_iadd G (dc d_Ru_lastOfNextRow 36 rfl) ?_
          refine k_istore G (dc d_Ru_lastOfNextRow 37 rfl) (ls' := [(7, .int (v3_9 + t16)), (0, .ref (B.1 + u)), (1, .int p0), (4, .int v4_10), (5, .int v5_11), (6, .int v6_12)]) rfl rfl ?_
          refine k_aload_n G (dc d_Ru_lastOfNextRow 38 rfl) 1 rfl rfl ?_
          refine k_getR G kc4 (dc d_Ru_lastOfNextRow 39 rfl) (okL_lt hu (o := 0) 0 rfl) (okL_k hu (o := 0) 0 rfl) 0 (by decide) rfl fl_RX4_9 (u + 1) (okL_r hu (o := 0) (c := 1) 0 rfl 0 rfl) ?_
          refine k_iload G (dc d_Ru_lastOfNextRow 40 rfl) 5 rfl ?_
          obtain ⟨x19, e18, h⟩ := kOk_b h
          refine k_ild G (dc d_Ru_lastOfNextRow 41 rfl) (okL_lt hu (o := 1) 1 rfl) (okL_k hu (o := 1) 1 rfl) (okL_n hu (o := 1) 1 rfl) e18 ?_
          refine k_istore_n G (dc d_Ru_lastOfNextRow 42 rfl) (ls' := [(3, .int x19), (7, .int (v3_9 + t16)), (0, .ref (B.1 + u)), (1, .int p0), (4, .int v4_10), (5, .int v5_11), (6, .int v6_12)]) rfl rfl rfl ?_
          refine k_iload G (dc d_Ru_lastOfNextRow 43 rfl) 1 rfl ?_
          refine k_iconst G (dc d_Ru_lastOfNextRow 44 rfl) cI_1 ?_
          refine k_iload_n G (dc d_Ru_lastOfNextRow 45 rfl) 0 rfl rfl ?_
          refine k_iload G (dc d_Ru_lastOfNextRow 46 rfl) 4 rfl ?_
          refine k_min G (dc d_Ru_lastOfNextRow 47 rfl) ml_RX4_25 mathmin ⟨rfl, rfl, rfl, rfl⟩ ?_
          refine k_iadd G (dc d_Ru_lastOfNextRow 48 rfl) ?_
          refine k_min G (dc d_Ru_lastOfNextRow 49 rfl) ml_RX4_25 mathmin ⟨rfl, rfl, rfl, rfl⟩ ?_
          refine k_istore G (dc d_Ru_lastOfNextRow 50 rfl) (ls' := [(4, .int (jmin (v3_9 + t16) (1 + (jmin x19 v4_10)))), (3, .int x19), (7, .int (v3_9 + t16)), (0, .ref (B.1 + u)), (1, .int p0), (5, .int v5_11), (6, .int v6_12)]) rfl rfl ?_
          refine k_aload_n G (dc d_Ru_lastOfNextRow 51 rfl) 3 rfl rfl ?_
          refine k_getR G kc4 (dc d_Ru_lastOfNextRow 52 rfl) (okL_lt hu (o := 0) 0 rfl) (okL_k hu (o := 0) 0 rfl) 0 (by decide) rfl fl_RX4_9 (u + 1) (okL_r hu (o := 0) (c := 1) 0 rfl 0 rfl) ?_
          refine k_iload G (dc d_Ru_lastOfNextRow 53 rfl) 6 rfl ?_
          refine k_iload G (dc d_Ru_lastOfNextRow 54 rfl) 0 rfl ?_
          obtain ⟨M21, e20, h⟩ := kOk_b h
          refine k_ist G (dc d_Ru_lastOfNextRow 55 rfl) (okL_lt hu (o := 1) 1 rfl) (okL_k hu (o := 1) 1 rfl) (okL_n hu (o := 1) 1 rfl) e20 ?_
          refine k_iload G (dc d_Ru_lastOfNextRow 56 rfl) 5 rfl ?_
          refine k_bipush G (dc d_Ru_lastOfNextRow 57 rfl) cB_10 ?_
          refine k_idiv G (dc d_Ru_lastOfNextRow 58 rfl) czI_10 ?_
          refine k_istore G (dc d_Ru_lastOfNextRow 59 rfl) (ls' := [(5, .int (v5_11 / 10)), (4, .int (jmin (v3_9 + t16) (1 + (jmin x19 v4_10)))), (3, .int x19), (7, .int (v3_9 + t16)), (0, .ref (B.1 + u)), (1, .int p0), (6, .int v6_12)]) rfl rfl ?_
          refine k_iinc G (dc d_Ru_lastOfNextRow 60 rfl) (ls' := [(6, .int (v6_12 + 1)), (5, .int (v5_11 / 10)), (4, .int (jmin (v3_9 + t16) (1 + (jmin x19 v4_10)))), (3, .int x19), (7, .int (v3_9 + t16)), (0, .ref (B.1 + u)), (1, .int p0)]) 6 rfl cI_1 rfl rfl ?_
          refine k_goto G (dc d_Ru_lastOfNextRow 61 rfl) (tgt := 31) rfl ?_
          refine k_sub [5, 6, 3, 2, 1, 0] rfl ?_
          have h9 := kOk_s h
          exact h9
        · refine k_icmp_ne G (dc d_Ru_lastOfNextRow 32 rfl) (tgt := 57) rfl (fun c22 => ?_) (fun c22 => ?_)
          · replace h := kOk_n c22 h
            refine k_iconst G (dc d_Ru_lastOfNextRow 35 rfl) cI_1 ?_
            refine k_sub [0, 1, 3, 4, 5] rfl ?_
            have h9 := kOk_s h
            exact h9
          · replace h := kOk_p c22 h
            refine k_iconst G (dc d_Ru_lastOfNextRow 33 rfl) cI_0 ?_
            refine k_goto G (dc d_Ru_lastOfNextRow 34 rfl) (tgt := 58) rfl ?_
            refine k_sub [0, 1, 3, 4, 5] rfl ?_
            have h9 := kOk_s h
            exact h9
theorem c_Ru_lastOfNextRow {l : Launch} {B : KB} {L : KLay} {M : KMem} {u : Nat} {p0 : Int32} {p1 : Int32} (hst : l.stackTraces = false) (hu : okL L u ruT) {r : Int32} {M' : KMem} (e : m_Ru_lastOfNextRow u p0 p1 M = some (r, M')) : CtrN l B yX4_lastOfNextRow cX4_lastOfNextRow 8 (some .int) rm_Ru_lastOfNextRow [.ref (B.1 + u), .int p0, .int p1] L M (some (.int r)) L M' :=
  mk_I rfl hst rfl (fun X hl G _ R => b_Ru_lastOfNextRow G hu ⟨_, e, R⟩)
def I_Ru_measured : List (Nat × Instr × Nat) := [(0, .iconst 0, 1), (1, .istore_n 3, 1), (2, .iload_n 3, 1), (3, .bipush 8, 2), (5, .if_icmp .gt 16, 3), (8, .aload_n 0, 1), (9, .getfield 9, 3), (12, .iload_n 3, 1), (13, .iload_n 3, 1), (14, .iastore, 1), (15, .iinc 3 1, 3), (18, .goto (-16), 3), (21, .iload_n 2, 1), (22, .invokestatic 15, 3), (25, .istore_n 3, 1), (26, .iload_n 1, 1), (27, .istore 4, 2), (29, .iconst 0, 1), (30, .istore 5, 2), (32, .iload 5, 2), (34, .bipush 8, 2), (36, .if_icmp .ge 32, 3), (39, .iload 4, 2), (41, .ifCond .eq 27, 3), (44, .aload_n 0, 1), (45, .iload 4, 2), (47, .bipush 10, 2), (49, .irem, 1), (50, .iload_n 2, 1), (51, .invokevirtual 21, 3), (54, .istore_n 3, 1), (55, .iload 4, 2), (57, .bipush 10, 2), (59, .idiv, 1), (60, .istore 4, 2), (62, .iinc 5 1, 3), (65, .goto (-33), 3), (68, .iload_n 3, 1), (69, .ireturn, 1)]
set_option maxRecDepth 100000 in
theorem d_Ru_measured : decA cX4_measured I_Ru_measured = true := by decide +kernel
abbrev rm_Ru_measured : Room := ({ frames := 2, cells := 0, slots := 0, locals := 48 } : Room)
def m_Ru_measured_l2 (u : Nat) : (Int32 × KMem) → Option ((Int32 × KMem) ⊕ KMem) := fun (v3_1, M2) =>
 if 8 < v3_1 then
 (some (.inr M2))
 else
 (Option.bind (wrI M2 (u + 1) 9 v3_1 v3_1) fun M5 =>
 some (.inl (v3_1 + 1, M5)))
def m_Ru_measured_l32 (u : Nat) (p1 : Int32) : (Int32 × Int32 × Int32 × KMem) → Option ((Int32 × Int32 × Int32 × KMem) ⊕ (Int32 × KMem)) := fun (v3_9, v4_10, v5_11, M12) =>
 if 8 ≤ v5_11 then
 (some (.inr (v3_9, M12)))
 else
 (if v4_10 = 0 then
 (some (.inr (v3_9, M12)))
 else
 (Option.bind (m_Ru_lastOfNextRow u (jrem v4_10 10) p1 M12) fun (x16, M17) =>
 some (.inl (x16, v4_10 / 10, v5_11 + 1, M17))))
def m_Ru_measured (u : Nat) (p0 : Int32) (p1 : Int32) (M : KMem) : Option (Int32 × KMem) :=
 Option.bind (α := KMem) (kLp (m_Ru_measured_l2 u) kFU (0, M)) fun M6 =>
 Option.bind (m_Wo_letters p1) fun x8 =>
 Option.bind (α := Int32 × KMem) (kLp (m_Ru_measured_l32 u p1) kFU (x8, p0, 0, M6)) fun (v3_18, M19) =>
 some (v3_18, M19)
set_option maxHeartbeats 4000000 in
set_option maxRecDepth 100000 in
theorem b_Ru_measured {X : KX} {B : KB} {L : KLay} {M : KMem} {u : Nat} {p0 : Int32} {p1 : Int32} (G : Good X B RX4 cX4_measured 6 rm_Ru_measured) (hu : okL L u ruT) (h : kOk (m_Ru_measured u p0 p1 M) (fun r => RI X B L 6 cX4_measured .int rm_Ru_measured r.1 r.2)) : KK X B L 6 0 0 M 0 [(0, .ref (B.1 + u)), (1, .int p0), (2, .int p1)] [] := by
  unfold m_Ru_measured at h
  refine k_iconst G (dc d_Ru_measured 0 rfl) cI_0 ?_
  refine k_istore_n G (dc d_Ru_measured 1 rfl) (ls' := [(3, .int 0), (0, .ref (B.1 + u)), (1, .int p0), (2, .int p1)]) rfl rfl rfl ?_
  refine kJ h (fun r22 => KK X B L 6 0 0 r22 21 [(0, .ref (B.1 + u)), (1, .int p0), (2, .int p1)] []) (fun r22 h => ?_) (fun h => ?_)
  · obtain ⟨M6, rfl⟩ : ∃ z, z = r22 := ⟨_, rfl⟩
    show KK X B L 6 0 0 M6 21 [(0, .ref (B.1 + u)), (1, .int p0), (2, .int p1)] []
    refine k_iload_n G (dc d_Ru_measured 12 rfl) 2 rfl rfl ?_
    obtain ⟨x8, e7, h⟩ := kOk_b h
    refine k_cSI G (dc d_Ru_measured 13 rfl) mi_Wo_letters ms_Wo_letters ml_RX4_15 (c_Wo_letters (gst G)  e7) rfl rfl ⟨rfl, rfl⟩ rfl ⟨rfl, rfl⟩ ⟨rfl, rfl⟩ ?_
    refine k_istore_n G (dc d_Ru_measured 14 rfl) (ls' := [(3, .int x8), (0, .ref (B.1 + u)), (1, .int p0), (2, .int p1)]) rfl rfl rfl ?_
    refine k_iload_n G (dc d_Ru_measured 15 rfl) 2 rfl rfl ?_
    refine k_istore G (dc d_Ru_measured 16 rfl) (ls' := [(4, .int p0), (3, .int x8), (0, .ref (B.1 + u)), (1, .int p0), (2, .int p1)]) rfl rfl ?_
    refine k_iconst G (dc d_Ru_measured 17 rfl) cI_0 ?_
    refine k_istore G (dc d_Ru_measured 18 rfl) (ls' := [(5, .int 0), (4, .int p0), (3, .int x8), (0, .ref (B.1 + u)), (1, .int p0), (2, .int p1)]) rfl rfl ?_
    refine kJ h (fun r20 => KK X B L 6 0 0 r20.2 68 [(3, .int r20.1)] []) (fun r20 h => ?_) (fun h => ?_)
    · obtain ⟨v3_18, M19⟩ := r20
      show KK X B L 6 0 0 M19 68 [(3, .int v3_18)] []
      refine k_iload_n G (dc d_Ru_measured 37 rfl) 0 rfl rfl ?_
      exact (kOk_s h) _ _ _ _ rfl rfl rfl (dc d_Ru_measured 38 rfl)
    · refine k_sub [3, 5, 2, 1, 0] rfl ?_
      refine kLp_ok (P := fun s21 => KK X B L 6 0 0 s21.2.2.2 32 [(0, .ref (B.1 + u)), (2, .int p1), (3, .int s21.1), (4, .int s21.2.1), (5, .int s21.2.2.1)] []) (fun s21 h => ?_) kFU _ h
      obtain ⟨v3_9, v4_10, v5_11, M12⟩ := s21
      unfold m_Ru_measured_l32 at h
      show KK X B L 6 0 0 M12 32 [(0, .ref (B.1 + u)), (2, .int p1), (3, .int v3_9), (4, .int v4_10), (5, .int v5_11)] []
      refine k_iload G (dc d_Ru_measured 19 rfl) 4 rfl ?_
      refine k_bipush G (dc d_Ru_measured 20 rfl) cB_8 ?_
      refine k_icmp_ge G (dc d_Ru_measured 21 rfl) (tgt := 68) rfl (fun c13 => ?_) (fun c13 => ?_)
      · replace h := kOk_p c13 h
        refine k_sub [2] rfl ?_
        have h9 := kOk_s h
        exact h9
      · replace h := kOk_n c13 h
        refine k_iload G (dc d_Ru_measured 22 rfl) 3 rfl ?_
        refine k_if_eq G (dc d_Ru_measured 23 rfl) (tgt := 68) rfl (fun c14 => ?_) (fun c14 => ?_)
        · replace h := kOk_p c14 h
          refine k_sub [2] rfl ?_
          have h9 := kOk_s h
          exact h9
        · replace h := kOk_n c14 h
          refine k_aload_n G (dc d_Ru_measured 24 rfl) 0 rfl rfl ?_
          refine k_iload G (dc d_Ru_measured 25 rfl) 3 rfl ?_
          refine k_bipush G (dc d_Ru_measured 26 rfl) cB_10 ?_
          refine k_irem G (dc d_Ru_measured 27 rfl) czI_10 ?_
          refine k_iload_n G (dc d_Ru_measured 28 rfl) 1 rfl rfl ?_
          obtain ⟨⟨x16, M17⟩, e15, h⟩ := kOk_b h
          refine k_cVI G (dc d_Ru_measured 29 rfl) kc4 (okL_lt hu (o := 0) 0 rfl) (okL_k hu (o := 0) 0 rfl) mi_Ru_lastOfNextRow mv_Ru_lastOfNextRow rfl ml_RX4_21 (c_Ru_lastOfNextRow (gst G) hu e15) rfl rfl ⟨rfl, rfl⟩ rfl ⟨rfl, rfl⟩ ⟨rfl, rfl⟩ ?_
          refine k_istore_n G (dc d_Ru_measured 30 rfl) (ls' := [(3, .int x16), (0, .ref (B.1 + u)), (2, .int p1), (4, .int v4_10), (5, .int v5_11)]) rfl rfl rfl ?_
          refine k_iload G (dc d_Ru_measured 31 rfl) 3 rfl ?_
          refine k_bipush G (dc d_Ru_measured 32 rfl) cB_10 ?_
          refine k_idiv G (dc d_Ru_measured 33 rfl) czI_10 ?_
          refine k_istore G (dc d_Ru_measured 34 rfl) (ls' := [(4, .int (v4_10 / 10)), (3, .int x16), (0, .ref (B.1 + u)), (2, .int p1), (5, .int v5_11)]) rfl rfl ?_
          refine k_iinc G (dc d_Ru_measured 35 rfl) (ls' := [(5, .int (v5_11 + 1)), (4, .int (v4_10 / 10)), (3, .int x16), (0, .ref (B.1 + u)), (2, .int p1)]) 4 rfl cI_1 rfl rfl ?_
          refine k_goto G (dc d_Ru_measured 36 rfl) (tgt := 32) rfl ?_
          refine k_sub [3, 4, 2, 1, 0] rfl ?_
          have h9 := kOk_s h
          exact h9
  · refine k_sub [1, 2, 3, 0] rfl ?_
    refine kLp_ok (P := fun s23 => KK X B L 6 0 0 s23.2 2 [(0, .ref (B.1 + u)), (1, .int p0), (2, .int p1), (3, .int s23.1)] []) (fun s23 h => ?_) kFU _ h
    obtain ⟨v3_1, M2⟩ := s23
    unfold m_Ru_measured_l2 at h
    show KK X B L 6 0 0 M2 2 [(0, .ref (B.1 + u)), (1, .int p0), (2, .int p1), (3, .int v3_1)] []
    refine k_iload_n G (dc d_Ru_measured 2 rfl) 3 rfl rfl ?_
    refine k_bipush G (dc d_Ru_measured 3 rfl) cB_8 ?_
    refine k_icmp_gt G (dc d_Ru_measured 4 rfl) (tgt := 21) rfl (fun c3 => ?_) (fun c3 => ?_)
    · replace h := kOk_p c3 h
      refine k_sub [0, 1, 2] rfl ?_
      have h9 := kOk_s h
      exact h9
    · replace h := kOk_n c3 h
      refine k_aload_n G (dc d_Ru_measured 5 rfl) 0 rfl rfl ?_
      refine k_getR G kc4 (dc d_Ru_measured 6 rfl) (okL_lt hu (o := 0) 0 rfl) (okL_k hu (o := 0) 0 rfl) 0 (by decide) rfl fl_RX4_9 (u + 1) (okL_r hu (o := 0) (c := 1) 0 rfl 0 rfl) ?_
      refine k_iload_n G (dc d_Ru_measured 7 rfl) 3 rfl rfl ?_
      refine k_iload_n G (dc d_Ru_measured 8 rfl) 3 rfl rfl ?_
      obtain ⟨M5, e4, h⟩ := kOk_b h
      refine k_ist G (dc d_Ru_measured 9 rfl) (okL_lt hu (o := 1) 1 rfl) (okL_k hu (o := 1) 1 rfl) (okL_n hu (o := 1) 1 rfl) e4 ?_
      refine k_iinc G (dc d_Ru_measured 10 rfl) (ls' := [(3, .int (v3_1 + 1)), (0, .ref (B.1 + u)), (1, .int p0), (2, .int p1)]) 3 rfl cI_1 rfl rfl ?_
      refine k_goto G (dc d_Ru_measured 11 rfl) (tgt := 2) rfl ?_
      refine k_sub [1, 2, 3, 0] rfl ?_
      have h9 := kOk_s h
      exact h9
theorem c_Ru_measured {l : Launch} {B : KB} {L : KLay} {M : KMem} {u : Nat} {p0 : Int32} {p1 : Int32} (hst : l.stackTraces = false) (hu : okL L u ruT) {r : Int32} {M' : KMem} (e : m_Ru_measured u p0 p1 M = some (r, M')) : CtrN l B yX4_measured cX4_measured 6 (some .int) rm_Ru_measured [.ref (B.1 + u), .int p0, .int p1] L M (some (.int r)) L M' :=
  mk_I rfl hst rfl (fun X hl G _ R => b_Ru_measured G hu ⟨_, e, R⟩)
