/-! laid by wip/whole/lay.py: Ru_nextRow, Ru_measured -/
def I_Ru_nextRow : List (Nat × Instr × Nat) := [(0, .aload_n 0, 1), (1, .getfield 9, 3), (4, .iconst 0, 1), (5, .iaload, 1), (6, .istore_n 3, 1), (7, .aload_n 0, 1), (8, .getfield 9, 3), (11, .iconst 0, 1), (12, .dup2, 1), (13, .iaload, 1), (14, .iconst 1, 1), (15, .iadd, 1), (16, .iastore, 1), (17, .iload_n 2, 1), (18, .istore 4, 2), (20, .iconst 1, 1), (21, .istore 5, 2), (23, .iload 5, 2), (25, .bipush 8, 2), (27, .if_icmp .gt 80, 3), (30, .iload 4, 2), (32, .ifCond .eq 75, 3), (35, .iload_n 3, 1), (36, .iload 4, 2), (38, .bipush 10, 2), (40, .irem, 1), (41, .iload_n 1, 1), (42, .if_icmp .ne 7, 3), (45, .iconst 0, 1), (46, .goto 4, 3), (49, .iconst 1, 1), (50, .iadd, 1), (51, .istore 6, 2), (53, .aload_n 0, 1), (54, .getfield 9, 3), (57, .iload 5, 2), (59, .iaload, 1), (60, .istore_n 3, 1), (61, .aload_n 0, 1), (62, .getfield 9, 3), (65, .iload 5, 2), (67, .iload 6, 2), (69, .iconst 1, 1), (70, .aload_n 0, 1), (71, .getfield 9, 3), (74, .iload 5, 2), (76, .iaload, 1), (77, .aload_n 0, 1), (78, .getfield 9, 3), (81, .iload 5, 2), (83, .iconst 1, 1), (84, .isub, 1), (85, .iaload, 1), (86, .invokestatic 25, 3), (89, .iadd, 1), (90, .invokestatic 25, 3), (93, .iastore, 1), (94, .iload 4, 2), (96, .bipush 10, 2), (98, .idiv, 1), (99, .istore 4, 2), (101, .iinc 5 1, 3), (104, .goto (-81), 3), (107, .return_, 1)]
set_option maxRecDepth 100000 in
theorem d_Ru_nextRow : decA cX4_nextRow I_Ru_nextRow = true := by decide +kernel
abbrev rm_Ru_nextRow : Room := ({ frames := 1, cells := 0, slots := 0, locals := 21 } : Room)
def m_Ru_nextRow_l23 (u : Nat) (p0 : Int32) : (Int32 × Int32 × Int32 × KMem) → Option ((Int32 × Int32 × Int32 × KMem) ⊕ KMem) := fun (v3_7, v4_8, v5_9, M10) =>
 if 8 < v5_9 then
 (some (.inr M10))
 else
 (if v4_8 = 0 then
 (some (.inr M10))
 else
 (Option.bind (α := Int32) (if (jrem v4_8 10) = p0 then
 (some 0)
 else
 (some 1)) fun t13 =>
 Option.bind (rdI M10 (u + 1) 9 v5_9) fun x16 =>
 Option.bind (rdI M10 (u + 1) 9 v5_9) fun x18 =>
 Option.bind (rdI M10 (u + 1) 9 (v5_9 - 1)) fun x20 =>
 Option.bind (wrI M10 (u + 1) 9 v5_9 (jmin (v3_7 + t13) (1 + (jmin x18 x20)))) fun M22 =>
 some (.inl (x16, v4_8 / 10, v5_9 + 1, M22))))
def m_Ru_nextRow (u : Nat) (p0 : Int32) (p1 : Int32) (M : KMem) : Option KMem :=
 Option.bind (rdI M (u + 1) 9 0) fun x2 =>
 Option.bind (rdI M (u + 1) 9 0) fun x4 =>
 Option.bind (wrI M (u + 1) 9 0 (x4 + 1)) fun M6 =>
 Option.bind (α := KMem) (kLp (m_Ru_nextRow_l23 u p0) kFU (x2, p1, 1, M6)) fun M24 =>
 some M24
set_option maxHeartbeats 4000000 in
set_option maxRecDepth 100000 in
theorem b_Ru_nextRow {X : KX} {B : KB} {L : KLay} {M : KMem} {u : Nat} {p0 : Int32} {p1 : Int32} (G : Good X B RX4 cX4_nextRow 7 rm_Ru_nextRow) (hu : okL L u ruT) (h : kOk (m_Ru_nextRow u p0 p1 M) (fun r => RV X B L 7 cX4_nextRow rm_Ru_nextRow r)) : KK X B L 7 0 0 M 0 [(0, .ref (B.1 + u)), (1, .int p0), (2, .int p1)] [] := by
  unfold m_Ru_nextRow at h
  refine k_aload_n G (dc d_Ru_nextRow 0 rfl) 0 rfl rfl ?_
  refine k_getR G kc4 (dc d_Ru_nextRow 1 rfl) (okL_lt hu (o := 0) 0 rfl) (okL_k hu (o := 0) 0 rfl) 0 (by decide) rfl fl_RX4_9 (u + 1) (okL_r hu (o := 0) (c := 1) 0 rfl 0 rfl) ?_
  refine k_iconst G (dc d_Ru_nextRow 2 rfl) cI_0 ?_
  obtain ⟨x2, e1, h⟩ := kOk_b h
  refine k_ild G (dc d_Ru_nextRow 3 rfl) (okL_lt hu (o := 1) 1 rfl) (okL_k hu (o := 1) 1 rfl) (okL_n hu (o := 1) 1 rfl) e1 ?_
  refine k_istore_n G (dc d_Ru_nextRow 4 rfl) (ls' := [(3, .int x2), (0, .ref (B.1 + u)), (1, .int p0), (2, .int p1)]) rfl rfl rfl ?_
  refine k_aload_n G (dc d_Ru_nextRow 5 rfl) 1 rfl rfl ?_
  refine k_getR G kc4 (dc d_Ru_nextRow 6 rfl) (okL_lt hu (o := 0) 0 rfl) (okL_k hu (o := 0) 0 rfl) 0 (by decide) rfl fl_RX4_9 (u + 1) (okL_r hu (o := 0) (c := 1) 0 rfl 0 rfl) ?_
  refine k_iconst G (dc d_Ru_nextRow 7 rfl) cI_0 ?_
  refine k_dup2 G (dc d_Ru_nextRow 8 rfl) rfl rfl ?_
  obtain ⟨x4, e3, h⟩ := kOk_b h
  refine k_ild G (dc d_Ru_nextRow 9 rfl) (okL_lt hu (o := 1) 1 rfl) (okL_k hu (o := 1) 1 rfl) (okL_n hu (o := 1) 1 rfl) e3 ?_
  refine k_iconst G (dc d_Ru_nextRow 10 rfl) cI_1 ?_
  refine k_iadd G (dc d_Ru_nextRow 11 rfl) ?_
  obtain ⟨M6, e5, h⟩ := kOk_b h
  refine k_ist G (dc d_Ru_nextRow 12 rfl) (okL_lt hu (o := 1) 1 rfl) (okL_k hu (o := 1) 1 rfl) (okL_n hu (o := 1) 1 rfl) e5 ?_
  refine k_iload_n G (dc d_Ru_nextRow 13 rfl) 3 rfl rfl ?_
  refine k_istore G (dc d_Ru_nextRow 14 rfl) (ls' := [(4, .int p1), (3, .int x2), (0, .ref (B.1 + u)), (1, .int p0), (2, .int p1)]) rfl rfl ?_
  refine k_iconst G (dc d_Ru_nextRow 15 rfl) cI_1 ?_
  refine k_istore G (dc d_Ru_nextRow 16 rfl) (ls' := [(5, .int 1), (4, .int p1), (3, .int x2), (0, .ref (B.1 + u)), (1, .int p0), (2, .int p1)]) rfl rfl ?_
  refine kJ h (fun r25 => KK X B L 7 0 0 r25 107 [] []) (fun r25 h => ?_) (fun h => ?_)
  · obtain ⟨M24, rfl⟩ : ∃ z, z = r25 := ⟨_, rfl⟩
    show KK X B L 7 0 0 M24 107 [] []
    exact (kOk_s h) _ _ _ _ rfl rfl (dc d_Ru_nextRow 63 rfl)
  · refine k_sub [3, 4, 2, 1, 0] rfl ?_
    refine kLp_ok (P := fun s26 => KK X B L 7 0 0 s26.2.2.2 23 [(0, .ref (B.1 + u)), (1, .int p0), (3, .int s26.1), (4, .int s26.2.1), (5, .int s26.2.2.1)] []) (fun s26 h => ?_) kFU _ h
    obtain ⟨v3_7, v4_8, v5_9, M10⟩ := s26
    unfold m_Ru_nextRow_l23 at h
    show KK X B L 7 0 0 M10 23 [(0, .ref (B.1 + u)), (1, .int p0), (3, .int v3_7), (4, .int v4_8), (5, .int v5_9)] []
    refine k_iload G (dc d_Ru_nextRow 17 rfl) 4 rfl ?_
    refine k_bipush G (dc d_Ru_nextRow 18 rfl) cB_8 ?_
    refine k_icmp_gt G (dc d_Ru_nextRow 19 rfl) (tgt := 107) rfl (fun c11 => ?_) (fun c11 => ?_)
    · replace h := kOk_p c11 h
      refine k_sub [] rfl ?_
      have h9 := kOk_s h
      exact h9
    · replace h := kOk_n c11 h
      refine k_iload G (dc d_Ru_nextRow 20 rfl) 3 rfl ?_
      refine k_if_eq G (dc d_Ru_nextRow 21 rfl) (tgt := 107) rfl (fun c12 => ?_) (fun c12 => ?_)
      · replace h := kOk_p c12 h
        refine k_sub [] rfl ?_
        have h9 := kOk_s h
        exact h9
      · replace h := kOk_n c12 h
        refine k_iload_n G (dc d_Ru_nextRow 22 rfl) 2 rfl rfl ?_
        refine k_iload G (dc d_Ru_nextRow 23 rfl) 3 rfl ?_
        refine k_bipush G (dc d_Ru_nextRow 24 rfl) cB_10 ?_
        refine k_irem G (dc d_Ru_nextRow 25 rfl) czI_10 ?_
        refine k_iload_n G (dc d_Ru_nextRow 26 rfl) 1 rfl rfl ?_
        refine kJ h (fun r14 => KK X B L 7 0 0 M10 50 [(0, .ref (B.1 + u)), (1, .int p0), (4, .int v4_8), (5, .int v5_9)] [.int r14, .int v3_7]) (fun r14 h => ?_) (fun h => ?_)
        · obtain ⟨t13, rfl⟩ : ∃ z, z = r14 := ⟨_, rfl⟩
          show KK X B L 7 0 0 M10 50 [(0, .ref (B.1 + u)), (1, .int p0), (4, .int v4_8), (5, .int v5_9)] [.int t13, .int v3_7]
          refine k_iadd G (dc d_Ru_nextRow 31 rfl) ?_
          refine k_istore G (dc d_Ru_nextRow 32 rfl) (ls' := [(6, .int (v3_7 + t13)), (0, .ref (B.1 + u)), (1, .int p0), (4, .int v4_8), (5, .int v5_9)]) rfl rfl ?_
          refine k_aload_n G (dc d_Ru_nextRow 33 rfl) 1 rfl rfl ?_
          refine k_getR G kc4 (dc d_Ru_nextRow 34 rfl) (okL_lt hu (o := 0) 0 rfl) (okL_k hu (o := 0) 0 rfl) 0 (by decide) rfl fl_RX4_9 (u + 1) (okL_r hu (o := 0) (c := 1) 0 rfl 0 rfl) ?_
          refine k_iload G (dc d_Ru_nextRow 35 rfl) 4 rfl ?_
          obtain ⟨x16, e15, h⟩ := kOk_b h
          refine k_ild G (dc d_Ru_nextRow 36 rfl) (okL_lt hu (o := 1) 1 rfl) (okL_k hu (o := 1) 1 rfl) (okL_n hu (o := 1) 1 rfl) e15 ?_
          refine k_istore_n G (dc d_Ru_nextRow 37 rfl) (ls' := [(3, .int x16), (6, .int (v3_7 + t13)), (0, .ref (B.1 + u)), (1, .int p0), (4, .int v4_8), (5, .int v5_9)]) rfl rfl rfl ?_
          refine k_aload_n G (dc d_Ru_nextRow 38 rfl) 2 rfl rfl ?_
          refine k_getR G kc4 (dc d_Ru_nextRow 39 rfl) (okL_lt hu (o := 0) 0 rfl) (okL_k hu (o := 0) 0 rfl) 0 (by decide) rfl fl_RX4_9 (u + 1) (okL_r hu (o := 0) (c := 1) 0 rfl 0 rfl) ?_
          refine k_iload G (dc d_Ru_nextRow 40 rfl) 5 rfl ?_
          refine k_iload G (dc d_Ru_nextRow 41 rfl) 1 rfl ?_
          refine k_iconst G (dc d_Ru_nextRow 42 rfl) cI_1 ?_
          refine k_aload_n G (dc d_Ru_nextRow 43 rfl) 2 rfl rfl ?_
          refine k_getR G kc4 (dc d_Ru_nextRow 44 rfl) (okL_lt hu (o := 0) 0 rfl) (okL_k hu (o := 0) 0 rfl) 0 (by decide) rfl fl_RX4_9 (u + 1) (okL_r hu (o := 0) (c := 1) 0 rfl 0 rfl) ?_
          refine k_iload G (dc d_Ru_nextRow 45 rfl) 5 rfl ?_
          obtain ⟨x18, e17, h⟩ := kOk_b h
          refine k_ild G (dc d_Ru_nextRow 46 rfl) (okL_lt hu (o := 1) 1 rfl) (okL_k hu (o := 1) 1 rfl) (okL_n hu (o := 1) 1 rfl) e17 ?_
          refine k_aload_n G (dc d_Ru_nextRow 47 rfl) 2 rfl rfl ?_
          refine k_getR G kc4 (dc d_Ru_nextRow 48 rfl) (okL_lt hu (o := 0) 0 rfl) (okL_k hu (o := 0) 0 rfl) 0 (by decide) rfl fl_RX4_9 (u + 1) (okL_r hu (o := 0) (c := 1) 0 rfl 0 rfl) ?_
          refine k_iload G (dc d_Ru_nextRow 49 rfl) 5 rfl ?_
          refine k_iconst G (dc d_Ru_nextRow 50 rfl) cI_1 ?_
          refine k_isub G (dc d_Ru_nextRow 51 rfl) ?_
          obtain ⟨x20, e19, h⟩ := kOk_b h
          refine k_ild G (dc d_Ru_nextRow 52 rfl) (okL_lt hu (o := 1) 1 rfl) (okL_k hu (o := 1) 1 rfl) (okL_n hu (o := 1) 1 rfl) e19 ?_
          refine k_min G (dc d_Ru_nextRow 53 rfl) ml_RX4_25 mathmin ⟨rfl, rfl, rfl, rfl⟩ ?_
          refine k_iadd G (dc d_Ru_nextRow 54 rfl) ?_
          refine k_min G (dc d_Ru_nextRow 55 rfl) ml_RX4_25 mathmin ⟨rfl, rfl, rfl, rfl⟩ ?_
          obtain ⟨M22, e21, h⟩ := kOk_b h
          refine k_ist G (dc d_Ru_nextRow 56 rfl) (okL_lt hu (o := 1) 1 rfl) (okL_k hu (o := 1) 1 rfl) (okL_n hu (o := 1) 1 rfl) e21 ?_
          refine k_iload G (dc d_Ru_nextRow 57 rfl) 4 rfl ?_
          refine k_bipush G (dc d_Ru_nextRow 58 rfl) cB_10 ?_
          refine k_idiv G (dc d_Ru_nextRow 59 rfl) czI_10 ?_
          refine k_istore G (dc d_Ru_nextRow 60 rfl) (ls' := [(4, .int (v4_8 / 10)), (3, .int x16), (6, .int (v3_7 + t13)), (0, .ref (B.1 + u)), (1, .int p0), (5, .int v5_9)]) rfl rfl ?_
          refine k_iinc G (dc d_Ru_nextRow 61 rfl) (ls' := [(5, .int (v5_9 + 1)), (4, .int (v4_8 / 10)), (3, .int x16), (6, .int (v3_7 + t13)), (0, .ref (B.1 + u)), (1, .int p0)]) 5 rfl cI_1 rfl rfl ?_
          refine k_goto G (dc d_Ru_nextRow 62 rfl) (tgt := 23) rfl ?_
          refine k_sub [4, 5, 2, 1, 0] rfl ?_
          have h9 := kOk_s h
          exact h9
        · refine k_icmp_ne G (dc d_Ru_nextRow 27 rfl) (tgt := 49) rfl (fun c23 => ?_) (fun c23 => ?_)
          · replace h := kOk_n c23 h
            refine k_iconst G (dc d_Ru_nextRow 30 rfl) cI_1 ?_
            refine k_sub [0, 1, 3, 4] rfl ?_
            have h9 := kOk_s h
            exact h9
          · replace h := kOk_p c23 h
            refine k_iconst G (dc d_Ru_nextRow 28 rfl) cI_0 ?_
            refine k_goto G (dc d_Ru_nextRow 29 rfl) (tgt := 50) rfl ?_
            refine k_sub [0, 1, 3, 4] rfl ?_
            have h9 := kOk_s h
            exact h9
theorem c_Ru_nextRow {l : Launch} {B : KB} {L : KLay} {M : KMem} {u : Nat} {p0 : Int32} {p1 : Int32} (hst : l.stackTraces = false) (hu : okL L u ruT) {M' : KMem} (e : m_Ru_nextRow u p0 p1 M = some M') : CtrN l B yX4_nextRow cX4_nextRow 7 none rm_Ru_nextRow [.ref (B.1 + u), .int p0, .int p1] L M none L M' :=
  mk_V rfl hst rfl (fun X hl G _ R => b_Ru_nextRow G hu ⟨_, e, R⟩)
def I_Ru_measured : List (Nat × Instr × Nat) := [(0, .iconst 0, 1), (1, .istore_n 3, 1), (2, .iload_n 3, 1), (3, .bipush 8, 2), (5, .if_icmp .gt 16, 3), (8, .aload_n 0, 1), (9, .getfield 9, 3), (12, .iload_n 3, 1), (13, .iload_n 3, 1), (14, .iastore, 1), (15, .iinc 3 1, 3), (18, .goto (-16), 3), (21, .iload_n 1, 1), (22, .istore_n 3, 1), (23, .iconst 0, 1), (24, .istore 4, 2), (26, .iload 4, 2), (28, .bipush 8, 2), (30, .if_icmp .ge 27, 3), (33, .iload_n 3, 1), (34, .ifCond .eq 23, 3), (37, .aload_n 0, 1), (38, .iload_n 3, 1), (39, .bipush 10, 2), (41, .irem, 1), (42, .iload_n 2, 1), (43, .invokevirtual 15, 3), (46, .iload_n 3, 1), (47, .bipush 10, 2), (49, .idiv, 1), (50, .istore_n 3, 1), (51, .iinc 4 1, 3), (54, .goto (-28), 3), (57, .aload_n 0, 1), (58, .getfield 9, 3), (61, .iload_n 2, 1), (62, .invokestatic 19, 3), (65, .iaload, 1), (66, .ireturn, 1)]
set_option maxRecDepth 100000 in
theorem d_Ru_measured : decA cX4_measured I_Ru_measured = true := by decide +kernel
abbrev rm_Ru_measured : Room := ({ frames := 2, cells := 0, slots := 0, locals := 47 } : Room)
def m_Ru_measured_l2 (u : Nat) : (Int32 × KMem) → Option ((Int32 × KMem) ⊕ KMem) := fun (v3_1, M2) =>
 if 8 < v3_1 then
 (some (.inr M2))
 else
 (Option.bind (wrI M2 (u + 1) 9 v3_1 v3_1) fun M5 =>
 some (.inl (v3_1 + 1, M5)))
def m_Ru_measured_l26 (u : Nat) (p1 : Int32) : (Int32 × Int32 × KMem) → Option ((Int32 × Int32 × KMem) ⊕ KMem) := fun (v3_7, v4_8, M9) =>
 if 8 ≤ v4_8 then
 (some (.inr M9))
 else
 (if v3_7 = 0 then
 (some (.inr M9))
 else
 (Option.bind (m_Ru_nextRow u (jrem v3_7 10) p1 M9) fun M13 =>
 some (.inl (v3_7 / 10, v4_8 + 1, M13))))
def m_Ru_measured (u : Nat) (p0 : Int32) (p1 : Int32) (M : KMem) : Option (Int32 × KMem) :=
 Option.bind (α := KMem) (kLp (m_Ru_measured_l2 u) kFU (0, M)) fun M6 =>
 Option.bind (α := KMem) (kLp (m_Ru_measured_l26 u p1) kFU (p0, 0, M6)) fun M14 =>
 Option.bind (m_Wo_letters p1) fun x16 =>
 Option.bind (rdI M14 (u + 1) 9 x16) fun x18 =>
 some (x18, M14)
set_option maxHeartbeats 4000000 in
set_option maxRecDepth 100000 in
theorem b_Ru_measured {X : KX} {B : KB} {L : KLay} {M : KMem} {u : Nat} {p0 : Int32} {p1 : Int32} (G : Good X B RX4 cX4_measured 5 rm_Ru_measured) (hu : okL L u ruT) (h : kOk (m_Ru_measured u p0 p1 M) (fun r => RI X B L 5 cX4_measured .int rm_Ru_measured r.1 r.2)) : KK X B L 5 0 0 M 0 [(0, .ref (B.1 + u)), (1, .int p0), (2, .int p1)] [] := by
  unfold m_Ru_measured at h
  refine k_iconst G (dc d_Ru_measured 0 rfl) cI_0 ?_
  refine k_istore_n G (dc d_Ru_measured 1 rfl) (ls' := [(3, .int 0), (0, .ref (B.1 + u)), (1, .int p0), (2, .int p1)]) rfl rfl rfl ?_
  refine kJ h (fun r21 => KK X B L 5 0 0 r21 21 [(0, .ref (B.1 + u)), (1, .int p0), (2, .int p1)] []) (fun r21 h => ?_) (fun h => ?_)
  · obtain ⟨M6, rfl⟩ : ∃ z, z = r21 := ⟨_, rfl⟩
    show KK X B L 5 0 0 M6 21 [(0, .ref (B.1 + u)), (1, .int p0), (2, .int p1)] []
    refine k_iload_n G (dc d_Ru_measured 12 rfl) 1 rfl rfl ?_
    refine k_istore_n G (dc d_Ru_measured 13 rfl) (ls' := [(3, .int p0), (0, .ref (B.1 + u)), (1, .int p0), (2, .int p1)]) rfl rfl rfl ?_
    refine k_iconst G (dc d_Ru_measured 14 rfl) cI_0 ?_
    refine k_istore G (dc d_Ru_measured 15 rfl) (ls' := [(4, .int 0), (3, .int p0), (0, .ref (B.1 + u)), (1, .int p0), (2, .int p1)]) rfl rfl ?_
    refine kJ h (fun r19 => KK X B L 5 0 0 r19 57 [(0, .ref (B.1 + u)), (2, .int p1)] []) (fun r19 h => ?_) (fun h => ?_)
    · obtain ⟨M14, rfl⟩ : ∃ z, z = r19 := ⟨_, rfl⟩
      show KK X B L 5 0 0 M14 57 [(0, .ref (B.1 + u)), (2, .int p1)] []
      refine k_aload_n G (dc d_Ru_measured 33 rfl) 0 rfl rfl ?_
      refine k_getR G kc4 (dc d_Ru_measured 34 rfl) (okL_lt hu (o := 0) 0 rfl) (okL_k hu (o := 0) 0 rfl) 0 (by decide) rfl fl_RX4_9 (u + 1) (okL_r hu (o := 0) (c := 1) 0 rfl 0 rfl) ?_
      refine k_iload_n G (dc d_Ru_measured 35 rfl) 1 rfl rfl ?_
      obtain ⟨x16, e15, h⟩ := kOk_b h
      refine k_cSI G (dc d_Ru_measured 36 rfl) mi_Wo_letters ms_Wo_letters ml_RX4_19 (c_Wo_letters (gst G)  e15) rfl rfl ⟨rfl, rfl⟩ rfl ⟨rfl, rfl⟩ ⟨rfl, rfl⟩ ?_
      obtain ⟨x18, e17, h⟩ := kOk_b h
      refine k_ild G (dc d_Ru_measured 37 rfl) (okL_lt hu (o := 1) 1 rfl) (okL_k hu (o := 1) 1 rfl) (okL_n hu (o := 1) 1 rfl) e17 ?_
      exact (kOk_s h) _ _ _ _ rfl rfl rfl (dc d_Ru_measured 38 rfl)
    · refine k_sub [2, 4, 1, 0] rfl ?_
      refine kLp_ok (P := fun s20 => KK X B L 5 0 0 s20.2.2 26 [(0, .ref (B.1 + u)), (2, .int p1), (3, .int s20.1), (4, .int s20.2.1)] []) (fun s20 h => ?_) kFU _ h
      obtain ⟨v3_7, v4_8, M9⟩ := s20
      unfold m_Ru_measured_l26 at h
      show KK X B L 5 0 0 M9 26 [(0, .ref (B.1 + u)), (2, .int p1), (3, .int v3_7), (4, .int v4_8)] []
      refine k_iload G (dc d_Ru_measured 16 rfl) 3 rfl ?_
      refine k_bipush G (dc d_Ru_measured 17 rfl) cB_8 ?_
      refine k_icmp_ge G (dc d_Ru_measured 18 rfl) (tgt := 57) rfl (fun c10 => ?_) (fun c10 => ?_)
      · replace h := kOk_p c10 h
        refine k_sub [0, 1] rfl ?_
        have h9 := kOk_s h
        exact h9
      · replace h := kOk_n c10 h
        refine k_iload_n G (dc d_Ru_measured 19 rfl) 2 rfl rfl ?_
        refine k_if_eq G (dc d_Ru_measured 20 rfl) (tgt := 57) rfl (fun c11 => ?_) (fun c11 => ?_)
        · replace h := kOk_p c11 h
          refine k_sub [0, 1] rfl ?_
          have h9 := kOk_s h
          exact h9
        · replace h := kOk_n c11 h
          refine k_aload_n G (dc d_Ru_measured 21 rfl) 0 rfl rfl ?_
          refine k_iload_n G (dc d_Ru_measured 22 rfl) 2 rfl rfl ?_
          refine k_bipush G (dc d_Ru_measured 23 rfl) cB_10 ?_
          refine k_irem G (dc d_Ru_measured 24 rfl) czI_10 ?_
          refine k_iload_n G (dc d_Ru_measured 25 rfl) 1 rfl rfl ?_
          obtain ⟨M13, e12, h⟩ := kOk_b h
          refine k_cVV G (dc d_Ru_measured 26 rfl) kc4 (okL_lt hu (o := 0) 0 rfl) (okL_k hu (o := 0) 0 rfl) mi_Ru_nextRow mv_Ru_nextRow rfl ml_RX4_15 (c_Ru_nextRow (gst G) hu e12) rfl rfl ⟨rfl, rfl⟩ rfl ⟨rfl, rfl⟩ ⟨rfl, rfl⟩ ?_
          refine k_iload_n G (dc d_Ru_measured 27 rfl) 2 rfl rfl ?_
          refine k_bipush G (dc d_Ru_measured 28 rfl) cB_10 ?_
          refine k_idiv G (dc d_Ru_measured 29 rfl) czI_10 ?_
          refine k_istore_n G (dc d_Ru_measured 30 rfl) (ls' := [(3, .int (v3_7 / 10)), (0, .ref (B.1 + u)), (2, .int p1), (4, .int v4_8)]) rfl rfl rfl ?_
          refine k_iinc G (dc d_Ru_measured 31 rfl) (ls' := [(4, .int (v4_8 + 1)), (3, .int (v3_7 / 10)), (0, .ref (B.1 + u)), (2, .int p1)]) 3 rfl cI_1 rfl rfl ?_
          refine k_goto G (dc d_Ru_measured 32 rfl) (tgt := 26) rfl ?_
          refine k_sub [2, 3, 1, 0] rfl ?_
          have h9 := kOk_s h
          exact h9
  · refine k_sub [1, 2, 3, 0] rfl ?_
    refine kLp_ok (P := fun s22 => KK X B L 5 0 0 s22.2 2 [(0, .ref (B.1 + u)), (1, .int p0), (2, .int p1), (3, .int s22.1)] []) (fun s22 h => ?_) kFU _ h
    obtain ⟨v3_1, M2⟩ := s22
    unfold m_Ru_measured_l2 at h
    show KK X B L 5 0 0 M2 2 [(0, .ref (B.1 + u)), (1, .int p0), (2, .int p1), (3, .int v3_1)] []
    refine k_iload_n G (dc d_Ru_measured 2 rfl) 3 rfl rfl ?_
    refine k_bipush G (dc d_Ru_measured 3 rfl) cB_8 ?_
    refine k_icmp_gt G (dc d_Ru_measured 4 rfl) (tgt := 21) rfl (fun c3 => ?_) (fun c3 => ?_)
    · replace h := kOk_p c3 h
      refine k_sub [0, 1, 2] rfl ?_
      have h9 := kOk_s h
      exact h9
    · replace h := kOk_n c3 h
      refine k_aload_n G (dc d_Ru_measured 5 rfl) 0 rfl rfl ?_
      refine k_getR G kc4 (dc d_Ru_measured 6 rfl) (okL_lt hu (o := 0) 0 rfl) (okL_k hu (o := 0) 0 rfl) 0 (by decide) rfl fl_RX4_9 (u + 1) (okL_r hu (o := 0) (c := 1) 0 rfl 0 rfl) ?_
      refine k_iload_n G (dc d_Ru_measured 7 rfl) 3 rfl rfl ?_
      refine k_iload_n G (dc d_Ru_measured 8 rfl) 3 rfl rfl ?_
      obtain ⟨M5, e4, h⟩ := kOk_b h
      refine k_ist G (dc d_Ru_measured 9 rfl) (okL_lt hu (o := 1) 1 rfl) (okL_k hu (o := 1) 1 rfl) (okL_n hu (o := 1) 1 rfl) e4 ?_
      refine k_iinc G (dc d_Ru_measured 10 rfl) (ls' := [(3, .int (v3_1 + 1)), (0, .ref (B.1 + u)), (1, .int p0), (2, .int p1)]) 3 rfl cI_1 rfl rfl ?_
      refine k_goto G (dc d_Ru_measured 11 rfl) (tgt := 2) rfl ?_
      refine k_sub [1, 2, 3, 0] rfl ?_
      have h9 := kOk_s h
      exact h9
theorem c_Ru_measured {l : Launch} {B : KB} {L : KLay} {M : KMem} {u : Nat} {p0 : Int32} {p1 : Int32} (hst : l.stackTraces = false) (hu : okL L u ruT) {r : Int32} {M' : KMem} (e : m_Ru_measured u p0 p1 M = some (r, M')) : CtrN l B yX4_measured cX4_measured 5 (some .int) rm_Ru_measured [.ref (B.1 + u), .int p0, .int p1] L M (some (.int r)) L M' :=
  mk_I rfl hst rfl (fun X hl G _ R => b_Ru_measured G hu ⟨_, e, R⟩)
