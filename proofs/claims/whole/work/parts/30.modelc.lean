/-! laid by wip/whole/lay.py: Mo_paints, Mo_goesOn, Mo_spares, Mo_errorOfSign, Mo_areArguments, Mo_errorOfDecree, Mo_errorOfAmnesty, Mo_does, Mo_hasReasons -/
def I_Mo_paints : List (Nat × Instr × Nat) := [(0, .aload_n 0, 1), (1, .iload_n 1, 1), (2, .invokevirtual 102, 3), (5, .istore_n 2, 1), (6, .aload_n 0, 1), (7, .getfield 7, 3), (10, .iload_n 1, 1), (11, .iconst 2, 1), (12, .invokestatic 67, 3), (15, .aload_n 0, 1), (16, .iload_n 1, 1), (17, .invokevirtual 73, 3), (20, .iastore, 1), (21, .aload_n 0, 1), (22, .getfield 7, 3), (25, .iload_n 1, 1), (26, .iconst 3, 1), (27, .invokestatic 67, 3), (30, .dup2, 1), (31, .iaload, 1), (32, .iconst 1, 1), (33, .iadd, 1), (34, .iastore, 1), (35, .aload_n 0, 1), (36, .getfield 7, 3), (39, .bipush 102, 2), (41, .aload_n 0, 1), (42, .getfield 7, 3), (45, .iload_n 1, 1), (46, .iconst 0, 1), (47, .invokestatic 67, 3), (50, .iaload, 1), (51, .iadd, 1), (52, .dup2, 1), (53, .iaload, 1), (54, .iload_n 2, 1), (55, .iadd, 1), (56, .iastore, 1), (57, .aload_n 0, 1), (58, .getfield 7, 3), (61, .bipush 96, 2), (63, .dup2, 1), (64, .iaload, 1), (65, .iload_n 2, 1), (66, .iadd, 1), (67, .iastore, 1), (68, .iload_n 2, 1), (69, .ireturn, 1)]
set_option maxRecDepth 100000 in
theorem d_Mo_paints : decA cX11_paints I_Mo_paints = true := by decide +kernel
abbrev rm_Mo_paints : Room := ({ frames := 7, cells := 0, slots := 0, locals := 164 } : Room)
def m_Mo_paints (u : Nat) (p0 : Int32) (M : KMem) : Option (Int32 × KMem) :=
 Option.bind (m_Mo_costOf u p0 M) fun (x2, M3) =>
 Option.bind (m_Mo_of p0 2) fun x5 =>
 Option.bind (m_Mo_rightOf u p0 M3) fun x7 =>
 Option.bind (wrI M3 (u + 1) 108 x5 x7) fun M9 =>
 Option.bind (m_Mo_of p0 3) fun x11 =>
 Option.bind (rdI M9 (u + 1) 108 x11) fun x13 =>
 Option.bind (wrI M9 (u + 1) 108 x11 (x13 + 1)) fun M15 =>
 Option.bind (m_Mo_of p0 0) fun x17 =>
 Option.bind (rdI M15 (u + 1) 108 x17) fun x19 =>
 Option.bind (rdI M15 (u + 1) 108 (102 + x19)) fun x21 =>
 Option.bind (wrI M15 (u + 1) 108 (102 + x19) (x21 + x2)) fun M23 =>
 Option.bind (rdI M23 (u + 1) 108 96) fun x25 =>
 Option.bind (wrI M23 (u + 1) 108 96 (x25 + x2)) fun M27 =>
 some (x2, M27)
set_option maxHeartbeats 4000000 in
set_option maxRecDepth 100000 in
theorem b_Mo_paints {X : KX} {B : KB} {L : KLay} {M : KMem} {u : Nat} {p0 : Int32} (G : Good X B RX11 cX11_paints 3 rm_Mo_paints) (hu : okL L u moT) (h : kOk (m_Mo_paints u p0 M) (fun r => RI X B L 3 cX11_paints .int rm_Mo_paints r.1 r.2)) : KK X B L 3 0 0 M 0 [(0, .ref (B.1 + u)), (1, .int p0)] [] := by
  unfold m_Mo_paints at h
  refine k_aload_n G (dc d_Mo_paints 0 rfl) 0 rfl rfl ?_
  refine k_iload_n G (dc d_Mo_paints 1 rfl) 1 rfl rfl ?_
  obtain ⟨⟨x2, M3⟩, e1, h⟩ := kOk_b h
  refine k_cVI G (dc d_Mo_paints 2 rfl) kc8 (okL_lt hu (o := 0) 0 rfl) (okL_k hu (o := 0) 0 rfl) mi_Mo_costOf mv_Mo_costOf rfl ml_RX11_102 (c_Mo_costOf (gst G) hu e1) rfl rfl ⟨rfl, rfl⟩ rfl ⟨rfl, rfl⟩ ⟨rfl, rfl⟩ ?_
  refine k_istore_n G (dc d_Mo_paints 3 rfl) (ls' := [(2, .int x2), (0, .ref (B.1 + u)), (1, .int p0)]) rfl rfl rfl ?_
  refine k_aload_n G (dc d_Mo_paints 4 rfl) 1 rfl rfl ?_
  refine k_getR G kc8 (dc d_Mo_paints 5 rfl) (okL_lt hu (o := 0) 0 rfl) (okL_k hu (o := 0) 0 rfl) 1 (by decide) rfl fl_RX11_7 (u + 1) (okL_r hu (o := 0) (c := 1) 0 rfl 0 rfl) ?_
  refine k_iload_n G (dc d_Mo_paints 6 rfl) 2 rfl rfl ?_
  refine k_iconst G (dc d_Mo_paints 7 rfl) cI_2 ?_
  obtain ⟨x5, e4, h⟩ := kOk_b h
  refine k_cSI G (dc d_Mo_paints 8 rfl) mi_Mo_of ms_Mo_of ml_RX11_67 (c_Mo_of (gst G)  e4) rfl rfl ⟨rfl, rfl⟩ rfl ⟨rfl, rfl⟩ ⟨rfl, rfl⟩ ?_
  refine k_aload_n G (dc d_Mo_paints 9 rfl) 1 rfl rfl ?_
  refine k_iload_n G (dc d_Mo_paints 10 rfl) 2 rfl rfl ?_
  obtain ⟨x7, e6, h⟩ := kOk_b h
  refine k_cVI G (dc d_Mo_paints 11 rfl) kc8 (okL_lt hu (o := 0) 0 rfl) (okL_k hu (o := 0) 0 rfl) mi_Mo_rightOf mv_Mo_rightOf rfl ml_RX11_73 (c_Mo_rightOf (gst G) hu e6) rfl rfl ⟨rfl, rfl⟩ rfl ⟨rfl, rfl⟩ ⟨rfl, rfl⟩ ?_
  obtain ⟨M9, e8, h⟩ := kOk_b h
  refine k_ist G (dc d_Mo_paints 12 rfl) (okL_lt hu (o := 1) 1 rfl) (okL_k hu (o := 1) 1 rfl) (okL_n hu (o := 1) 1 rfl) e8 ?_
  refine k_aload_n G (dc d_Mo_paints 13 rfl) 1 rfl rfl ?_
  refine k_getR G kc8 (dc d_Mo_paints 14 rfl) (okL_lt hu (o := 0) 0 rfl) (okL_k hu (o := 0) 0 rfl) 1 (by decide) rfl fl_RX11_7 (u + 1) (okL_r hu (o := 0) (c := 1) 0 rfl 0 rfl) ?_
  refine k_iload_n G (dc d_Mo_paints 15 rfl) 2 rfl rfl ?_
  refine k_iconst G (dc d_Mo_paints 16 rfl) cI_3 ?_
  obtain ⟨x11, e10, h⟩ := kOk_b h
  refine k_cSI G (dc d_Mo_paints 17 rfl) mi_Mo_of ms_Mo_of ml_RX11_67 (c_Mo_of (gst G)  e10) rfl rfl ⟨rfl, rfl⟩ rfl ⟨rfl, rfl⟩ ⟨rfl, rfl⟩ ?_
  refine k_dup2 G (dc d_Mo_paints 18 rfl) rfl rfl ?_
  obtain ⟨x13, e12, h⟩ := kOk_b h
  refine k_ild G (dc d_Mo_paints 19 rfl) (okL_lt hu (o := 1) 1 rfl) (okL_k hu (o := 1) 1 rfl) (okL_n hu (o := 1) 1 rfl) e12 ?_
  refine k_iconst G (dc d_Mo_paints 20 rfl) cI_1 ?_
  refine k_iadd G (dc d_Mo_paints 21 rfl) ?_
  obtain ⟨M15, e14, h⟩ := kOk_b h
  refine k_ist G (dc d_Mo_paints 22 rfl) (okL_lt hu (o := 1) 1 rfl) (okL_k hu (o := 1) 1 rfl) (okL_n hu (o := 1) 1 rfl) e14 ?_
  refine k_aload_n G (dc d_Mo_paints 23 rfl) 1 rfl rfl ?_
  refine k_getR G kc8 (dc d_Mo_paints 24 rfl) (okL_lt hu (o := 0) 0 rfl) (okL_k hu (o := 0) 0 rfl) 1 (by decide) rfl fl_RX11_7 (u + 1) (okL_r hu (o := 0) (c := 1) 0 rfl 0 rfl) ?_
  refine k_bipush G (dc d_Mo_paints 25 rfl) cB_102 ?_
  refine k_aload_n G (dc d_Mo_paints 26 rfl) 1 rfl rfl ?_
  refine k_getR G kc8 (dc d_Mo_paints 27 rfl) (okL_lt hu (o := 0) 0 rfl) (okL_k hu (o := 0) 0 rfl) 1 (by decide) rfl fl_RX11_7 (u + 1) (okL_r hu (o := 0) (c := 1) 0 rfl 0 rfl) ?_
  refine k_iload_n G (dc d_Mo_paints 28 rfl) 2 rfl rfl ?_
  refine k_iconst G (dc d_Mo_paints 29 rfl) cI_0 ?_
  obtain ⟨x17, e16, h⟩ := kOk_b h
  refine k_cSI G (dc d_Mo_paints 30 rfl) mi_Mo_of ms_Mo_of ml_RX11_67 (c_Mo_of (gst G)  e16) rfl rfl ⟨rfl, rfl⟩ rfl ⟨rfl, rfl⟩ ⟨rfl, rfl⟩ ?_
  obtain ⟨x19, e18, h⟩ := kOk_b h
  refine k_ild G (dc d_Mo_paints 31 rfl) (okL_lt hu (o := 1) 1 rfl) (okL_k hu (o := 1) 1 rfl) (okL_n hu (o := 1) 1 rfl) e18 ?_
  refine k_iadd G (dc d_Mo_paints 32 rfl) ?_
  refine k_dup2 G (dc d_Mo_paints 33 rfl) rfl rfl ?_
  obtain ⟨x21, e20, h⟩ := kOk_b h
  refine k_ild G (dc d_Mo_paints 34 rfl) (okL_lt hu (o := 1) 1 rfl) (okL_k hu (o := 1) 1 rfl) (okL_n hu (o := 1) 1 rfl) e20 ?_
  refine k_iload_n G (dc d_Mo_paints 35 rfl) 0 rfl rfl ?_
  refine k_iadd G (dc d_Mo_paints 36 rfl) ?_
  obtain ⟨M23, e22, h⟩ := kOk_b h
  refine k_ist G (dc d_Mo_paints 37 rfl) (okL_lt hu (o := 1) 1 rfl) (okL_k hu (o := 1) 1 rfl) (okL_n hu (o := 1) 1 rfl) e22 ?_
  refine k_aload_n G (dc d_Mo_paints 38 rfl) 1 rfl rfl ?_
  refine k_getR G kc8 (dc d_Mo_paints 39 rfl) (okL_lt hu (o := 0) 0 rfl) (okL_k hu (o := 0) 0 rfl) 1 (by decide) rfl fl_RX11_7 (u + 1) (okL_r hu (o := 0) (c := 1) 0 rfl 0 rfl) ?_
  refine k_bipush G (dc d_Mo_paints 40 rfl) cB_96 ?_
  refine k_dup2 G (dc d_Mo_paints 41 rfl) rfl rfl ?_
  obtain ⟨x25, e24, h⟩ := kOk_b h
  refine k_ild G (dc d_Mo_paints 42 rfl) (okL_lt hu (o := 1) 1 rfl) (okL_k hu (o := 1) 1 rfl) (okL_n hu (o := 1) 1 rfl) e24 ?_
  refine k_iload_n G (dc d_Mo_paints 43 rfl) 0 rfl rfl ?_
  refine k_iadd G (dc d_Mo_paints 44 rfl) ?_
  obtain ⟨M27, e26, h⟩ := kOk_b h
  refine k_ist G (dc d_Mo_paints 45 rfl) (okL_lt hu (o := 1) 1 rfl) (okL_k hu (o := 1) 1 rfl) (okL_n hu (o := 1) 1 rfl) e26 ?_
  refine k_iload_n G (dc d_Mo_paints 46 rfl) 0 rfl rfl ?_
  exact (kOk_s h) _ _ _ _ rfl rfl rfl (dc d_Mo_paints 47 rfl)
theorem c_Mo_paints {l : Launch} {B : KB} {L : KLay} {M : KMem} {u : Nat} {p0 : Int32} (hst : l.stackTraces = false) (hu : okL L u moT) {r : Int32} {M' : KMem} (e : m_Mo_paints u p0 M = some (r, M')) : CtrN l B yX11_paints cX11_paints 3 (some .int) rm_Mo_paints [.ref (B.1 + u), .int p0] L M (some (.int r)) L M' :=
  mk_I rfl hst rfl (fun X hl G _ R => b_Mo_paints G hu ⟨_, e, R⟩)
def I_Mo_goesOn : List (Nat × Instr × Nat) := [(0, .aload_n 0, 1), (1, .getfield 7, 3), (4, .bipush 95, 2), (6, .iaload, 1), (7, .istore_n 2, 1), (8, .iconst 0, 1), (9, .istore_n 3, 1), (10, .iload_n 3, 1), (11, .iload_n 1, 1), (12, .if_icmp .ge 149, 3), (15, .aload_n 0, 1), (16, .getfield 7, 3), (19, .bipush 92, 2), (21, .dup2, 1), (22, .iaload, 1), (23, .iconst 1, 1), (24, .iadd, 1), (25, .iastore, 1), (26, .iconst 0, 1), (27, .istore 4, 2), (29, .iload 4, 2), (31, .aload_n 0, 1), (32, .getfield 7, 3), (35, .iconst 0, 1), (36, .iaload, 1), (37, .if_icmp .ge 93, 3), (40, .aload_n 0, 1), (41, .getfield 7, 3), (44, .bipush 93, 2), (46, .iaload, 1), (47, .ifCond .ne 83, 3), (50, .aload_n 0, 1), (51, .iload 4, 2), (53, .invokevirtual 85, 3), (56, .ifCond .eq 13, 3), (59, .aload_n 0, 1), (60, .getfield 7, 3), (63, .bipush 107, 2), (65, .iaload, 1), (66, .goto 4, 3), (69, .iconst 0, 1), (70, .istore 5, 2), (72, .aload_n 0, 1), (73, .getfield 7, 3), (76, .iload 4, 2), (78, .iconst 4, 1), (79, .invokestatic 67, 3), (82, .dup2, 1), (83, .iaload, 1), (84, .iload 5, 2), (86, .iadd, 1), (87, .iastore, 1), (88, .aload_n 0, 1), (89, .getfield 7, 3), (92, .bipush 98, 2), (94, .aload_n 0, 1), (95, .getfield 7, 3), (98, .iload 4, 2), (100, .iconst 0, 1), (101, .invokestatic 67, 3), (104, .iaload, 1), (105, .iadd, 1), (106, .dup2, 1), (107, .iaload, 1), (108, .iload 5, 2), (110, .iadd, 1), (111, .iastore, 1), (112, .aload_n 0, 1), (113, .getfield 7, 3), (116, .bipush 95, 2), (118, .dup2, 1), (119, .iaload, 1), (120, .iload 5, 2), (122, .iadd, 1), (123, .iastore, 1), (124, .iinc 4 1, 3), (127, .goto (-98), 3), (130, .aload_n 0, 1), (131, .getfield 7, 3), (134, .bipush 93, 2), (136, .dup2, 1), (137, .iaload, 1), (138, .aload_n 0, 1), (139, .getfield 7, 3), (142, .bipush 93, 2), (144, .iaload, 1), (145, .ifCond .le 7, 3), (148, .iconst 1, 1), (149, .goto 4, 3), (152, .iconst 0, 1), (153, .isub, 1), (154, .iastore, 1), (155, .iinc 3 1, 3), (158, .goto (-148), 3), (161, .aload_n 0, 1), (162, .getfield 7, 3), (165, .bipush 95, 2), (167, .iaload, 1), (168, .iload_n 2, 1), (169, .isub, 1), (170, .ireturn, 1)]
set_option maxRecDepth 100000 in
theorem d_Mo_goesOn : decA cX11_goesOn I_Mo_goesOn = true := by decide +kernel
abbrev rm_Mo_goesOn : Room := ({ frames := 6, cells := 0, slots := 0, locals := 143 } : Room)
def m_Mo_goesOn_l29 (u : Nat) : (Int32 × KMem) → Option ((Int32 × KMem) ⊕ KMem) := fun (v4_10, M11) =>
 Option.bind (rdI M11 (u + 1) 108 0) fun x13 =>
 if x13 ≤ v4_10 then
 (some (.inr M11))
 else
 (Option.bind (rdI M11 (u + 1) 108 93) fun x16 =>
 if x16 = 0 then
 (Option.bind (m_Mo_isWrong u v4_10 M11) fun x19 =>
 Option.bind (α := Int32) (if x19 = 0 then
 (some 0)
 else
 (Option.bind (rdI M11 (u + 1) 108 107) fun x42 =>
 some x42)) fun t20 =>
 Option.bind (m_Mo_of v4_10 4) fun x23 =>
 Option.bind (rdI M11 (u + 1) 108 x23) fun x25 =>
 Option.bind (wrI M11 (u + 1) 108 x23 (x25 + t20)) fun M27 =>
 Option.bind (m_Mo_of v4_10 0) fun x29 =>
 Option.bind (rdI M27 (u + 1) 108 x29) fun x31 =>
 Option.bind (rdI M27 (u + 1) 108 (98 + x31)) fun x33 =>
 Option.bind (wrI M27 (u + 1) 108 (98 + x31) (x33 + t20)) fun M35 =>
 Option.bind (rdI M35 (u + 1) 108 95) fun x37 =>
 Option.bind (wrI M35 (u + 1) 108 95 (x37 + t20)) fun M39 =>
 some (.inl (v4_10 + 1, M39)))
 else
 (some (.inr M11)))
def m_Mo_goesOn_l10 (u : Nat) (p0 : Int32) : (Int32 × KMem) → Option ((Int32 × KMem) ⊕ KMem) := fun (v3_3, M4) =>
 if p0 ≤ v3_3 then
 (some (.inr M4))
 else
 (Option.bind (rdI M4 (u + 1) 108 92) fun x7 =>
 Option.bind (wrI M4 (u + 1) 108 92 (x7 + 1)) fun M9 =>
 Option.bind (α := KMem) (kLp (m_Mo_goesOn_l29 u) kFU (0, M9)) fun M43 =>
 Option.bind (rdI M43 (u + 1) 108 93) fun x45 =>
 Option.bind (rdI M43 (u + 1) 108 93) fun x47 =>
 Option.bind (α := Int32) (if x47 ≤ 0 then
 (some 0)
 else
 (some 1)) fun t48 =>
 Option.bind (wrI M43 (u + 1) 108 93 (x45 - t48)) fun M51 =>
 some (.inl (v3_3 + 1, M51)))
def m_Mo_goesOn (u : Nat) (p0 : Int32) (M : KMem) : Option (Int32 × KMem) :=
 Option.bind (rdI M (u + 1) 108 95) fun x2 =>
 Option.bind (α := KMem) (kLp (m_Mo_goesOn_l10 u p0) kFU (0, M)) fun M55 =>
 Option.bind (rdI M55 (u + 1) 108 95) fun x57 =>
 some (x57 - x2, M55)
set_option maxHeartbeats 4000000 in
set_option maxRecDepth 100000 in
theorem b_Mo_goesOn {X : KX} {B : KB} {L : KLay} {M : KMem} {u : Nat} {p0 : Int32} (G : Good X B RX11 cX11_goesOn 6 rm_Mo_goesOn) (hu : okL L u moT) (h : kOk (m_Mo_goesOn u p0 M) (fun r => RI X B L 6 cX11_goesOn .int rm_Mo_goesOn r.1 r.2)) : KK X B L 6 0 0 M 0 [(0, .ref (B.1 + u)), (1, .int p0)] [] := by
  unfold m_Mo_goesOn at h
  refine k_aload_n G (dc d_Mo_goesOn 0 rfl) 0 rfl rfl ?_
  refine k_getR G kc8 (dc d_Mo_goesOn 1 rfl) (okL_lt hu (o := 0) 0 rfl) (okL_k hu (o := 0) 0 rfl) 1 (by decide) rfl fl_RX11_7 (u + 1) (okL_r hu (o := 0) (c := 1) 0 rfl 0 rfl) ?_
  refine k_bipush G (dc d_Mo_goesOn 2 rfl) cB_95 ?_
  obtain ⟨x2, e1, h⟩ := kOk_b h
  refine k_ild G (dc d_Mo_goesOn 3 rfl) (okL_lt hu (o := 1) 1 rfl) (okL_k hu (o := 1) 1 rfl) (okL_n hu (o := 1) 1 rfl) e1 ?_
  refine k_istore_n G (dc d_Mo_goesOn 4 rfl) (ls' := [(2, .int x2), (0, .ref (B.1 + u)), (1, .int p0)]) rfl rfl rfl ?_
  refine k_iconst G (dc d_Mo_goesOn 5 rfl) cI_0 ?_
  refine k_istore_n G (dc d_Mo_goesOn 6 rfl) (ls' := [(3, .int 0), (2, .int x2), (0, .ref (B.1 + u)), (1, .int p0)]) rfl rfl rfl ?_
  refine kJ h (fun r58 => KK X B L 6 0 0 r58 161 [(0, .ref (B.1 + u)), (2, .int x2)] []) (fun r58 h => ?_) (fun h => ?_)
  · obtain ⟨M55, rfl⟩ : ∃ z, z = r58 := ⟨_, rfl⟩
    show KK X B L 6 0 0 M55 161 [(0, .ref (B.1 + u)), (2, .int x2)] []
    refine k_aload_n G (dc d_Mo_goesOn 94 rfl) 0 rfl rfl ?_
    refine k_getR G kc8 (dc d_Mo_goesOn 95 rfl) (okL_lt hu (o := 0) 0 rfl) (okL_k hu (o := 0) 0 rfl) 1 (by decide) rfl fl_RX11_7 (u + 1) (okL_r hu (o := 0) (c := 1) 0 rfl 0 rfl) ?_
    refine k_bipush G (dc d_Mo_goesOn 96 rfl) cB_95 ?_
    obtain ⟨x57, e56, h⟩ := kOk_b h
    refine k_ild G (dc d_Mo_goesOn 97 rfl) (okL_lt hu (o := 1) 1 rfl) (okL_k hu (o := 1) 1 rfl) (okL_n hu (o := 1) 1 rfl) e56 ?_
    refine k_iload_n G (dc d_Mo_goesOn 98 rfl) 1 rfl rfl ?_
    refine k_isub G (dc d_Mo_goesOn 99 rfl) ?_
    exact (kOk_s h) _ _ _ _ rfl rfl rfl (dc d_Mo_goesOn 100 rfl)
  · refine k_sub [2, 3, 1, 0] rfl ?_
    refine kLp_ok (P := fun s59 => KK X B L 6 0 0 s59.2 10 [(0, .ref (B.1 + u)), (1, .int p0), (2, .int x2), (3, .int s59.1)] []) (fun s59 h => ?_) kFU _ h
    obtain ⟨v3_3, M4⟩ := s59
    unfold m_Mo_goesOn_l10 at h
    show KK X B L 6 0 0 M4 10 [(0, .ref (B.1 + u)), (1, .int p0), (2, .int x2), (3, .int v3_3)] []
    refine k_iload_n G (dc d_Mo_goesOn 7 rfl) 3 rfl rfl ?_
    refine k_iload_n G (dc d_Mo_goesOn 8 rfl) 1 rfl rfl ?_
    refine k_icmp_ge G (dc d_Mo_goesOn 9 rfl) (tgt := 161) rfl (fun c5 => ?_) (fun c5 => ?_)
    · replace h := kOk_p c5 h
      refine k_sub [0, 2] rfl ?_
      have h9 := kOk_s h
      exact h9
    · replace h := kOk_n c5 h
      refine k_aload_n G (dc d_Mo_goesOn 10 rfl) 0 rfl rfl ?_
      refine k_getR G kc8 (dc d_Mo_goesOn 11 rfl) (okL_lt hu (o := 0) 0 rfl) (okL_k hu (o := 0) 0 rfl) 1 (by decide) rfl fl_RX11_7 (u + 1) (okL_r hu (o := 0) (c := 1) 0 rfl 0 rfl) ?_
      refine k_bipush G (dc d_Mo_goesOn 12 rfl) cB_92 ?_
      refine k_dup2 G (dc d_Mo_goesOn 13 rfl) rfl rfl ?_
      obtain ⟨x7, e6, h⟩ := kOk_b h
      refine k_ild G (dc d_Mo_goesOn 14 rfl) (okL_lt hu (o := 1) 1 rfl) (okL_k hu (o := 1) 1 rfl) (okL_n hu (o := 1) 1 rfl) e6 ?_
      refine k_iconst G (dc d_Mo_goesOn 15 rfl) cI_1 ?_
      refine k_iadd G (dc d_Mo_goesOn 16 rfl) ?_
      obtain ⟨M9, e8, h⟩ := kOk_b h
      refine k_ist G (dc d_Mo_goesOn 17 rfl) (okL_lt hu (o := 1) 1 rfl) (okL_k hu (o := 1) 1 rfl) (okL_n hu (o := 1) 1 rfl) e8 ?_
      refine k_iconst G (dc d_Mo_goesOn 18 rfl) cI_0 ?_
      refine k_istore G (dc d_Mo_goesOn 19 rfl) (ls' := [(4, .int 0), (0, .ref (B.1 + u)), (1, .int p0), (2, .int x2), (3, .int v3_3)]) rfl rfl ?_
      refine kJ h (fun r53 => KK X B L 6 0 0 r53 130 [(0, .ref (B.1 + u)), (1, .int p0), (2, .int x2), (3, .int v3_3)] []) (fun r53 h => ?_) (fun h => ?_)
      · obtain ⟨M43, rfl⟩ : ∃ z, z = r53 := ⟨_, rfl⟩
        show KK X B L 6 0 0 M43 130 [(0, .ref (B.1 + u)), (1, .int p0), (2, .int x2), (3, .int v3_3)] []
        refine k_aload_n G (dc d_Mo_goesOn 77 rfl) 0 rfl rfl ?_
        refine k_getR G kc8 (dc d_Mo_goesOn 78 rfl) (okL_lt hu (o := 0) 0 rfl) (okL_k hu (o := 0) 0 rfl) 1 (by decide) rfl fl_RX11_7 (u + 1) (okL_r hu (o := 0) (c := 1) 0 rfl 0 rfl) ?_
        refine k_bipush G (dc d_Mo_goesOn 79 rfl) cB_93 ?_
        refine k_dup2 G (dc d_Mo_goesOn 80 rfl) rfl rfl ?_
        obtain ⟨x45, e44, h⟩ := kOk_b h
        refine k_ild G (dc d_Mo_goesOn 81 rfl) (okL_lt hu (o := 1) 1 rfl) (okL_k hu (o := 1) 1 rfl) (okL_n hu (o := 1) 1 rfl) e44 ?_
        refine k_aload_n G (dc d_Mo_goesOn 82 rfl) 0 rfl rfl ?_
        refine k_getR G kc8 (dc d_Mo_goesOn 83 rfl) (okL_lt hu (o := 0) 0 rfl) (okL_k hu (o := 0) 0 rfl) 1 (by decide) rfl fl_RX11_7 (u + 1) (okL_r hu (o := 0) (c := 1) 0 rfl 0 rfl) ?_
        refine k_bipush G (dc d_Mo_goesOn 84 rfl) cB_93 ?_
        obtain ⟨x47, e46, h⟩ := kOk_b h
        refine k_ild G (dc d_Mo_goesOn 85 rfl) (okL_lt hu (o := 1) 1 rfl) (okL_k hu (o := 1) 1 rfl) (okL_n hu (o := 1) 1 rfl) e46 ?_
        refine kJ h (fun r49 => KK X B L 6 0 0 M43 153 [(0, .ref (B.1 + u)), (1, .int p0), (2, .int x2), (3, .int v3_3)] [.int r49, .int x45, .int 93, .ref (B.1 + (u + 1))]) (fun r49 h => ?_) (fun h => ?_)
        · obtain ⟨t48, rfl⟩ : ∃ z, z = r49 := ⟨_, rfl⟩
          show KK X B L 6 0 0 M43 153 [(0, .ref (B.1 + u)), (1, .int p0), (2, .int x2), (3, .int v3_3)] [.int t48, .int x45, .int 93, .ref (B.1 + (u + 1))]
          refine k_isub G (dc d_Mo_goesOn 90 rfl) ?_
          obtain ⟨M51, e50, h⟩ := kOk_b h
          refine k_ist G (dc d_Mo_goesOn 91 rfl) (okL_lt hu (o := 1) 1 rfl) (okL_k hu (o := 1) 1 rfl) (okL_n hu (o := 1) 1 rfl) e50 ?_
          refine k_iinc G (dc d_Mo_goesOn 92 rfl) (ls' := [(3, .int (v3_3 + 1)), (0, .ref (B.1 + u)), (1, .int p0), (2, .int x2)]) 3 rfl cI_1 rfl rfl ?_
          refine k_goto G (dc d_Mo_goesOn 93 rfl) (tgt := 10) rfl ?_
          refine k_sub [1, 2, 3, 0] rfl ?_
          have h9 := kOk_s h
          exact h9
        · refine k_if_le G (dc d_Mo_goesOn 86 rfl) (tgt := 152) rfl (fun c52 => ?_) (fun c52 => ?_)
          · replace h := kOk_p c52 h
            refine k_iconst G (dc d_Mo_goesOn 89 rfl) cI_0 ?_
            have h9 := kOk_s h
            exact h9
          · replace h := kOk_n c52 h
            refine k_iconst G (dc d_Mo_goesOn 87 rfl) cI_1 ?_
            refine k_goto G (dc d_Mo_goesOn 88 rfl) (tgt := 153) rfl ?_
            have h9 := kOk_s h
            exact h9
      · refine k_sub [1, 2, 3, 4, 0] rfl ?_
        refine kLp_ok (P := fun s54 => KK X B L 6 0 0 s54.2 29 [(0, .ref (B.1 + u)), (1, .int p0), (2, .int x2), (3, .int v3_3), (4, .int s54.1)] []) (fun s54 h => ?_) kFU _ h
        obtain ⟨v4_10, M11⟩ := s54
        unfold m_Mo_goesOn_l29 at h
        show KK X B L 6 0 0 M11 29 [(0, .ref (B.1 + u)), (1, .int p0), (2, .int x2), (3, .int v3_3), (4, .int v4_10)] []
        refine k_iload G (dc d_Mo_goesOn 20 rfl) 4 rfl ?_
        refine k_aload_n G (dc d_Mo_goesOn 21 rfl) 0 rfl rfl ?_
        refine k_getR G kc8 (dc d_Mo_goesOn 22 rfl) (okL_lt hu (o := 0) 0 rfl) (okL_k hu (o := 0) 0 rfl) 1 (by decide) rfl fl_RX11_7 (u + 1) (okL_r hu (o := 0) (c := 1) 0 rfl 0 rfl) ?_
        refine k_iconst G (dc d_Mo_goesOn 23 rfl) cI_0 ?_
        obtain ⟨x13, e12, h⟩ := kOk_b h
        refine k_ild G (dc d_Mo_goesOn 24 rfl) (okL_lt hu (o := 1) 1 rfl) (okL_k hu (o := 1) 1 rfl) (okL_n hu (o := 1) 1 rfl) e12 ?_
        refine k_icmp_ge G (dc d_Mo_goesOn 25 rfl) (tgt := 130) rfl (fun c14 => ?_) (fun c14 => ?_)
        · replace h := kOk_p c14 h
          refine k_sub [0, 1, 2, 3] rfl ?_
          have h9 := kOk_s h
          exact h9
        · replace h := kOk_n c14 h
          refine k_aload_n G (dc d_Mo_goesOn 26 rfl) 0 rfl rfl ?_
          refine k_getR G kc8 (dc d_Mo_goesOn 27 rfl) (okL_lt hu (o := 0) 0 rfl) (okL_k hu (o := 0) 0 rfl) 1 (by decide) rfl fl_RX11_7 (u + 1) (okL_r hu (o := 0) (c := 1) 0 rfl 0 rfl) ?_
          refine k_bipush G (dc d_Mo_goesOn 28 rfl) cB_93 ?_
          obtain ⟨x16, e15, h⟩ := kOk_b h
          refine k_ild G (dc d_Mo_goesOn 29 rfl) (okL_lt hu (o := 1) 1 rfl) (okL_k hu (o := 1) 1 rfl) (okL_n hu (o := 1) 1 rfl) e15 ?_
          refine k_if_ne G (dc d_Mo_goesOn 30 rfl) (tgt := 130) rfl (fun c17 => ?_) (fun c17 => ?_)
          · replace h := kOk_n c17 h
            refine k_sub [0, 1, 2, 3] rfl ?_
            have h9 := kOk_s h
            exact h9
          · replace h := kOk_p c17 h
            refine k_aload_n G (dc d_Mo_goesOn 31 rfl) 0 rfl rfl ?_
            refine k_iload G (dc d_Mo_goesOn 32 rfl) 4 rfl ?_
            obtain ⟨x19, e18, h⟩ := kOk_b h
            refine k_cVI G (dc d_Mo_goesOn 33 rfl) kc8 (okL_lt hu (o := 0) 0 rfl) (okL_k hu (o := 0) 0 rfl) mi_Mo_isWrong mv_Mo_isWrong rfl ml_RX11_85 (c_Mo_isWrong (gst G) hu e18) rfl rfl ⟨rfl, rfl⟩ rfl ⟨rfl, rfl⟩ ⟨rfl, rfl⟩ ?_
            refine kJ h (fun r21 => KK X B L 6 0 0 M11 70 [(0, .ref (B.1 + u)), (1, .int p0), (2, .int x2), (3, .int v3_3), (4, .int v4_10)] [.int r21]) (fun r21 h => ?_) (fun h => ?_)
            · obtain ⟨t20, rfl⟩ : ∃ z, z = r21 := ⟨_, rfl⟩
              show KK X B L 6 0 0 M11 70 [(0, .ref (B.1 + u)), (1, .int p0), (2, .int x2), (3, .int v3_3), (4, .int v4_10)] [.int t20]
              refine k_istore G (dc d_Mo_goesOn 41 rfl) (ls' := [(5, .int t20), (0, .ref (B.1 + u)), (1, .int p0), (2, .int x2), (3, .int v3_3), (4, .int v4_10)]) rfl rfl ?_
              refine k_aload_n G (dc d_Mo_goesOn 42 rfl) 1 rfl rfl ?_
              refine k_getR G kc8 (dc d_Mo_goesOn 43 rfl) (okL_lt hu (o := 0) 0 rfl) (okL_k hu (o := 0) 0 rfl) 1 (by decide) rfl fl_RX11_7 (u + 1) (okL_r hu (o := 0) (c := 1) 0 rfl 0 rfl) ?_
              refine k_iload G (dc d_Mo_goesOn 44 rfl) 5 rfl ?_
              refine k_iconst G (dc d_Mo_goesOn 45 rfl) cI_4 ?_
              obtain ⟨x23, e22, h⟩ := kOk_b h
              refine k_cSI G (dc d_Mo_goesOn 46 rfl) mi_Mo_of ms_Mo_of ml_RX11_67 (c_Mo_of (gst G)  e22) rfl rfl ⟨rfl, rfl⟩ rfl ⟨rfl, rfl⟩ ⟨rfl, rfl⟩ ?_
              refine k_dup2 G (dc d_Mo_goesOn 47 rfl) rfl rfl ?_
              obtain ⟨x25, e24, h⟩ := kOk_b h
              refine k_ild G (dc d_Mo_goesOn 48 rfl) (okL_lt hu (o := 1) 1 rfl) (okL_k hu (o := 1) 1 rfl) (okL_n hu (o := 1) 1 rfl) e24 ?_
              refine k_iload G (dc d_Mo_goesOn 49 rfl) 0 rfl ?_
              refine k_iadd G (dc d_Mo_goesOn 50 rfl) ?_
              obtain ⟨M27, e26, h⟩ := kOk_b h
              refine k_ist G (dc d_Mo_goesOn 51 rfl) (okL_lt hu (o := 1) 1 rfl) (okL_k hu (o := 1) 1 rfl) (okL_n hu (o := 1) 1 rfl) e26 ?_
              refine k_aload_n G (dc d_Mo_goesOn 52 rfl) 1 rfl rfl ?_
              refine k_getR G kc8 (dc d_Mo_goesOn 53 rfl) (okL_lt hu (o := 0) 0 rfl) (okL_k hu (o := 0) 0 rfl) 1 (by decide) rfl fl_RX11_7 (u + 1) (okL_r hu (o := 0) (c := 1) 0 rfl 0 rfl) ?_
              refine k_bipush G (dc d_Mo_goesOn 54 rfl) cB_98 ?_
              refine k_aload_n G (dc d_Mo_goesOn 55 rfl) 1 rfl rfl ?_
              refine k_getR G kc8 (dc d_Mo_goesOn 56 rfl) (okL_lt hu (o := 0) 0 rfl) (okL_k hu (o := 0) 0 rfl) 1 (by decide) rfl fl_RX11_7 (u + 1) (okL_r hu (o := 0) (c := 1) 0 rfl 0 rfl) ?_
              refine k_iload G (dc d_Mo_goesOn 57 rfl) 5 rfl ?_
              refine k_iconst G (dc d_Mo_goesOn 58 rfl) cI_0 ?_
              obtain ⟨x29, e28, h⟩ := kOk_b h
              refine k_cSI G (dc d_Mo_goesOn 59 rfl) mi_Mo_of ms_Mo_of ml_RX11_67 (c_Mo_of (gst G)  e28) rfl rfl ⟨rfl, rfl⟩ rfl ⟨rfl, rfl⟩ ⟨rfl, rfl⟩ ?_
              obtain ⟨x31, e30, h⟩ := kOk_b h
              refine k_ild G (dc d_Mo_goesOn 60 rfl) (okL_lt hu (o := 1) 1 rfl) (okL_k hu (o := 1) 1 rfl) (okL_n hu (o := 1) 1 rfl) e30 ?_
              refine k_iadd G (dc d_Mo_goesOn 61 rfl) ?_
              refine k_dup2 G (dc d_Mo_goesOn 62 rfl) rfl rfl ?_
              obtain ⟨x33, e32, h⟩ := kOk_b h
              refine k_ild G (dc d_Mo_goesOn 63 rfl) (okL_lt hu (o := 1) 1 rfl) (okL_k hu (o := 1) 1 rfl) (okL_n hu (o := 1) 1 rfl) e32 ?_
              refine k_iload G (dc d_Mo_goesOn 64 rfl) 0 rfl ?_
              refine k_iadd G (dc d_Mo_goesOn 65 rfl) ?_
              obtain ⟨M35, e34, h⟩ := kOk_b h
              refine k_ist G (dc d_Mo_goesOn 66 rfl) (okL_lt hu (o := 1) 1 rfl) (okL_k hu (o := 1) 1 rfl) (okL_n hu (o := 1) 1 rfl) e34 ?_
              refine k_aload_n G (dc d_Mo_goesOn 67 rfl) 1 rfl rfl ?_
              refine k_getR G kc8 (dc d_Mo_goesOn 68 rfl) (okL_lt hu (o := 0) 0 rfl) (okL_k hu (o := 0) 0 rfl) 1 (by decide) rfl fl_RX11_7 (u + 1) (okL_r hu (o := 0) (c := 1) 0 rfl 0 rfl) ?_
              refine k_bipush G (dc d_Mo_goesOn 69 rfl) cB_95 ?_
              refine k_dup2 G (dc d_Mo_goesOn 70 rfl) rfl rfl ?_
              obtain ⟨x37, e36, h⟩ := kOk_b h
              refine k_ild G (dc d_Mo_goesOn 71 rfl) (okL_lt hu (o := 1) 1 rfl) (okL_k hu (o := 1) 1 rfl) (okL_n hu (o := 1) 1 rfl) e36 ?_
              refine k_iload G (dc d_Mo_goesOn 72 rfl) 0 rfl ?_
              refine k_iadd G (dc d_Mo_goesOn 73 rfl) ?_
              obtain ⟨M39, e38, h⟩ := kOk_b h
              refine k_ist G (dc d_Mo_goesOn 74 rfl) (okL_lt hu (o := 1) 1 rfl) (okL_k hu (o := 1) 1 rfl) (okL_n hu (o := 1) 1 rfl) e38 ?_
              refine k_iinc G (dc d_Mo_goesOn 75 rfl) (ls' := [(4, .int (v4_10 + 1)), (5, .int t20), (0, .ref (B.1 + u)), (1, .int p0), (2, .int x2), (3, .int v3_3)]) 5 rfl cI_1 rfl rfl ?_
              refine k_goto G (dc d_Mo_goesOn 76 rfl) (tgt := 29) rfl ?_
              refine k_sub [2, 3, 4, 5, 0] rfl ?_
              have h9 := kOk_s h
              exact h9
            · refine k_if_eq G (dc d_Mo_goesOn 34 rfl) (tgt := 69) rfl (fun c40 => ?_) (fun c40 => ?_)
              · replace h := kOk_p c40 h
                refine k_iconst G (dc d_Mo_goesOn 40 rfl) cI_0 ?_
                have h9 := kOk_s h
                exact h9
              · replace h := kOk_n c40 h
                refine k_aload_n G (dc d_Mo_goesOn 35 rfl) 0 rfl rfl ?_
                refine k_getR G kc8 (dc d_Mo_goesOn 36 rfl) (okL_lt hu (o := 0) 0 rfl) (okL_k hu (o := 0) 0 rfl) 1 (by decide) rfl fl_RX11_7 (u + 1) (okL_r hu (o := 0) (c := 1) 0 rfl 0 rfl) ?_
                refine k_bipush G (dc d_Mo_goesOn 37 rfl) cB_107 ?_
                obtain ⟨x42, e41, h⟩ := kOk_b h
                refine k_ild G (dc d_Mo_goesOn 38 rfl) (okL_lt hu (o := 1) 1 rfl) (okL_k hu (o := 1) 1 rfl) (okL_n hu (o := 1) 1 rfl) e41 ?_
                refine k_goto G (dc d_Mo_goesOn 39 rfl) (tgt := 70) rfl ?_
                have h9 := kOk_s h
                exact h9
theorem c_Mo_goesOn {l : Launch} {B : KB} {L : KLay} {M : KMem} {u : Nat} {p0 : Int32} (hst : l.stackTraces = false) (hu : okL L u moT) {r : Int32} {M' : KMem} (e : m_Mo_goesOn u p0 M = some (r, M')) : CtrN l B yX11_goesOn cX11_goesOn 6 (some .int) rm_Mo_goesOn [.ref (B.1 + u), .int p0] L M (some (.int r)) L M' :=
  mk_I rfl hst rfl (fun X hl G _ R => b_Mo_goesOn G hu ⟨_, e, R⟩)
def I_Mo_spares : List (Nat × Instr × Nat) := [(0, .aload_n 0, 1), (1, .getfield 7, 3), (4, .bipush 93, 2), (6, .iload_n 1, 1), (7, .iastore, 1), (8, .aload_n 0, 1), (9, .getfield 7, 3), (12, .bipush 94, 2), (14, .aload_n 0, 1), (15, .getfield 7, 3), (18, .bipush 92, 2), (20, .iaload, 1), (21, .iastore, 1), (22, .aload_n 0, 1), (23, .invokevirtual 105, 3), (26, .ireturn, 1)]
set_option maxRecDepth 100000 in
theorem d_Mo_spares : decA cX11_spares I_Mo_spares = true := by decide +kernel
abbrev rm_Mo_spares : Room := ({ frames := 7, cells := 0, slots := 0, locals := 165 } : Room)
def m_Mo_spares (u : Nat) (p0 : Int32) (M : KMem) : Option (Int32 × KMem) :=
 Option.bind (wrI M (u + 1) 108 93 p0) fun M2 =>
 Option.bind (rdI M2 (u + 1) 108 92) fun x4 =>
 Option.bind (wrI M2 (u + 1) 108 94 x4) fun M6 =>
 Option.bind (m_Mo_wrongs u M6) fun x8 =>
 some (x8, M6)
set_option maxHeartbeats 4000000 in
set_option maxRecDepth 100000 in
theorem b_Mo_spares {X : KX} {B : KB} {L : KLay} {M : KMem} {u : Nat} {p0 : Int32} (G : Good X B RX11 cX11_spares 2 rm_Mo_spares) (hu : okL L u moT) (h : kOk (m_Mo_spares u p0 M) (fun r => RI X B L 2 cX11_spares .int rm_Mo_spares r.1 r.2)) : KK X B L 2 0 0 M 0 [(0, .ref (B.1 + u)), (1, .int p0)] [] := by
  unfold m_Mo_spares at h
  refine k_aload_n G (dc d_Mo_spares 0 rfl) 0 rfl rfl ?_
  refine k_getR G kc8 (dc d_Mo_spares 1 rfl) (okL_lt hu (o := 0) 0 rfl) (okL_k hu (o := 0) 0 rfl) 1 (by decide) rfl fl_RX11_7 (u + 1) (okL_r hu (o := 0) (c := 1) 0 rfl 0 rfl) ?_
  refine k_bipush G (dc d_Mo_spares 2 rfl) cB_93 ?_
  refine k_iload_n G (dc d_Mo_spares 3 rfl) 1 rfl rfl ?_
  obtain ⟨M2, e1, h⟩ := kOk_b h
  refine k_ist G (dc d_Mo_spares 4 rfl) (okL_lt hu (o := 1) 1 rfl) (okL_k hu (o := 1) 1 rfl) (okL_n hu (o := 1) 1 rfl) e1 ?_
  refine k_aload_n G (dc d_Mo_spares 5 rfl) 0 rfl rfl ?_
  refine k_getR G kc8 (dc d_Mo_spares 6 rfl) (okL_lt hu (o := 0) 0 rfl) (okL_k hu (o := 0) 0 rfl) 1 (by decide) rfl fl_RX11_7 (u + 1) (okL_r hu (o := 0) (c := 1) 0 rfl 0 rfl) ?_
  refine k_bipush G (dc d_Mo_spares 7 rfl) cB_94 ?_
  refine k_aload_n G (dc d_Mo_spares 8 rfl) 0 rfl rfl ?_
  refine k_getR G kc8 (dc d_Mo_spares 9 rfl) (okL_lt hu (o := 0) 0 rfl) (okL_k hu (o := 0) 0 rfl) 1 (by decide) rfl fl_RX11_7 (u + 1) (okL_r hu (o := 0) (c := 1) 0 rfl 0 rfl) ?_
  refine k_bipush G (dc d_Mo_spares 10 rfl) cB_92 ?_
  obtain ⟨x4, e3, h⟩ := kOk_b h
  refine k_ild G (dc d_Mo_spares 11 rfl) (okL_lt hu (o := 1) 1 rfl) (okL_k hu (o := 1) 1 rfl) (okL_n hu (o := 1) 1 rfl) e3 ?_
  obtain ⟨M6, e5, h⟩ := kOk_b h
  refine k_ist G (dc d_Mo_spares 12 rfl) (okL_lt hu (o := 1) 1 rfl) (okL_k hu (o := 1) 1 rfl) (okL_n hu (o := 1) 1 rfl) e5 ?_
  refine k_aload_n G (dc d_Mo_spares 13 rfl) 0 rfl rfl ?_
  obtain ⟨x8, e7, h⟩ := kOk_b h
  refine k_cVI G (dc d_Mo_spares 14 rfl) kc8 (okL_lt hu (o := 0) 0 rfl) (okL_k hu (o := 0) 0 rfl) mi_Mo_wrongs mv_Mo_wrongs rfl ml_RX11_105 (c_Mo_wrongs (gst G) hu e7) rfl rfl ⟨rfl, rfl⟩ rfl ⟨rfl, rfl⟩ ⟨rfl, rfl⟩ ?_
  exact (kOk_s h) _ _ _ _ rfl rfl rfl (dc d_Mo_spares 15 rfl)
theorem c_Mo_spares {l : Launch} {B : KB} {L : KLay} {M : KMem} {u : Nat} {p0 : Int32} (hst : l.stackTraces = false) (hu : okL L u moT) {r : Int32} {M' : KMem} (e : m_Mo_spares u p0 M = some (r, M')) : CtrN l B yX11_spares cX11_spares 2 (some .int) rm_Mo_spares [.ref (B.1 + u), .int p0] L M (some (.int r)) L M' :=
  mk_I rfl hst rfl (fun X hl G _ R => b_Mo_spares G hu ⟨_, e, R⟩)
def I_Mo_errorOfSign : List (Nat × Instr × Nat) := [(0, .iload_n 1, 1), (1, .iconst 0, 1), (2, .iconst 3, 1), (3, .invokestatic 41, 3), (6, .ifCond .ne 7, 3), (9, .iconst 1, 1), (10, .goto 30, 3), (13, .iload_n 2, 1), (14, .invokestatic 108, 3), (17, .ifCond .ne 7, 3), (20, .iconst 2, 1), (21, .goto 19, 3), (24, .aload_n 0, 1), (25, .getfield 7, 3), (28, .iconst 0, 1), (29, .iaload, 1), (30, .bipush 8, 2), (32, .if_icmp .ne 7, 3), (35, .iconst 3, 1), (36, .goto 4, 3), (39, .iconst 0, 1), (40, .ireturn, 1)]
set_option maxRecDepth 100000 in
theorem d_Mo_errorOfSign : decA cX11_errorOfSign I_Mo_errorOfSign = true := by decide +kernel
abbrev rm_Mo_errorOfSign : Room := ({ frames := 3, cells := 0, slots := 0, locals := 64 } : Room)
def m_Mo_errorOfSign (u : Nat) (p0 : Int32) (p1 : Int32) (M : KMem) : Option Int32 :=
 Option.bind (m_Mo_in p0 0 3) fun x2 =>
 Option.bind (α := Int32) (if x2 = 0 then
 (some 1)
 else
 (Option.bind (m_Mo_isWord p1) fun x7 =>
 if x7 = 0 then
 (some 2)
 else
 (Option.bind (rdI M (u + 1) 108 0) fun x10 =>
 if x10 = 8 then
 (some 3)
 else
 (some 0)))) fun t3 =>
 some t3
set_option maxHeartbeats 4000000 in
set_option maxRecDepth 100000 in
theorem b_Mo_errorOfSign {X : KX} {B : KB} {L : KLay} {M : KMem} {u : Nat} {p0 : Int32} {p1 : Int32} (G : Good X B RX11 cX11_errorOfSign 3 rm_Mo_errorOfSign) (hu : okL L u moT) (h : kOk (m_Mo_errorOfSign u p0 p1 M) (fun r => RI X B L 3 cX11_errorOfSign .int rm_Mo_errorOfSign r M)) : KK X B L 3 0 0 M 0 [(0, .ref (B.1 + u)), (1, .int p0), (2, .int p1)] [] := by
  unfold m_Mo_errorOfSign at h
  refine k_iload_n G (dc d_Mo_errorOfSign 0 rfl) 1 rfl rfl ?_
  refine k_iconst G (dc d_Mo_errorOfSign 1 rfl) cI_0 ?_
  refine k_iconst G (dc d_Mo_errorOfSign 2 rfl) cI_3 ?_
  obtain ⟨x2, e1, h⟩ := kOk_b h
  refine k_cSI G (dc d_Mo_errorOfSign 3 rfl) mi_Mo_in ms_Mo_in ml_RX11_41 (c_Mo_in (gst G)  e1) rfl rfl ⟨rfl, rfl⟩ rfl ⟨rfl, rfl⟩ ⟨rfl, rfl⟩ ?_
  refine kJ h (fun r4 => KK X B L 3 0 0 M 40 [] [.int r4]) (fun r4 h => ?_) (fun h => ?_)
  · obtain ⟨t3, rfl⟩ : ∃ z, z = r4 := ⟨_, rfl⟩
    show KK X B L 3 0 0 M 40 [] [.int t3]
    exact (kOk_s h) _ _ _ _ rfl rfl rfl (dc d_Mo_errorOfSign 21 rfl)
  · refine k_if_ne G (dc d_Mo_errorOfSign 4 rfl) (tgt := 13) rfl (fun c5 => ?_) (fun c5 => ?_)
    · replace h := kOk_n c5 h
      refine k_iload_n G (dc d_Mo_errorOfSign 7 rfl) 2 rfl rfl ?_
      obtain ⟨x7, e6, h⟩ := kOk_b h
      refine k_cSI G (dc d_Mo_errorOfSign 8 rfl) mi_Mo_isWord ms_Mo_isWord ml_RX11_108 (c_Mo_isWord (gst G)  e6) rfl rfl ⟨rfl, rfl⟩ rfl ⟨rfl, rfl⟩ ⟨rfl, rfl⟩ ?_
      refine k_if_ne G (dc d_Mo_errorOfSign 9 rfl) (tgt := 24) rfl (fun c8 => ?_) (fun c8 => ?_)
      · replace h := kOk_n c8 h
        refine k_aload_n G (dc d_Mo_errorOfSign 12 rfl) 0 rfl rfl ?_
        refine k_getR G kc8 (dc d_Mo_errorOfSign 13 rfl) (okL_lt hu (o := 0) 0 rfl) (okL_k hu (o := 0) 0 rfl) 1 (by decide) rfl fl_RX11_7 (u + 1) (okL_r hu (o := 0) (c := 1) 0 rfl 0 rfl) ?_
        refine k_iconst G (dc d_Mo_errorOfSign 14 rfl) cI_0 ?_
        obtain ⟨x10, e9, h⟩ := kOk_b h
        refine k_ild G (dc d_Mo_errorOfSign 15 rfl) (okL_lt hu (o := 1) 1 rfl) (okL_k hu (o := 1) 1 rfl) (okL_n hu (o := 1) 1 rfl) e9 ?_
        refine k_bipush G (dc d_Mo_errorOfSign 16 rfl) cB_8 ?_
        refine k_icmp_ne G (dc d_Mo_errorOfSign 17 rfl) (tgt := 39) rfl (fun c11 => ?_) (fun c11 => ?_)
        · replace h := kOk_n c11 h
          refine k_iconst G (dc d_Mo_errorOfSign 20 rfl) cI_0 ?_
          refine k_sub [] rfl ?_
          have h9 := kOk_s h
          exact h9
        · replace h := kOk_p c11 h
          refine k_iconst G (dc d_Mo_errorOfSign 18 rfl) cI_3 ?_
          refine k_goto G (dc d_Mo_errorOfSign 19 rfl) (tgt := 40) rfl ?_
          refine k_sub [] rfl ?_
          have h9 := kOk_s h
          exact h9
      · replace h := kOk_p c8 h
        refine k_iconst G (dc d_Mo_errorOfSign 10 rfl) cI_2 ?_
        refine k_goto G (dc d_Mo_errorOfSign 11 rfl) (tgt := 40) rfl ?_
        refine k_sub [] rfl ?_
        have h9 := kOk_s h
        exact h9
    · replace h := kOk_p c5 h
      refine k_iconst G (dc d_Mo_errorOfSign 5 rfl) cI_1 ?_
      refine k_goto G (dc d_Mo_errorOfSign 6 rfl) (tgt := 40) rfl ?_
      refine k_sub [] rfl ?_
      have h9 := kOk_s h
      exact h9
theorem c_Mo_errorOfSign {l : Launch} {B : KB} {L : KLay} {M : KMem} {u : Nat} {p0 : Int32} {p1 : Int32} (hst : l.stackTraces = false) (hu : okL L u moT) {r : Int32} (e : m_Mo_errorOfSign u p0 p1 M = some r) : CtrN l B yX11_errorOfSign cX11_errorOfSign 3 (some .int) rm_Mo_errorOfSign [.ref (B.1 + u), .int p0, .int p1] L M (some (.int r)) L M :=
  mk_I rfl hst rfl (fun X hl G _ R => b_Mo_errorOfSign G hu ⟨_, e, R⟩)
def I_Mo_areArguments : List (Nat × Instr × Nat) := [(0, .iload_n 0, 1), (1, .iconst 1, 1), (2, .if_icmp .ne 25, 3), (5, .iload_n 2, 1), (6, .invokestatic 46, 3), (9, .ifCond .eq 14, 3), (12, .iload_n 3, 1), (13, .invokestatic 46, 3), (16, .ifCond .eq 7, 3), (19, .iconst 1, 1), (20, .goto 20, 3), (23, .iconst 0, 1), (24, .goto 16, 3), (27, .iload_n 2, 1), (28, .ifCond .ne 11, 3), (31, .iload_n 3, 1), (32, .ifCond .ne 7, 3), (35, .iconst 1, 1), (36, .goto 4, 3), (39, .iconst 0, 1), (40, .istore 4, 2), (42, .iload_n 0, 1), (43, .iconst 0, 1), (44, .iconst 2, 1), (45, .invokestatic 41, 3), (48, .ifCond .eq 19, 3), (51, .iload_n 1, 1), (52, .invokestatic 46, 3), (55, .ifCond .eq 12, 3), (58, .iload 4, 2), (60, .ifCond .eq 7, 3), (63, .iconst 1, 1), (64, .goto 4, 3), (67, .iconst 0, 1), (68, .ireturn, 1)]
set_option maxRecDepth 100000 in
theorem d_Mo_areArguments : decA cX11_areArguments I_Mo_areArguments = true := by decide +kernel
abbrev rm_Mo_areArguments : Room := ({ frames := 2, cells := 0, slots := 0, locals := 42 } : Room)
def m_Mo_areArguments (p0 : Int32) (p1 : Int32) (p2 : Int32) (p3 : Int32) : Option Int32 :=
 Option.bind (α := Int32) (if p0 = 1 then
 (Option.bind (m_Mo_isLetter p2) fun x18 =>
 if x18 = 0 then
 (some 0)
 else
 (Option.bind (m_Mo_isLetter p3) fun x21 =>
 if x21 = 0 then
 (some 0)
 else
 (some 1)))
 else
 (if p2 = 0 then
 (if p3 = 0 then
 (some 1)
 else
 (some 0))
 else
 (some 0))) fun t1 =>
 Option.bind (m_Mo_in p0 0 2) fun x4 =>
 Option.bind (α := Int32) (if x4 = 0 then
 (some 0)
 else
 (Option.bind (m_Mo_isLetter p1) fun x11 =>
 if x11 = 0 then
 (some 0)
 else
 (if t1 = 0 then
 (some 0)
 else
 (some 1)))) fun t5 =>
 Option.bind (kz t5) fun z7 =>
 some z7
set_option maxHeartbeats 4000000 in
set_option maxRecDepth 100000 in
theorem b_Mo_areArguments {X : KX} {B : KB} {L : KLay} {M : KMem} {p0 : Int32} {p1 : Int32} {p2 : Int32} {p3 : Int32} (G : Good X B RX11 cX11_areArguments 5 rm_Mo_areArguments)  (h : kOk (m_Mo_areArguments p0 p1 p2 p3) (fun r => RI X B L 5 cX11_areArguments .boolean rm_Mo_areArguments r M)) : KK X B L 5 0 0 M 0 [(0, .int p0), (1, .int p1), (2, .int p2), (3, .int p3)] [] := by
  unfold m_Mo_areArguments at h
  refine k_iload_n G (dc d_Mo_areArguments 0 rfl) 0 rfl rfl ?_
  refine k_iconst G (dc d_Mo_areArguments 1 rfl) cI_1 ?_
  refine kJ h (fun r2 => KK X B L 5 0 0 M 40 [(0, .int p0), (1, .int p1)] [.int r2]) (fun r2 h => ?_) (fun h => ?_)
  · obtain ⟨t1, rfl⟩ : ∃ z, z = r2 := ⟨_, rfl⟩
    show KK X B L 5 0 0 M 40 [(0, .int p0), (1, .int p1)] [.int t1]
    refine k_istore G (dc d_Mo_areArguments 20 rfl) (ls' := [(4, .int t1), (0, .int p0), (1, .int p1)]) rfl rfl ?_
    refine k_iload_n G (dc d_Mo_areArguments 21 rfl) 1 rfl rfl ?_
    refine k_iconst G (dc d_Mo_areArguments 22 rfl) cI_0 ?_
    refine k_iconst G (dc d_Mo_areArguments 23 rfl) cI_2 ?_
    obtain ⟨x4, e3, h⟩ := kOk_b h
    refine k_cSI G (dc d_Mo_areArguments 24 rfl) mi_Mo_in ms_Mo_in ml_RX11_41 (c_Mo_in (gst G)  e3) rfl rfl ⟨rfl, rfl⟩ rfl ⟨rfl, rfl⟩ ⟨rfl, rfl⟩ ?_
    refine kJ h (fun r6 => KK X B L 5 0 0 M 68 [] [.int r6]) (fun r6 h => ?_) (fun h => ?_)
    · obtain ⟨t5, rfl⟩ : ∃ z, z = r6 := ⟨_, rfl⟩
      show KK X B L 5 0 0 M 68 [] [.int t5]
      obtain ⟨z7, e8, h⟩ := kOk_b h
      obtain ⟨e8, nz7, -⟩ := kz_ok e8
      rw [e8]
      exact (kOk_s h) _ _ _ _ rfl rfl nz7 (dc d_Mo_areArguments 34 rfl)
    · refine k_if_eq G (dc d_Mo_areArguments 25 rfl) (tgt := 67) rfl (fun c9 => ?_) (fun c9 => ?_)
      · replace h := kOk_p c9 h
        refine k_iconst G (dc d_Mo_areArguments 33 rfl) cI_0 ?_
        refine k_sub [] rfl ?_
        have h9 := kOk_s h
        exact h9
      · replace h := kOk_n c9 h
        refine k_iload_n G (dc d_Mo_areArguments 26 rfl) 2 rfl rfl ?_
        obtain ⟨x11, e10, h⟩ := kOk_b h
        refine k_cSI G (dc d_Mo_areArguments 27 rfl) mi_Mo_isLetter ms_Mo_isLetter ml_RX11_46 (c_Mo_isLetter (gst G)  e10) rfl rfl ⟨rfl, rfl⟩ rfl ⟨rfl, rfl⟩ ⟨rfl, rfl⟩ ?_
        refine k_if_eq G (dc d_Mo_areArguments 28 rfl) (tgt := 67) rfl (fun c12 => ?_) (fun c12 => ?_)
        · replace h := kOk_p c12 h
          refine k_iconst G (dc d_Mo_areArguments 33 rfl) cI_0 ?_
          refine k_sub [] rfl ?_
          have h9 := kOk_s h
          exact h9
        · replace h := kOk_n c12 h
          refine k_iload G (dc d_Mo_areArguments 29 rfl) 0 rfl ?_
          refine k_if_eq G (dc d_Mo_areArguments 30 rfl) (tgt := 67) rfl (fun c13 => ?_) (fun c13 => ?_)
          · replace h := kOk_p c13 h
            refine k_iconst G (dc d_Mo_areArguments 33 rfl) cI_0 ?_
            refine k_sub [] rfl ?_
            have h9 := kOk_s h
            exact h9
          · replace h := kOk_n c13 h
            refine k_iconst G (dc d_Mo_areArguments 31 rfl) cI_1 ?_
            refine k_goto G (dc d_Mo_areArguments 32 rfl) (tgt := 68) rfl ?_
            refine k_sub [] rfl ?_
            have h9 := kOk_s h
            exact h9
  · refine k_icmp_ne G (dc d_Mo_areArguments 2 rfl) (tgt := 27) rfl (fun c14 => ?_) (fun c14 => ?_)
    · replace h := kOk_n c14 h
      refine k_iload_n G (dc d_Mo_areArguments 13 rfl) 2 rfl rfl ?_
      refine k_if_ne G (dc d_Mo_areArguments 14 rfl) (tgt := 39) rfl (fun c15 => ?_) (fun c15 => ?_)
      · replace h := kOk_n c15 h
        refine k_iconst G (dc d_Mo_areArguments 19 rfl) cI_0 ?_
        refine k_sub [0, 1] rfl ?_
        have h9 := kOk_s h
        exact h9
      · replace h := kOk_p c15 h
        refine k_iload_n G (dc d_Mo_areArguments 15 rfl) 3 rfl rfl ?_
        refine k_if_ne G (dc d_Mo_areArguments 16 rfl) (tgt := 39) rfl (fun c16 => ?_) (fun c16 => ?_)
        · replace h := kOk_n c16 h
          refine k_iconst G (dc d_Mo_areArguments 19 rfl) cI_0 ?_
          refine k_sub [0, 1] rfl ?_
          have h9 := kOk_s h
          exact h9
        · replace h := kOk_p c16 h
          refine k_iconst G (dc d_Mo_areArguments 17 rfl) cI_1 ?_
          refine k_goto G (dc d_Mo_areArguments 18 rfl) (tgt := 40) rfl ?_
          refine k_sub [0, 1] rfl ?_
          have h9 := kOk_s h
          exact h9
    · replace h := kOk_p c14 h
      refine k_iload_n G (dc d_Mo_areArguments 3 rfl) 2 rfl rfl ?_
      obtain ⟨x18, e17, h⟩ := kOk_b h
      refine k_cSI G (dc d_Mo_areArguments 4 rfl) mi_Mo_isLetter ms_Mo_isLetter ml_RX11_46 (c_Mo_isLetter (gst G)  e17) rfl rfl ⟨rfl, rfl⟩ rfl ⟨rfl, rfl⟩ ⟨rfl, rfl⟩ ?_
      refine k_if_eq G (dc d_Mo_areArguments 5 rfl) (tgt := 23) rfl (fun c19 => ?_) (fun c19 => ?_)
      · replace h := kOk_p c19 h
        refine k_iconst G (dc d_Mo_areArguments 11 rfl) cI_0 ?_
        refine k_goto G (dc d_Mo_areArguments 12 rfl) (tgt := 40) rfl ?_
        refine k_sub [0, 1] rfl ?_
        have h9 := kOk_s h
        exact h9
      · replace h := kOk_n c19 h
        refine k_iload_n G (dc d_Mo_areArguments 6 rfl) 3 rfl rfl ?_
        obtain ⟨x21, e20, h⟩ := kOk_b h
        refine k_cSI G (dc d_Mo_areArguments 7 rfl) mi_Mo_isLetter ms_Mo_isLetter ml_RX11_46 (c_Mo_isLetter (gst G)  e20) rfl rfl ⟨rfl, rfl⟩ rfl ⟨rfl, rfl⟩ ⟨rfl, rfl⟩ ?_
        refine k_if_eq G (dc d_Mo_areArguments 8 rfl) (tgt := 23) rfl (fun c22 => ?_) (fun c22 => ?_)
        · replace h := kOk_p c22 h
          refine k_iconst G (dc d_Mo_areArguments 11 rfl) cI_0 ?_
          refine k_goto G (dc d_Mo_areArguments 12 rfl) (tgt := 40) rfl ?_
          refine k_sub [0, 1] rfl ?_
          have h9 := kOk_s h
          exact h9
        · replace h := kOk_n c22 h
          refine k_iconst G (dc d_Mo_areArguments 9 rfl) cI_1 ?_
          refine k_goto G (dc d_Mo_areArguments 10 rfl) (tgt := 40) rfl ?_
          refine k_sub [0, 1] rfl ?_
          have h9 := kOk_s h
          exact h9
theorem c_Mo_areArguments {l : Launch} {B : KB} {L : KLay} {M : KMem} {p0 : Int32} {p1 : Int32} {p2 : Int32} {p3 : Int32} (hst : l.stackTraces = false)  {r : Int32} (e : m_Mo_areArguments p0 p1 p2 p3 = some r) : CtrN l B yX11_areArguments cX11_areArguments 5 (some .boolean) rm_Mo_areArguments [.int p0, .int p1, .int p2, .int p3] L M (some (.int r)) L M :=
  mk_I rfl hst rfl (fun X hl G _ R => b_Mo_areArguments G  ⟨_, e, R⟩)
def I_Mo_errorOfDecree : List (Nat × Instr × Nat) := [(0, .iload_n 1, 1), (1, .iload_n 2, 1), (2, .iload_n 3, 1), (3, .iload 4, 2), (5, .invokestatic 111, 3), (8, .ifCond .ne 7, 3), (11, .iconst 1, 1), (12, .goto 20, 3), (15, .aload_n 0, 1), (16, .getfield 7, 3), (19, .bipush 41, 2), (21, .iaload, 1), (22, .bipush 10, 2), (24, .if_icmp .ne 7, 3), (27, .iconst 2, 1), (28, .goto 4, 3), (31, .iconst 0, 1), (32, .ireturn, 1)]
set_option maxRecDepth 100000 in
theorem d_Mo_errorOfDecree : decA cX11_errorOfDecree I_Mo_errorOfDecree = true := by decide +kernel
abbrev rm_Mo_errorOfDecree : Room := ({ frames := 3, cells := 0, slots := 0, locals := 66 } : Room)
def m_Mo_errorOfDecree (u : Nat) (p0 : Int32) (p1 : Int32) (p2 : Int32) (p3 : Int32) (M : KMem) : Option Int32 :=
 Option.bind (m_Mo_areArguments p0 p1 p2 p3) fun x2 =>
 Option.bind (α := Int32) (if x2 = 0 then
 (some 1)
 else
 (Option.bind (rdI M (u + 1) 108 41) fun x7 =>
 if x7 = 10 then
 (some 2)
 else
 (some 0))) fun t3 =>
 some t3
set_option maxHeartbeats 4000000 in
set_option maxRecDepth 100000 in
theorem b_Mo_errorOfDecree {X : KX} {B : KB} {L : KLay} {M : KMem} {u : Nat} {p0 : Int32} {p1 : Int32} {p2 : Int32} {p3 : Int32} (G : Good X B RX11 cX11_errorOfDecree 5 rm_Mo_errorOfDecree) (hu : okL L u moT) (h : kOk (m_Mo_errorOfDecree u p0 p1 p2 p3 M) (fun r => RI X B L 5 cX11_errorOfDecree .int rm_Mo_errorOfDecree r M)) : KK X B L 5 0 0 M 0 [(0, .ref (B.1 + u)), (1, .int p0), (2, .int p1), (3, .int p2), (4, .int p3)] [] := by
  unfold m_Mo_errorOfDecree at h
  refine k_iload_n G (dc d_Mo_errorOfDecree 0 rfl) 1 rfl rfl ?_
  refine k_iload_n G (dc d_Mo_errorOfDecree 1 rfl) 2 rfl rfl ?_
  refine k_iload_n G (dc d_Mo_errorOfDecree 2 rfl) 3 rfl rfl ?_
  refine k_iload G (dc d_Mo_errorOfDecree 3 rfl) 4 rfl ?_
  obtain ⟨x2, e1, h⟩ := kOk_b h
  refine k_cSI G (dc d_Mo_errorOfDecree 4 rfl) mi_Mo_areArguments ms_Mo_areArguments ml_RX11_111 (c_Mo_areArguments (gst G)  e1) rfl rfl ⟨rfl, rfl⟩ rfl ⟨rfl, rfl⟩ ⟨rfl, rfl⟩ ?_
  refine kJ h (fun r4 => KK X B L 5 0 0 M 32 [] [.int r4]) (fun r4 h => ?_) (fun h => ?_)
  · obtain ⟨t3, rfl⟩ : ∃ z, z = r4 := ⟨_, rfl⟩
    show KK X B L 5 0 0 M 32 [] [.int t3]
    exact (kOk_s h) _ _ _ _ rfl rfl rfl (dc d_Mo_errorOfDecree 17 rfl)
  · refine k_if_ne G (dc d_Mo_errorOfDecree 5 rfl) (tgt := 15) rfl (fun c5 => ?_) (fun c5 => ?_)
    · replace h := kOk_n c5 h
      refine k_aload_n G (dc d_Mo_errorOfDecree 8 rfl) 0 rfl rfl ?_
      refine k_getR G kc8 (dc d_Mo_errorOfDecree 9 rfl) (okL_lt hu (o := 0) 0 rfl) (okL_k hu (o := 0) 0 rfl) 1 (by decide) rfl fl_RX11_7 (u + 1) (okL_r hu (o := 0) (c := 1) 0 rfl 0 rfl) ?_
      refine k_bipush G (dc d_Mo_errorOfDecree 10 rfl) cB_41 ?_
      obtain ⟨x7, e6, h⟩ := kOk_b h
      refine k_ild G (dc d_Mo_errorOfDecree 11 rfl) (okL_lt hu (o := 1) 1 rfl) (okL_k hu (o := 1) 1 rfl) (okL_n hu (o := 1) 1 rfl) e6 ?_
      refine k_bipush G (dc d_Mo_errorOfDecree 12 rfl) cB_10 ?_
      refine k_icmp_ne G (dc d_Mo_errorOfDecree 13 rfl) (tgt := 31) rfl (fun c8 => ?_) (fun c8 => ?_)
      · replace h := kOk_n c8 h
        refine k_iconst G (dc d_Mo_errorOfDecree 16 rfl) cI_0 ?_
        refine k_sub [] rfl ?_
        have h9 := kOk_s h
        exact h9
      · replace h := kOk_p c8 h
        refine k_iconst G (dc d_Mo_errorOfDecree 14 rfl) cI_2 ?_
        refine k_goto G (dc d_Mo_errorOfDecree 15 rfl) (tgt := 32) rfl ?_
        refine k_sub [] rfl ?_
        have h9 := kOk_s h
        exact h9
    · replace h := kOk_p c5 h
      refine k_iconst G (dc d_Mo_errorOfDecree 6 rfl) cI_1 ?_
      refine k_goto G (dc d_Mo_errorOfDecree 7 rfl) (tgt := 32) rfl ?_
      refine k_sub [] rfl ?_
      have h9 := kOk_s h
      exact h9
theorem c_Mo_errorOfDecree {l : Launch} {B : KB} {L : KLay} {M : KMem} {u : Nat} {p0 : Int32} {p1 : Int32} {p2 : Int32} {p3 : Int32} (hst : l.stackTraces = false) (hu : okL L u moT) {r : Int32} (e : m_Mo_errorOfDecree u p0 p1 p2 p3 M = some r) : CtrN l B yX11_errorOfDecree cX11_errorOfDecree 5 (some .int) rm_Mo_errorOfDecree [.ref (B.1 + u), .int p0, .int p1, .int p2, .int p3] L M (some (.int r)) L M :=
  mk_I rfl hst rfl (fun X hl G _ R => b_Mo_errorOfDecree G hu ⟨_, e, R⟩)
def I_Mo_errorOfAmnesty : List (Nat × Instr × Nat) := [(0, .aload_n 0, 1), (1, .getfield 7, 3), (4, .bipush 93, 2), (6, .iaload, 1), (7, .ifCond .gt 34, 3), (10, .aload_n 0, 1), (11, .getfield 7, 3), (14, .bipush 94, 2), (16, .iaload, 1), (17, .iconst (-1), 1), (18, .if_icmp .eq 27, 3), (21, .aload_n 0, 1), (22, .getfield 7, 3), (25, .bipush 92, 2), (27, .iaload, 1), (28, .aload_n 0, 1), (29, .getfield 7, 3), (32, .bipush 94, 2), (34, .iaload, 1), (35, .isub, 1), (36, .bipush 12, 2), (38, .if_icmp .ge 7, 3), (41, .iconst 1, 1), (42, .goto 4, 3), (45, .iconst 0, 1), (46, .istore_n 2, 1), (47, .iload_n 1, 1), (48, .iconst 1, 1), (49, .bipush 9, 2), (51, .invokestatic 41, 3), (54, .ifCond .ne 7, 3), (57, .iconst 1, 1), (58, .goto 12, 3), (61, .iload_n 2, 1), (62, .ifCond .eq 7, 3), (65, .iconst 2, 1), (66, .goto 4, 3), (69, .iconst 0, 1), (70, .ireturn, 1)]
set_option maxRecDepth 100000 in
theorem d_Mo_errorOfAmnesty : decA cX11_errorOfAmnesty I_Mo_errorOfAmnesty = true := by decide +kernel
abbrev rm_Mo_errorOfAmnesty : Room := ({ frames := 1, cells := 0, slots := 0, locals := 22 } : Room)
def m_Mo_errorOfAmnesty (u : Nat) (p0 : Int32) (M : KMem) : Option Int32 :=
 Option.bind (rdI M (u + 1) 108 93) fun x2 =>
 Option.bind (α := Int32) (if 0 < x2 then
 (some 1)
 else
 (Option.bind (rdI M (u + 1) 108 94) fun x13 =>
 if x13 = (-1) then
 (some 0)
 else
 (Option.bind (rdI M (u + 1) 108 92) fun x16 =>
 Option.bind (rdI M (u + 1) 108 94) fun x18 =>
 if 12 ≤ (x16 - x18) then
 (some 0)
 else
 (some 1)))) fun t3 =>
 Option.bind (m_Mo_in p0 1 9) fun x6 =>
 Option.bind (α := Int32) (if x6 = 0 then
 (some 1)
 else
 (if t3 = 0 then
 (some 0)
 else
 (some 2))) fun t7 =>
 some t7
set_option maxHeartbeats 4000000 in
set_option maxRecDepth 100000 in
theorem b_Mo_errorOfAmnesty {X : KX} {B : KB} {L : KLay} {M : KMem} {u : Nat} {p0 : Int32} (G : Good X B RX11 cX11_errorOfAmnesty 3 rm_Mo_errorOfAmnesty) (hu : okL L u moT) (h : kOk (m_Mo_errorOfAmnesty u p0 M) (fun r => RI X B L 3 cX11_errorOfAmnesty .int rm_Mo_errorOfAmnesty r M)) : KK X B L 3 0 0 M 0 [(0, .ref (B.1 + u)), (1, .int p0)] [] := by
  unfold m_Mo_errorOfAmnesty at h
  refine k_aload_n G (dc d_Mo_errorOfAmnesty 0 rfl) 0 rfl rfl ?_
  refine k_getR G kc8 (dc d_Mo_errorOfAmnesty 1 rfl) (okL_lt hu (o := 0) 0 rfl) (okL_k hu (o := 0) 0 rfl) 1 (by decide) rfl fl_RX11_7 (u + 1) (okL_r hu (o := 0) (c := 1) 0 rfl 0 rfl) ?_
  refine k_bipush G (dc d_Mo_errorOfAmnesty 2 rfl) cB_93 ?_
  obtain ⟨x2, e1, h⟩ := kOk_b h
  refine k_ild G (dc d_Mo_errorOfAmnesty 3 rfl) (okL_lt hu (o := 1) 1 rfl) (okL_k hu (o := 1) 1 rfl) (okL_n hu (o := 1) 1 rfl) e1 ?_
  refine kJ h (fun r4 => KK X B L 3 0 0 M 46 [(1, .int p0)] [.int r4]) (fun r4 h => ?_) (fun h => ?_)
  · obtain ⟨t3, rfl⟩ : ∃ z, z = r4 := ⟨_, rfl⟩
    show KK X B L 3 0 0 M 46 [(1, .int p0)] [.int t3]
    refine k_istore_n G (dc d_Mo_errorOfAmnesty 25 rfl) (ls' := [(2, .int t3), (1, .int p0)]) rfl rfl rfl ?_
    refine k_iload_n G (dc d_Mo_errorOfAmnesty 26 rfl) 1 rfl rfl ?_
    refine k_iconst G (dc d_Mo_errorOfAmnesty 27 rfl) cI_1 ?_
    refine k_bipush G (dc d_Mo_errorOfAmnesty 28 rfl) cB_9 ?_
    obtain ⟨x6, e5, h⟩ := kOk_b h
    refine k_cSI G (dc d_Mo_errorOfAmnesty 29 rfl) mi_Mo_in ms_Mo_in ml_RX11_41 (c_Mo_in (gst G)  e5) rfl rfl ⟨rfl, rfl⟩ rfl ⟨rfl, rfl⟩ ⟨rfl, rfl⟩ ?_
    refine kJ h (fun r8 => KK X B L 3 0 0 M 70 [] [.int r8]) (fun r8 h => ?_) (fun h => ?_)
    · obtain ⟨t7, rfl⟩ : ∃ z, z = r8 := ⟨_, rfl⟩
      show KK X B L 3 0 0 M 70 [] [.int t7]
      exact (kOk_s h) _ _ _ _ rfl rfl rfl (dc d_Mo_errorOfAmnesty 38 rfl)
    · refine k_if_ne G (dc d_Mo_errorOfAmnesty 30 rfl) (tgt := 61) rfl (fun c9 => ?_) (fun c9 => ?_)
      · replace h := kOk_n c9 h
        refine k_iload_n G (dc d_Mo_errorOfAmnesty 33 rfl) 0 rfl rfl ?_
        refine k_if_eq G (dc d_Mo_errorOfAmnesty 34 rfl) (tgt := 69) rfl (fun c10 => ?_) (fun c10 => ?_)
        · replace h := kOk_p c10 h
          refine k_iconst G (dc d_Mo_errorOfAmnesty 37 rfl) cI_0 ?_
          refine k_sub [] rfl ?_
          have h9 := kOk_s h
          exact h9
        · replace h := kOk_n c10 h
          refine k_iconst G (dc d_Mo_errorOfAmnesty 35 rfl) cI_2 ?_
          refine k_goto G (dc d_Mo_errorOfAmnesty 36 rfl) (tgt := 70) rfl ?_
          refine k_sub [] rfl ?_
          have h9 := kOk_s h
          exact h9
      · replace h := kOk_p c9 h
        refine k_iconst G (dc d_Mo_errorOfAmnesty 31 rfl) cI_1 ?_
        refine k_goto G (dc d_Mo_errorOfAmnesty 32 rfl) (tgt := 70) rfl ?_
        refine k_sub [] rfl ?_
        have h9 := kOk_s h
        exact h9
  · refine k_if_gt G (dc d_Mo_errorOfAmnesty 4 rfl) (tgt := 41) rfl (fun c11 => ?_) (fun c11 => ?_)
    · replace h := kOk_p c11 h
      refine k_iconst G (dc d_Mo_errorOfAmnesty 22 rfl) cI_1 ?_
      refine k_goto G (dc d_Mo_errorOfAmnesty 23 rfl) (tgt := 46) rfl ?_
      refine k_sub [1] rfl ?_
      have h9 := kOk_s h
      exact h9
    · replace h := kOk_n c11 h
      refine k_aload_n G (dc d_Mo_errorOfAmnesty 5 rfl) 0 rfl rfl ?_
      refine k_getR G kc8 (dc d_Mo_errorOfAmnesty 6 rfl) (okL_lt hu (o := 0) 0 rfl) (okL_k hu (o := 0) 0 rfl) 1 (by decide) rfl fl_RX11_7 (u + 1) (okL_r hu (o := 0) (c := 1) 0 rfl 0 rfl) ?_
      refine k_bipush G (dc d_Mo_errorOfAmnesty 7 rfl) cB_94 ?_
      obtain ⟨x13, e12, h⟩ := kOk_b h
      refine k_ild G (dc d_Mo_errorOfAmnesty 8 rfl) (okL_lt hu (o := 1) 1 rfl) (okL_k hu (o := 1) 1 rfl) (okL_n hu (o := 1) 1 rfl) e12 ?_
      refine k_iconst G (dc d_Mo_errorOfAmnesty 9 rfl) cI_m1 ?_
      refine k_icmp_eq G (dc d_Mo_errorOfAmnesty 10 rfl) (tgt := 45) rfl (fun c14 => ?_) (fun c14 => ?_)
      · replace h := kOk_p c14 h
        refine k_iconst G (dc d_Mo_errorOfAmnesty 24 rfl) cI_0 ?_
        refine k_sub [1] rfl ?_
        have h9 := kOk_s h
        exact h9
      · replace h := kOk_n c14 h
        refine k_aload_n G (dc d_Mo_errorOfAmnesty 11 rfl) 0 rfl rfl ?_
        refine k_getR G kc8 (dc d_Mo_errorOfAmnesty 12 rfl) (okL_lt hu (o := 0) 0 rfl) (okL_k hu (o := 0) 0 rfl) 1 (by decide) rfl fl_RX11_7 (u + 1) (okL_r hu (o := 0) (c := 1) 0 rfl 0 rfl) ?_
        refine k_bipush G (dc d_Mo_errorOfAmnesty 13 rfl) cB_92 ?_
        obtain ⟨x16, e15, h⟩ := kOk_b h
        refine k_ild G (dc d_Mo_errorOfAmnesty 14 rfl) (okL_lt hu (o := 1) 1 rfl) (okL_k hu (o := 1) 1 rfl) (okL_n hu (o := 1) 1 rfl) e15 ?_
        refine k_aload_n G (dc d_Mo_errorOfAmnesty 15 rfl) 0 rfl rfl ?_
        refine k_getR G kc8 (dc d_Mo_errorOfAmnesty 16 rfl) (okL_lt hu (o := 0) 0 rfl) (okL_k hu (o := 0) 0 rfl) 1 (by decide) rfl fl_RX11_7 (u + 1) (okL_r hu (o := 0) (c := 1) 0 rfl 0 rfl) ?_
        refine k_bipush G (dc d_Mo_errorOfAmnesty 17 rfl) cB_94 ?_
        obtain ⟨x18, e17, h⟩ := kOk_b h
        refine k_ild G (dc d_Mo_errorOfAmnesty 18 rfl) (okL_lt hu (o := 1) 1 rfl) (okL_k hu (o := 1) 1 rfl) (okL_n hu (o := 1) 1 rfl) e17 ?_
        refine k_isub G (dc d_Mo_errorOfAmnesty 19 rfl) ?_
        refine k_bipush G (dc d_Mo_errorOfAmnesty 20 rfl) cB_12 ?_
        refine k_icmp_ge G (dc d_Mo_errorOfAmnesty 21 rfl) (tgt := 45) rfl (fun c19 => ?_) (fun c19 => ?_)
        · replace h := kOk_p c19 h
          refine k_iconst G (dc d_Mo_errorOfAmnesty 24 rfl) cI_0 ?_
          refine k_sub [1] rfl ?_
          have h9 := kOk_s h
          exact h9
        · replace h := kOk_n c19 h
          refine k_iconst G (dc d_Mo_errorOfAmnesty 22 rfl) cI_1 ?_
          refine k_goto G (dc d_Mo_errorOfAmnesty 23 rfl) (tgt := 46) rfl ?_
          refine k_sub [1] rfl ?_
          have h9 := kOk_s h
          exact h9
theorem c_Mo_errorOfAmnesty {l : Launch} {B : KB} {L : KLay} {M : KMem} {u : Nat} {p0 : Int32} (hst : l.stackTraces = false) (hu : okL L u moT) {r : Int32} (e : m_Mo_errorOfAmnesty u p0 M = some r) : CtrN l B yX11_errorOfAmnesty cX11_errorOfAmnesty 3 (some .int) rm_Mo_errorOfAmnesty [.ref (B.1 + u), .int p0] L M (some (.int r)) L M :=
  mk_I rfl hst rfl (fun X hl G _ R => b_Mo_errorOfAmnesty G hu ⟨_, e, R⟩)
def I_Mo_does : List (Nat × Instr × Nat) := [(0, .aload_n 0, 1), (1, .getfield 115, 3), (4, .tableswitch 295 100 115 #[113, 295, 295, 295, 295, 295, 144, 295, 295, 268, 295, 187, 243, 295, 218, 80], 80), (84, .aload_n 0, 1), (85, .aload_n 0, 1), (86, .getfield 118, 3), (89, .aload_n 0, 1), (90, .getfield 121, 3), (93, .invokevirtual 124, 3), (96, .ifCond .ne 18, 3), (99, .aload_n 0, 1), (100, .aload_n 0, 1), (101, .getfield 118, 3), (104, .aload_n 0, 1), (105, .getfield 121, 3), (108, .invokevirtual 127, 3), (111, .goto 5, 3), (114, .bipush (-9), 2), (116, .ireturn, 1), (117, .aload_n 0, 1), (118, .iconst 0, 1), (119, .aload_n 0, 1), (120, .getfield 118, 3), (123, .iconst 0, 1), (124, .iconst 0, 1), (125, .invokevirtual 130, 3), (128, .ifCond .ne 17, 3), (131, .aload_n 0, 1), (132, .iconst 0, 1), (133, .aload_n 0, 1), (134, .getfield 118, 3), (137, .iconst 0, 1), (138, .iconst 0, 1), (139, .invokevirtual 134, 3), (142, .goto 5, 3), (145, .bipush (-9), 2), (147, .ireturn, 1), (148, .aload_n 0, 1), (149, .iconst 1, 1), (150, .aload_n 0, 1), (151, .getfield 118, 3), (154, .aload_n 0, 1), (155, .getfield 121, 3), (158, .aload_n 0, 1), (159, .getfield 137, 3), (162, .invokevirtual 130, 3), (165, .ifCond .ne 23, 3), (168, .aload_n 0, 1), (169, .iconst 1, 1), (170, .aload_n 0, 1), (171, .getfield 118, 3), (174, .aload_n 0, 1), (175, .getfield 121, 3), (178, .aload_n 0, 1), (179, .getfield 137, 3), (182, .invokevirtual 134, 3), (185, .goto 5, 3), (188, .bipush (-9), 2), (190, .ireturn, 1), (191, .aload_n 0, 1), (192, .iconst 2, 1), (193, .aload_n 0, 1), (194, .getfield 118, 3), (197, .iconst 0, 1), (198, .iconst 0, 1), (199, .invokevirtual 130, 3), (202, .ifCond .ne 17, 3), (205, .aload_n 0, 1), (206, .iconst 2, 1), (207, .aload_n 0, 1), (208, .getfield 118, 3), (211, .iconst 0, 1), (212, .iconst 0, 1), (213, .invokevirtual 134, 3), (216, .goto 5, 3), (219, .bipush (-9), 2), (221, .ireturn, 1), (222, .aload_n 0, 1), (223, .aload_n 0, 1), (224, .getfield 118, 3), (227, .invokevirtual 140, 3), (230, .ifCond .eq 14, 3), (233, .aload_n 0, 1), (234, .aload_n 0, 1), (235, .getfield 118, 3), (238, .invokevirtual 143, 3), (241, .goto 5, 3), (244, .bipush (-9), 2), (246, .ireturn, 1), (247, .aload_n 0, 1), (248, .aload_n 0, 1), (249, .getfield 118, 3), (252, .invokevirtual 146, 3), (255, .ifCond .eq 14, 3), (258, .aload_n 0, 1), (259, .aload_n 0, 1), (260, .getfield 118, 3), (263, .invokevirtual 149, 3), (266, .goto 5, 3), (269, .bipush (-9), 2), (271, .ireturn, 1), (272, .aload_n 0, 1), (273, .getfield 118, 3), (276, .iconst 1, 1), (277, .bipush 60, 2), (279, .invokestatic 41, 3), (282, .ifCond .eq 14, 3), (285, .aload_n 0, 1), (286, .aload_n 0, 1), (287, .getfield 118, 3), (290, .invokevirtual 152, 3), (293, .goto 5, 3), (296, .bipush (-9), 2), (298, .ireturn, 1), (299, .aload_n 0, 1), (300, .aload_n 0, 1), (301, .getfield 118, 3), (304, .invokevirtual 155, 3), (307, .ifCond .ne 14, 3), (310, .aload_n 0, 1), (311, .aload_n 0, 1), (312, .getfield 118, 3), (315, .invokevirtual 158, 3), (318, .goto 5, 3), (321, .bipush (-9), 2), (323, .ireturn, 1)]
set_option maxRecDepth 100000 in
theorem d_Mo_does : decA cX11_does I_Mo_does = true := by decide +kernel
abbrev rm_Mo_does : Room := ({ frames := 8, cells := 0, slots := 0, locals := 186 } : Room)
def m_Mo_does (u : Nat) (M : KMem) : Option (Int32 × KMem) :=
 if (M u 11) = 100 then
 (Option.bind (m_Mo_errorOfDecree u 0 (M u 12) 0 0 M) fun x9 =>
 Option.bind (α := Int32 × KMem) (if x9 = 0 then
 (Option.bind (m_Mo_gives u 0 (M u 12) 0 0 M) fun (x15, M16) =>
 some (x15, M16))
 else
 (some ((-9), M))) fun (t10, M11) =>
 some (t10, M11))
 else
 (if (M u 11) = 106 then
 (Option.bind (m_Mo_errorOfDecree u 1 (M u 12) (M u 13) (M u 14) M) fun x19 =>
 Option.bind (α := Int32 × KMem) (if x19 = 0 then
 (Option.bind (m_Mo_gives u 1 (M u 12) (M u 13) (M u 14) M) fun (x25, M26) =>
 some (x25, M26))
 else
 (some ((-9), M))) fun (t20, M21) =>
 some (t20, M21))
 else
 (if (M u 11) = 109 then
 (Option.bind (m_Mo_in (M u 12) 1 60) fun x29 =>
 Option.bind (α := Int32 × KMem) (if x29 = 0 then
 (some ((-9), M))
 else
 (Option.bind (m_Mo_goesOn u (M u 12) M) fun (x35, M36) =>
 some (x35, M36))) fun (t30, M31) =>
 some (t30, M31))
 else
 (if (M u 11) = 111 then
 (Option.bind (m_Mo_errorOfDecree u 2 (M u 12) 0 0 M) fun x39 =>
 Option.bind (α := Int32 × KMem) (if x39 = 0 then
 (Option.bind (m_Mo_gives u 2 (M u 12) 0 0 M) fun (x45, M46) =>
 some (x45, M46))
 else
 (some ((-9), M))) fun (t40, M41) =>
 some (t40, M41))
 else
 (if (M u 11) = 112 then
 (Option.bind (m_Mo_isSign u (M u 12) M) fun x49 =>
 Option.bind (α := Int32 × KMem) (if x49 = 0 then
 (some ((-9), M))
 else
 (Option.bind (m_Mo_paints u (M u 12) M) fun (x55, M56) =>
 some (x55, M56))) fun (t50, M51) =>
 some (t50, M51))
 else
 (if (M u 11) = 114 then
 (Option.bind (m_Mo_isDecree u (M u 12) M) fun x59 =>
 Option.bind (α := Int32 × KMem) (if x59 = 0 then
 (some ((-9), M))
 else
 (Option.bind (m_Mo_revokes u (M u 12) M) fun (x65, M66) =>
 some (x65, M66))) fun (t60, M61) =>
 some (t60, M61))
 else
 (if (M u 11) = 115 then
 (Option.bind (m_Mo_errorOfSign u (M u 12) (M u 13) M) fun x69 =>
 Option.bind (α := Int32 × KMem) (if x69 = 0 then
 (Option.bind (m_Mo_comes u (M u 12) (M u 13) M) fun (x75, M76) =>
 some (x75, M76))
 else
 (some ((-9), M))) fun (t70, M71) =>
 some (t70, M71))
 else
 (Option.bind (m_Mo_errorOfAmnesty u (M u 12) M) fun x79 =>
 Option.bind (α := Int32 × KMem) (if x79 = 0 then
 (Option.bind (m_Mo_spares u (M u 12) M) fun (x85, M86) =>
 some (x85, M86))
 else
 (some ((-9), M))) fun (t80, M81) =>
 some (t80, M81))))))))
set_option maxHeartbeats 4000000 in
set_option maxRecDepth 100000 in
theorem b_Mo_does {X : KX} {B : KB} {L : KLay} {M : KMem} {u : Nat} (G : Good X B RX11 cX11_does 1 rm_Mo_does) (hu : okL L u moT) (h : kOk (m_Mo_does u M) (fun r => RI X B L 1 cX11_does .int rm_Mo_does r.1 r.2)) : KK X B L 1 0 0 M 0 [(0, .ref (B.1 + u))] [] := by
  unfold m_Mo_does at h
  refine k_aload_n G (dc d_Mo_does 0 rfl) 0 rfl rfl ?_
  refine k_getI G kc8 (dc d_Mo_does 1 rfl) (okL_lt hu (o := 0) 0 rfl) (okL_k hu (o := 0) 0 rfl) 11 (by decide) rfl fl_RX11_115 ?_
  by_cases c1 : (M u 11) = 100
  · replace h := kOk_p c1 h
    refine k_tsI G (dc d_Mo_does 2 rfl) (off := 113) (tgt := 117) c1 (by decide) (by decide) (by decide) (by decide) ?_
    refine k_aload_n G (dc d_Mo_does 19 rfl) 0 rfl rfl ?_
    refine k_iconst G (dc d_Mo_does 20 rfl) cI_0 ?_
    refine k_aload_n G (dc d_Mo_does 21 rfl) 0 rfl rfl ?_
    refine k_getI G kc8 (dc d_Mo_does 22 rfl) (okL_lt hu (o := 0) 0 rfl) (okL_k hu (o := 0) 0 rfl) 12 (by decide) rfl fl_RX11_118 ?_
    refine k_iconst G (dc d_Mo_does 23 rfl) cI_0 ?_
    refine k_iconst G (dc d_Mo_does 24 rfl) cI_0 ?_
    obtain ⟨x9, e8, h⟩ := kOk_b h
    refine k_cVI G (dc d_Mo_does 25 rfl) kc8 (okL_lt hu (o := 0) 0 rfl) (okL_k hu (o := 0) 0 rfl) mi_Mo_errorOfDecree mv_Mo_errorOfDecree rfl ml_RX11_130 (c_Mo_errorOfDecree (gst G) hu e8) rfl rfl ⟨rfl, rfl⟩ rfl ⟨rfl, rfl⟩ ⟨rfl, rfl⟩ ?_
    refine kJ h (fun r12 => KK X B L 1 0 0 r12.2 147 [] [.int r12.1]) (fun r12 h => ?_) (fun h => ?_)
    · obtain ⟨t10, M11⟩ := r12
      show KK X B L 1 0 0 M11 147 [] [.int t10]
      exact (kOk_s h) _ _ _ _ rfl rfl rfl (dc d_Mo_does 36 rfl)
    · refine k_if_ne G (dc d_Mo_does 26 rfl) (tgt := 145) rfl (fun c13 => ?_) (fun c13 => ?_)
      · replace h := kOk_n c13 h
        refine k_bipush G (dc d_Mo_does 35 rfl) cB_m9 ?_
        refine k_sub [] rfl ?_
        have h9 := kOk_s h
        exact h9
      · replace h := kOk_p c13 h
        refine k_aload_n G (dc d_Mo_does 27 rfl) 0 rfl rfl ?_
        refine k_iconst G (dc d_Mo_does 28 rfl) cI_0 ?_
        refine k_aload_n G (dc d_Mo_does 29 rfl) 0 rfl rfl ?_
        refine k_getI G kc8 (dc d_Mo_does 30 rfl) (okL_lt hu (o := 0) 0 rfl) (okL_k hu (o := 0) 0 rfl) 12 (by decide) rfl fl_RX11_118 ?_
        refine k_iconst G (dc d_Mo_does 31 rfl) cI_0 ?_
        refine k_iconst G (dc d_Mo_does 32 rfl) cI_0 ?_
        obtain ⟨⟨x15, M16⟩, e14, h⟩ := kOk_b h
        refine k_cVI G (dc d_Mo_does 33 rfl) kc8 (okL_lt hu (o := 0) 0 rfl) (okL_k hu (o := 0) 0 rfl) mi_Mo_gives mv_Mo_gives rfl ml_RX11_134 (c_Mo_gives (gst G) hu e14) rfl rfl ⟨rfl, rfl⟩ rfl ⟨rfl, rfl⟩ ⟨rfl, rfl⟩ ?_
        refine k_goto G (dc d_Mo_does 34 rfl) (tgt := 147) rfl ?_
        refine k_sub [] rfl ?_
        have h9 := kOk_s h
        exact h9
  · replace h := kOk_n c1 h
    by_cases c2 : (M u 11) = 106
    · replace h := kOk_p c2 h
      refine k_tsI G (dc d_Mo_does 2 rfl) (off := 144) (tgt := 148) c2 (by decide) (by decide) (by decide) (by decide) ?_
      refine k_aload_n G (dc d_Mo_does 37 rfl) 0 rfl rfl ?_
      refine k_iconst G (dc d_Mo_does 38 rfl) cI_1 ?_
      refine k_aload_n G (dc d_Mo_does 39 rfl) 0 rfl rfl ?_
      refine k_getI G kc8 (dc d_Mo_does 40 rfl) (okL_lt hu (o := 0) 0 rfl) (okL_k hu (o := 0) 0 rfl) 12 (by decide) rfl fl_RX11_118 ?_
      refine k_aload_n G (dc d_Mo_does 41 rfl) 0 rfl rfl ?_
      refine k_getI G kc8 (dc d_Mo_does 42 rfl) (okL_lt hu (o := 0) 0 rfl) (okL_k hu (o := 0) 0 rfl) 13 (by decide) rfl fl_RX11_121 ?_
      refine k_aload_n G (dc d_Mo_does 43 rfl) 0 rfl rfl ?_
      refine k_getI G kc8 (dc d_Mo_does 44 rfl) (okL_lt hu (o := 0) 0 rfl) (okL_k hu (o := 0) 0 rfl) 14 (by decide) rfl fl_RX11_137 ?_
      obtain ⟨x19, e18, h⟩ := kOk_b h
      refine k_cVI G (dc d_Mo_does 45 rfl) kc8 (okL_lt hu (o := 0) 0 rfl) (okL_k hu (o := 0) 0 rfl) mi_Mo_errorOfDecree mv_Mo_errorOfDecree rfl ml_RX11_130 (c_Mo_errorOfDecree (gst G) hu e18) rfl rfl ⟨rfl, rfl⟩ rfl ⟨rfl, rfl⟩ ⟨rfl, rfl⟩ ?_
      refine kJ h (fun r22 => KK X B L 1 0 0 r22.2 190 [] [.int r22.1]) (fun r22 h => ?_) (fun h => ?_)
      · obtain ⟨t20, M21⟩ := r22
        show KK X B L 1 0 0 M21 190 [] [.int t20]
        exact (kOk_s h) _ _ _ _ rfl rfl rfl (dc d_Mo_does 58 rfl)
      · refine k_if_ne G (dc d_Mo_does 46 rfl) (tgt := 188) rfl (fun c23 => ?_) (fun c23 => ?_)
        · replace h := kOk_n c23 h
          refine k_bipush G (dc d_Mo_does 57 rfl) cB_m9 ?_
          refine k_sub [] rfl ?_
          have h9 := kOk_s h
          exact h9
        · replace h := kOk_p c23 h
          refine k_aload_n G (dc d_Mo_does 47 rfl) 0 rfl rfl ?_
          refine k_iconst G (dc d_Mo_does 48 rfl) cI_1 ?_
          refine k_aload_n G (dc d_Mo_does 49 rfl) 0 rfl rfl ?_
          refine k_getI G kc8 (dc d_Mo_does 50 rfl) (okL_lt hu (o := 0) 0 rfl) (okL_k hu (o := 0) 0 rfl) 12 (by decide) rfl fl_RX11_118 ?_
          refine k_aload_n G (dc d_Mo_does 51 rfl) 0 rfl rfl ?_
          refine k_getI G kc8 (dc d_Mo_does 52 rfl) (okL_lt hu (o := 0) 0 rfl) (okL_k hu (o := 0) 0 rfl) 13 (by decide) rfl fl_RX11_121 ?_
          refine k_aload_n G (dc d_Mo_does 53 rfl) 0 rfl rfl ?_
          refine k_getI G kc8 (dc d_Mo_does 54 rfl) (okL_lt hu (o := 0) 0 rfl) (okL_k hu (o := 0) 0 rfl) 14 (by decide) rfl fl_RX11_137 ?_
          obtain ⟨⟨x25, M26⟩, e24, h⟩ := kOk_b h
          refine k_cVI G (dc d_Mo_does 55 rfl) kc8 (okL_lt hu (o := 0) 0 rfl) (okL_k hu (o := 0) 0 rfl) mi_Mo_gives mv_Mo_gives rfl ml_RX11_134 (c_Mo_gives (gst G) hu e24) rfl rfl ⟨rfl, rfl⟩ rfl ⟨rfl, rfl⟩ ⟨rfl, rfl⟩ ?_
          refine k_goto G (dc d_Mo_does 56 rfl) (tgt := 190) rfl ?_
          refine k_sub [] rfl ?_
          have h9 := kOk_s h
          exact h9
    · replace h := kOk_n c2 h
      by_cases c3 : (M u 11) = 109
      · replace h := kOk_p c3 h
        refine k_tsI G (dc d_Mo_does 2 rfl) (off := 268) (tgt := 272) c3 (by decide) (by decide) (by decide) (by decide) ?_
        refine k_aload_n G (dc d_Mo_does 101 rfl) 0 rfl rfl ?_
        refine k_getI G kc8 (dc d_Mo_does 102 rfl) (okL_lt hu (o := 0) 0 rfl) (okL_k hu (o := 0) 0 rfl) 12 (by decide) rfl fl_RX11_118 ?_
        refine k_iconst G (dc d_Mo_does 103 rfl) cI_1 ?_
        refine k_bipush G (dc d_Mo_does 104 rfl) cB_60 ?_
        obtain ⟨x29, e28, h⟩ := kOk_b h
        refine k_cSI G (dc d_Mo_does 105 rfl) mi_Mo_in ms_Mo_in ml_RX11_41 (c_Mo_in (gst G)  e28) rfl rfl ⟨rfl, rfl⟩ rfl ⟨rfl, rfl⟩ ⟨rfl, rfl⟩ ?_
        refine kJ h (fun r32 => KK X B L 1 0 0 r32.2 298 [] [.int r32.1]) (fun r32 h => ?_) (fun h => ?_)
        · obtain ⟨t30, M31⟩ := r32
          show KK X B L 1 0 0 M31 298 [] [.int t30]
          exact (kOk_s h) _ _ _ _ rfl rfl rfl (dc d_Mo_does 113 rfl)
        · refine k_if_eq G (dc d_Mo_does 106 rfl) (tgt := 296) rfl (fun c33 => ?_) (fun c33 => ?_)
          · replace h := kOk_p c33 h
            refine k_bipush G (dc d_Mo_does 112 rfl) cB_m9 ?_
            refine k_sub [] rfl ?_
            have h9 := kOk_s h
            exact h9
          · replace h := kOk_n c33 h
            refine k_aload_n G (dc d_Mo_does 107 rfl) 0 rfl rfl ?_
            refine k_aload_n G (dc d_Mo_does 108 rfl) 0 rfl rfl ?_
            refine k_getI G kc8 (dc d_Mo_does 109 rfl) (okL_lt hu (o := 0) 0 rfl) (okL_k hu (o := 0) 0 rfl) 12 (by decide) rfl fl_RX11_118 ?_
            obtain ⟨⟨x35, M36⟩, e34, h⟩ := kOk_b h
            refine k_cVI G (dc d_Mo_does 110 rfl) kc8 (okL_lt hu (o := 0) 0 rfl) (okL_k hu (o := 0) 0 rfl) mi_Mo_goesOn mv_Mo_goesOn rfl ml_RX11_152 (c_Mo_goesOn (gst G) hu e34) rfl rfl ⟨rfl, rfl⟩ rfl ⟨rfl, rfl⟩ ⟨rfl, rfl⟩ ?_
            refine k_goto G (dc d_Mo_does 111 rfl) (tgt := 298) rfl ?_
            refine k_sub [] rfl ?_
            have h9 := kOk_s h
            exact h9
      · replace h := kOk_n c3 h
        by_cases c4 : (M u 11) = 111
        · replace h := kOk_p c4 h
          refine k_tsI G (dc d_Mo_does 2 rfl) (off := 187) (tgt := 191) c4 (by decide) (by decide) (by decide) (by decide) ?_
          refine k_aload_n G (dc d_Mo_does 59 rfl) 0 rfl rfl ?_
          refine k_iconst G (dc d_Mo_does 60 rfl) cI_2 ?_
          refine k_aload_n G (dc d_Mo_does 61 rfl) 0 rfl rfl ?_
          refine k_getI G kc8 (dc d_Mo_does 62 rfl) (okL_lt hu (o := 0) 0 rfl) (okL_k hu (o := 0) 0 rfl) 12 (by decide) rfl fl_RX11_118 ?_
          refine k_iconst G (dc d_Mo_does 63 rfl) cI_0 ?_
          refine k_iconst G (dc d_Mo_does 64 rfl) cI_0 ?_
          obtain ⟨x39, e38, h⟩ := kOk_b h
          refine k_cVI G (dc d_Mo_does 65 rfl) kc8 (okL_lt hu (o := 0) 0 rfl) (okL_k hu (o := 0) 0 rfl) mi_Mo_errorOfDecree mv_Mo_errorOfDecree rfl ml_RX11_130 (c_Mo_errorOfDecree (gst G) hu e38) rfl rfl ⟨rfl, rfl⟩ rfl ⟨rfl, rfl⟩ ⟨rfl, rfl⟩ ?_
          refine kJ h (fun r42 => KK X B L 1 0 0 r42.2 221 [] [.int r42.1]) (fun r42 h => ?_) (fun h => ?_)
          · obtain ⟨t40, M41⟩ := r42
            show KK X B L 1 0 0 M41 221 [] [.int t40]
            exact (kOk_s h) _ _ _ _ rfl rfl rfl (dc d_Mo_does 76 rfl)
          · refine k_if_ne G (dc d_Mo_does 66 rfl) (tgt := 219) rfl (fun c43 => ?_) (fun c43 => ?_)
            · replace h := kOk_n c43 h
              refine k_bipush G (dc d_Mo_does 75 rfl) cB_m9 ?_
              refine k_sub [] rfl ?_
              have h9 := kOk_s h
              exact h9
            · replace h := kOk_p c43 h
              refine k_aload_n G (dc d_Mo_does 67 rfl) 0 rfl rfl ?_
              refine k_iconst G (dc d_Mo_does 68 rfl) cI_2 ?_
              refine k_aload_n G (dc d_Mo_does 69 rfl) 0 rfl rfl ?_
              refine k_getI G kc8 (dc d_Mo_does 70 rfl) (okL_lt hu (o := 0) 0 rfl) (okL_k hu (o := 0) 0 rfl) 12 (by decide) rfl fl_RX11_118 ?_
              refine k_iconst G (dc d_Mo_does 71 rfl) cI_0 ?_
              refine k_iconst G (dc d_Mo_does 72 rfl) cI_0 ?_
              obtain ⟨⟨x45, M46⟩, e44, h⟩ := kOk_b h
              refine k_cVI G (dc d_Mo_does 73 rfl) kc8 (okL_lt hu (o := 0) 0 rfl) (okL_k hu (o := 0) 0 rfl) mi_Mo_gives mv_Mo_gives rfl ml_RX11_134 (c_Mo_gives (gst G) hu e44) rfl rfl ⟨rfl, rfl⟩ rfl ⟨rfl, rfl⟩ ⟨rfl, rfl⟩ ?_
              refine k_goto G (dc d_Mo_does 74 rfl) (tgt := 221) rfl ?_
              refine k_sub [] rfl ?_
              have h9 := kOk_s h
              exact h9
        · replace h := kOk_n c4 h
          by_cases c5 : (M u 11) = 112
          · replace h := kOk_p c5 h
            refine k_tsI G (dc d_Mo_does 2 rfl) (off := 243) (tgt := 247) c5 (by decide) (by decide) (by decide) (by decide) ?_
            refine k_aload_n G (dc d_Mo_does 89 rfl) 0 rfl rfl ?_
            refine k_aload_n G (dc d_Mo_does 90 rfl) 0 rfl rfl ?_
            refine k_getI G kc8 (dc d_Mo_does 91 rfl) (okL_lt hu (o := 0) 0 rfl) (okL_k hu (o := 0) 0 rfl) 12 (by decide) rfl fl_RX11_118 ?_
            obtain ⟨x49, e48, h⟩ := kOk_b h
            refine k_cVI G (dc d_Mo_does 92 rfl) kc8 (okL_lt hu (o := 0) 0 rfl) (okL_k hu (o := 0) 0 rfl) mi_Mo_isSign mv_Mo_isSign rfl ml_RX11_146 (c_Mo_isSign (gst G) hu e48) rfl rfl ⟨rfl, rfl⟩ rfl ⟨rfl, rfl⟩ ⟨rfl, rfl⟩ ?_
            refine kJ h (fun r52 => KK X B L 1 0 0 r52.2 271 [] [.int r52.1]) (fun r52 h => ?_) (fun h => ?_)
            · obtain ⟨t50, M51⟩ := r52
              show KK X B L 1 0 0 M51 271 [] [.int t50]
              exact (kOk_s h) _ _ _ _ rfl rfl rfl (dc d_Mo_does 100 rfl)
            · refine k_if_eq G (dc d_Mo_does 93 rfl) (tgt := 269) rfl (fun c53 => ?_) (fun c53 => ?_)
              · replace h := kOk_p c53 h
                refine k_bipush G (dc d_Mo_does 99 rfl) cB_m9 ?_
                refine k_sub [] rfl ?_
                have h9 := kOk_s h
                exact h9
              · replace h := kOk_n c53 h
                refine k_aload_n G (dc d_Mo_does 94 rfl) 0 rfl rfl ?_
                refine k_aload_n G (dc d_Mo_does 95 rfl) 0 rfl rfl ?_
                refine k_getI G kc8 (dc d_Mo_does 96 rfl) (okL_lt hu (o := 0) 0 rfl) (okL_k hu (o := 0) 0 rfl) 12 (by decide) rfl fl_RX11_118 ?_
                obtain ⟨⟨x55, M56⟩, e54, h⟩ := kOk_b h
                refine k_cVI G (dc d_Mo_does 97 rfl) kc8 (okL_lt hu (o := 0) 0 rfl) (okL_k hu (o := 0) 0 rfl) mi_Mo_paints mv_Mo_paints rfl ml_RX11_149 (c_Mo_paints (gst G) hu e54) rfl rfl ⟨rfl, rfl⟩ rfl ⟨rfl, rfl⟩ ⟨rfl, rfl⟩ ?_
                refine k_goto G (dc d_Mo_does 98 rfl) (tgt := 271) rfl ?_
                refine k_sub [] rfl ?_
                have h9 := kOk_s h
                exact h9
          · replace h := kOk_n c5 h
            by_cases c6 : (M u 11) = 114
            · replace h := kOk_p c6 h
              refine k_tsI G (dc d_Mo_does 2 rfl) (off := 218) (tgt := 222) c6 (by decide) (by decide) (by decide) (by decide) ?_
              refine k_aload_n G (dc d_Mo_does 77 rfl) 0 rfl rfl ?_
              refine k_aload_n G (dc d_Mo_does 78 rfl) 0 rfl rfl ?_
              refine k_getI G kc8 (dc d_Mo_does 79 rfl) (okL_lt hu (o := 0) 0 rfl) (okL_k hu (o := 0) 0 rfl) 12 (by decide) rfl fl_RX11_118 ?_
              obtain ⟨x59, e58, h⟩ := kOk_b h
              refine k_cVI G (dc d_Mo_does 80 rfl) kc8 (okL_lt hu (o := 0) 0 rfl) (okL_k hu (o := 0) 0 rfl) mi_Mo_isDecree mv_Mo_isDecree rfl ml_RX11_140 (c_Mo_isDecree (gst G) hu e58) rfl rfl ⟨rfl, rfl⟩ rfl ⟨rfl, rfl⟩ ⟨rfl, rfl⟩ ?_
              refine kJ h (fun r62 => KK X B L 1 0 0 r62.2 246 [] [.int r62.1]) (fun r62 h => ?_) (fun h => ?_)
              · obtain ⟨t60, M61⟩ := r62
                show KK X B L 1 0 0 M61 246 [] [.int t60]
                exact (kOk_s h) _ _ _ _ rfl rfl rfl (dc d_Mo_does 88 rfl)
              · refine k_if_eq G (dc d_Mo_does 81 rfl) (tgt := 244) rfl (fun c63 => ?_) (fun c63 => ?_)
                · replace h := kOk_p c63 h
                  refine k_bipush G (dc d_Mo_does 87 rfl) cB_m9 ?_
                  refine k_sub [] rfl ?_
                  have h9 := kOk_s h
                  exact h9
                · replace h := kOk_n c63 h
                  refine k_aload_n G (dc d_Mo_does 82 rfl) 0 rfl rfl ?_
                  refine k_aload_n G (dc d_Mo_does 83 rfl) 0 rfl rfl ?_
                  refine k_getI G kc8 (dc d_Mo_does 84 rfl) (okL_lt hu (o := 0) 0 rfl) (okL_k hu (o := 0) 0 rfl) 12 (by decide) rfl fl_RX11_118 ?_
                  obtain ⟨⟨x65, M66⟩, e64, h⟩ := kOk_b h
                  refine k_cVI G (dc d_Mo_does 85 rfl) kc8 (okL_lt hu (o := 0) 0 rfl) (okL_k hu (o := 0) 0 rfl) mi_Mo_revokes mv_Mo_revokes rfl ml_RX11_143 (c_Mo_revokes (gst G) hu e64) rfl rfl ⟨rfl, rfl⟩ rfl ⟨rfl, rfl⟩ ⟨rfl, rfl⟩ ?_
                  refine k_goto G (dc d_Mo_does 86 rfl) (tgt := 246) rfl ?_
                  refine k_sub [] rfl ?_
                  have h9 := kOk_s h
                  exact h9
            · replace h := kOk_n c6 h
              by_cases c7 : (M u 11) = 115
              · replace h := kOk_p c7 h
                refine k_tsI G (dc d_Mo_does 2 rfl) (off := 80) (tgt := 84) c7 (by decide) (by decide) (by decide) (by decide) ?_
                refine k_aload_n G (dc d_Mo_does 3 rfl) 0 rfl rfl ?_
                refine k_aload_n G (dc d_Mo_does 4 rfl) 0 rfl rfl ?_
                refine k_getI G kc8 (dc d_Mo_does 5 rfl) (okL_lt hu (o := 0) 0 rfl) (okL_k hu (o := 0) 0 rfl) 12 (by decide) rfl fl_RX11_118 ?_
                refine k_aload_n G (dc d_Mo_does 6 rfl) 0 rfl rfl ?_
                refine k_getI G kc8 (dc d_Mo_does 7 rfl) (okL_lt hu (o := 0) 0 rfl) (okL_k hu (o := 0) 0 rfl) 13 (by decide) rfl fl_RX11_121 ?_
                obtain ⟨x69, e68, h⟩ := kOk_b h
                refine k_cVI G (dc d_Mo_does 8 rfl) kc8 (okL_lt hu (o := 0) 0 rfl) (okL_k hu (o := 0) 0 rfl) mi_Mo_errorOfSign mv_Mo_errorOfSign rfl ml_RX11_124 (c_Mo_errorOfSign (gst G) hu e68) rfl rfl ⟨rfl, rfl⟩ rfl ⟨rfl, rfl⟩ ⟨rfl, rfl⟩ ?_
                refine kJ h (fun r72 => KK X B L 1 0 0 r72.2 116 [] [.int r72.1]) (fun r72 h => ?_) (fun h => ?_)
                · obtain ⟨t70, M71⟩ := r72
                  show KK X B L 1 0 0 M71 116 [] [.int t70]
                  exact (kOk_s h) _ _ _ _ rfl rfl rfl (dc d_Mo_does 18 rfl)
                · refine k_if_ne G (dc d_Mo_does 9 rfl) (tgt := 114) rfl (fun c73 => ?_) (fun c73 => ?_)
                  · replace h := kOk_n c73 h
                    refine k_bipush G (dc d_Mo_does 17 rfl) cB_m9 ?_
                    refine k_sub [] rfl ?_
                    have h9 := kOk_s h
                    exact h9
                  · replace h := kOk_p c73 h
                    refine k_aload_n G (dc d_Mo_does 10 rfl) 0 rfl rfl ?_
                    refine k_aload_n G (dc d_Mo_does 11 rfl) 0 rfl rfl ?_
                    refine k_getI G kc8 (dc d_Mo_does 12 rfl) (okL_lt hu (o := 0) 0 rfl) (okL_k hu (o := 0) 0 rfl) 12 (by decide) rfl fl_RX11_118 ?_
                    refine k_aload_n G (dc d_Mo_does 13 rfl) 0 rfl rfl ?_
                    refine k_getI G kc8 (dc d_Mo_does 14 rfl) (okL_lt hu (o := 0) 0 rfl) (okL_k hu (o := 0) 0 rfl) 13 (by decide) rfl fl_RX11_121 ?_
                    obtain ⟨⟨x75, M76⟩, e74, h⟩ := kOk_b h
                    refine k_cVI G (dc d_Mo_does 15 rfl) kc8 (okL_lt hu (o := 0) 0 rfl) (okL_k hu (o := 0) 0 rfl) mi_Mo_comes mv_Mo_comes rfl ml_RX11_127 (c_Mo_comes (gst G) hu e74) rfl rfl ⟨rfl, rfl⟩ rfl ⟨rfl, rfl⟩ ⟨rfl, rfl⟩ ?_
                    refine k_goto G (dc d_Mo_does 16 rfl) (tgt := 116) rfl ?_
                    refine k_sub [] rfl ?_
                    have h9 := kOk_s h
                    exact h9
              · replace h := kOk_n c7 h
                have hD87 : KK X B L 1 0 0 M 299 [(0, .ref (B.1 + u))] [] := by
                  refine k_aload_n G (dc d_Mo_does 114 rfl) 0 rfl rfl ?_
                  refine k_aload_n G (dc d_Mo_does 115 rfl) 0 rfl rfl ?_
                  refine k_getI G kc8 (dc d_Mo_does 116 rfl) (okL_lt hu (o := 0) 0 rfl) (okL_k hu (o := 0) 0 rfl) 12 (by decide) rfl fl_RX11_118 ?_
                  obtain ⟨x79, e78, h⟩ := kOk_b h
                  refine k_cVI G (dc d_Mo_does 117 rfl) kc8 (okL_lt hu (o := 0) 0 rfl) (okL_k hu (o := 0) 0 rfl) mi_Mo_errorOfAmnesty mv_Mo_errorOfAmnesty rfl ml_RX11_155 (c_Mo_errorOfAmnesty (gst G) hu e78) rfl rfl ⟨rfl, rfl⟩ rfl ⟨rfl, rfl⟩ ⟨rfl, rfl⟩ ?_
                  refine kJ h (fun r82 => KK X B L 1 0 0 r82.2 323 [] [.int r82.1]) (fun r82 h => ?_) (fun h => ?_)
                  · obtain ⟨t80, M81⟩ := r82
                    show KK X B L 1 0 0 M81 323 [] [.int t80]
                    exact (kOk_s h) _ _ _ _ rfl rfl rfl (dc d_Mo_does 125 rfl)
                  · refine k_if_ne G (dc d_Mo_does 118 rfl) (tgt := 321) rfl (fun c83 => ?_) (fun c83 => ?_)
                    · replace h := kOk_n c83 h
                      refine k_bipush G (dc d_Mo_does 124 rfl) cB_m9 ?_
                      refine k_sub [] rfl ?_
                      have h9 := kOk_s h
                      exact h9
                    · replace h := kOk_p c83 h
                      refine k_aload_n G (dc d_Mo_does 119 rfl) 0 rfl rfl ?_
                      refine k_aload_n G (dc d_Mo_does 120 rfl) 0 rfl rfl ?_
                      refine k_getI G kc8 (dc d_Mo_does 121 rfl) (okL_lt hu (o := 0) 0 rfl) (okL_k hu (o := 0) 0 rfl) 12 (by decide) rfl fl_RX11_118 ?_
                      obtain ⟨⟨x85, M86⟩, e84, h⟩ := kOk_b h
                      refine k_cVI G (dc d_Mo_does 122 rfl) kc8 (okL_lt hu (o := 0) 0 rfl) (okL_k hu (o := 0) 0 rfl) mi_Mo_spares mv_Mo_spares rfl ml_RX11_158 (c_Mo_spares (gst G) hu e84) rfl rfl ⟨rfl, rfl⟩ rfl ⟨rfl, rfl⟩ ⟨rfl, rfl⟩ ?_
                      refine k_goto G (dc d_Mo_does 123 rfl) (tgt := 323) rfl ?_
                      refine k_sub [] rfl ?_
                      have h9 := kOk_s h
                      exact h9
                rcases ts_out (M u 11) 100 115 with ho | ⟨k9, h91, h92, h93⟩
                · exact k_tableOut G (dc d_Mo_does 2 rfl) (tgt := 299) ho rfl hD87
                · have h94 : k9 = 100 ∨ k9 = 101 ∨ k9 = 102 ∨ k9 = 103 ∨ k9 = 104 ∨ k9 = 105 ∨ k9 = 106 ∨ k9 = 107 ∨ k9 = 108 ∨ k9 = 109 ∨ k9 = 110 ∨ k9 = 111 ∨ k9 = 112 ∨ k9 = 113 ∨ k9 = 114 ∨ k9 = 115 := by omega
                  rcases h94 with rfl | rfl | rfl | rfl | rfl | rfl | rfl | rfl | rfl | rfl | rfl | rfl | rfl | rfl | rfl | rfl
                  · exact absurd (h93.trans cI_100) c1
                  · exact k_tsI G (dc d_Mo_does 2 rfl) (off := 295) (tgt := 299) (h93.trans cI_101) (by decide) (by decide) (by decide) (by decide) hD87
                  · exact k_tsI G (dc d_Mo_does 2 rfl) (off := 295) (tgt := 299) (h93.trans cI_102) (by decide) (by decide) (by decide) (by decide) hD87
                  · exact k_tsI G (dc d_Mo_does 2 rfl) (off := 295) (tgt := 299) (h93.trans cI_103) (by decide) (by decide) (by decide) (by decide) hD87
                  · exact k_tsI G (dc d_Mo_does 2 rfl) (off := 295) (tgt := 299) (h93.trans cI_104) (by decide) (by decide) (by decide) (by decide) hD87
                  · exact k_tsI G (dc d_Mo_does 2 rfl) (off := 295) (tgt := 299) (h93.trans cI_105) (by decide) (by decide) (by decide) (by decide) hD87
                  · exact absurd (h93.trans cI_106) c2
                  · exact k_tsI G (dc d_Mo_does 2 rfl) (off := 295) (tgt := 299) (h93.trans cI_107) (by decide) (by decide) (by decide) (by decide) hD87
                  · exact k_tsI G (dc d_Mo_does 2 rfl) (off := 295) (tgt := 299) (h93.trans cI_108) (by decide) (by decide) (by decide) (by decide) hD87
                  · exact absurd (h93.trans cI_109) c3
                  · exact k_tsI G (dc d_Mo_does 2 rfl) (off := 295) (tgt := 299) (h93.trans cI_110) (by decide) (by decide) (by decide) (by decide) hD87
                  · exact absurd (h93.trans cI_111) c4
                  · exact absurd (h93.trans cI_112) c5
                  · exact k_tsI G (dc d_Mo_does 2 rfl) (off := 295) (tgt := 299) (h93.trans cI_113) (by decide) (by decide) (by decide) (by decide) hD87
                  · exact absurd (h93.trans cI_114) c6
                  · exact absurd (h93.trans cI_115) c7
theorem c_Mo_does {l : Launch} {B : KB} {L : KLay} {M : KMem} {u : Nat} (hst : l.stackTraces = false) (hu : okL L u moT) {r : Int32} {M' : KMem} (e : m_Mo_does u M = some (r, M')) : CtrN l B yX11_does cX11_does 1 (some .int) rm_Mo_does [.ref (B.1 + u)] L M (some (.int r)) L M' :=
  mk_I rfl hst rfl (fun X hl G _ R => b_Mo_does G hu ⟨_, e, R⟩)
def I_Mo_hasReasons : List (Nat × Instr × Nat) := [(0, .aload_n 0, 1), (1, .getfield 115, 3), (4, .bipush 115, 2), (6, .if_icmp .eq 39, 3), (9, .aload_n 0, 1), (10, .getfield 115, 3), (13, .bipush 100, 2), (15, .if_icmp .eq 30, 3), (18, .aload_n 0, 1), (19, .getfield 115, 3), (22, .bipush 106, 2), (24, .if_icmp .eq 21, 3), (27, .aload_n 0, 1), (28, .getfield 115, 3), (31, .bipush 111, 2), (33, .if_icmp .eq 12, 3), (36, .aload_n 0, 1), (37, .getfield 115, 3), (40, .bipush 114, 2), (42, .if_icmp .ne 7, 3), (45, .iconst 1, 1), (46, .goto 4, 3), (49, .iconst 0, 1), (50, .ireturn, 1)]
set_option maxRecDepth 100000 in
theorem d_Mo_hasReasons : decA cX11_hasReasons I_Mo_hasReasons = true := by decide +kernel
abbrev rm_Mo_hasReasons : Room := ({ frames := 0, cells := 0, slots := 0, locals := 0 } : Room)
def m_Mo_hasReasons (u : Nat) (M : KMem) : Option Int32 :=
 Option.bind (α := Int32) (if (M u 11) = 115 then
 (some 1)
 else
 (if (M u 11) = 100 then
 (some 1)
 else
 (if (M u 11) = 106 then
 (some 1)
 else
 (if (M u 11) = 111 then
 (some 1)
 else
 (if (M u 11) = 114 then
 (some 1)
 else
 (some 0)))))) fun t1 =>
 Option.bind (kz t1) fun z3 =>
 some z3
set_option maxHeartbeats 4000000 in
set_option maxRecDepth 100000 in
theorem b_Mo_hasReasons {X : KX} {B : KB} {L : KLay} {M : KMem} {u : Nat} (G : Good X B RX11 cX11_hasReasons 1 rm_Mo_hasReasons) (hu : okL L u moT) (h : kOk (m_Mo_hasReasons u M) (fun r => RI X B L 1 cX11_hasReasons .boolean rm_Mo_hasReasons r M)) : KK X B L 1 0 0 M 0 [(0, .ref (B.1 + u))] [] := by
  unfold m_Mo_hasReasons at h
  refine k_aload_n G (dc d_Mo_hasReasons 0 rfl) 0 rfl rfl ?_
  refine k_getI G kc8 (dc d_Mo_hasReasons 1 rfl) (okL_lt hu (o := 0) 0 rfl) (okL_k hu (o := 0) 0 rfl) 11 (by decide) rfl fl_RX11_115 ?_
  refine k_bipush G (dc d_Mo_hasReasons 2 rfl) cB_115 ?_
  refine kJ h (fun r2 => KK X B L 1 0 0 M 50 [] [.int r2]) (fun r2 h => ?_) (fun h => ?_)
  · obtain ⟨t1, rfl⟩ : ∃ z, z = r2 := ⟨_, rfl⟩
    show KK X B L 1 0 0 M 50 [] [.int t1]
    obtain ⟨z3, e4, h⟩ := kOk_b h
    obtain ⟨e4, nz3, -⟩ := kz_ok e4
    rw [e4]
    exact (kOk_s h) _ _ _ _ rfl rfl nz3 (dc d_Mo_hasReasons 23 rfl)
  · refine k_icmp_eq G (dc d_Mo_hasReasons 3 rfl) (tgt := 45) rfl (fun c5 => ?_) (fun c5 => ?_)
    · replace h := kOk_p c5 h
      refine k_iconst G (dc d_Mo_hasReasons 20 rfl) cI_1 ?_
      refine k_goto G (dc d_Mo_hasReasons 21 rfl) (tgt := 50) rfl ?_
      refine k_sub [] rfl ?_
      have h9 := kOk_s h
      exact h9
    · replace h := kOk_n c5 h
      refine k_aload_n G (dc d_Mo_hasReasons 4 rfl) 0 rfl rfl ?_
      refine k_getI G kc8 (dc d_Mo_hasReasons 5 rfl) (okL_lt hu (o := 0) 0 rfl) (okL_k hu (o := 0) 0 rfl) 11 (by decide) rfl fl_RX11_115 ?_
      refine k_bipush G (dc d_Mo_hasReasons 6 rfl) cB_100 ?_
      refine k_icmp_eq G (dc d_Mo_hasReasons 7 rfl) (tgt := 45) rfl (fun c6 => ?_) (fun c6 => ?_)
      · replace h := kOk_p c6 h
        refine k_iconst G (dc d_Mo_hasReasons 20 rfl) cI_1 ?_
        refine k_goto G (dc d_Mo_hasReasons 21 rfl) (tgt := 50) rfl ?_
        refine k_sub [] rfl ?_
        have h9 := kOk_s h
        exact h9
      · replace h := kOk_n c6 h
        refine k_aload_n G (dc d_Mo_hasReasons 8 rfl) 0 rfl rfl ?_
        refine k_getI G kc8 (dc d_Mo_hasReasons 9 rfl) (okL_lt hu (o := 0) 0 rfl) (okL_k hu (o := 0) 0 rfl) 11 (by decide) rfl fl_RX11_115 ?_
        refine k_bipush G (dc d_Mo_hasReasons 10 rfl) cB_106 ?_
        refine k_icmp_eq G (dc d_Mo_hasReasons 11 rfl) (tgt := 45) rfl (fun c7 => ?_) (fun c7 => ?_)
        · replace h := kOk_p c7 h
          refine k_iconst G (dc d_Mo_hasReasons 20 rfl) cI_1 ?_
          refine k_goto G (dc d_Mo_hasReasons 21 rfl) (tgt := 50) rfl ?_
          refine k_sub [] rfl ?_
          have h9 := kOk_s h
          exact h9
        · replace h := kOk_n c7 h
          refine k_aload_n G (dc d_Mo_hasReasons 12 rfl) 0 rfl rfl ?_
          refine k_getI G kc8 (dc d_Mo_hasReasons 13 rfl) (okL_lt hu (o := 0) 0 rfl) (okL_k hu (o := 0) 0 rfl) 11 (by decide) rfl fl_RX11_115 ?_
          refine k_bipush G (dc d_Mo_hasReasons 14 rfl) cB_111 ?_
          refine k_icmp_eq G (dc d_Mo_hasReasons 15 rfl) (tgt := 45) rfl (fun c8 => ?_) (fun c8 => ?_)
          · replace h := kOk_p c8 h
            refine k_iconst G (dc d_Mo_hasReasons 20 rfl) cI_1 ?_
            refine k_goto G (dc d_Mo_hasReasons 21 rfl) (tgt := 50) rfl ?_
            refine k_sub [] rfl ?_
            have h9 := kOk_s h
            exact h9
          · replace h := kOk_n c8 h
            refine k_aload_n G (dc d_Mo_hasReasons 16 rfl) 0 rfl rfl ?_
            refine k_getI G kc8 (dc d_Mo_hasReasons 17 rfl) (okL_lt hu (o := 0) 0 rfl) (okL_k hu (o := 0) 0 rfl) 11 (by decide) rfl fl_RX11_115 ?_
            refine k_bipush G (dc d_Mo_hasReasons 18 rfl) cB_114 ?_
            refine k_icmp_ne G (dc d_Mo_hasReasons 19 rfl) (tgt := 49) rfl (fun c9 => ?_) (fun c9 => ?_)
            · replace h := kOk_n c9 h
              refine k_iconst G (dc d_Mo_hasReasons 22 rfl) cI_0 ?_
              refine k_sub [] rfl ?_
              have h9 := kOk_s h
              exact h9
            · replace h := kOk_p c9 h
              refine k_iconst G (dc d_Mo_hasReasons 20 rfl) cI_1 ?_
              refine k_goto G (dc d_Mo_hasReasons 21 rfl) (tgt := 50) rfl ?_
              refine k_sub [] rfl ?_
              have h9 := kOk_s h
              exact h9
theorem c_Mo_hasReasons {l : Launch} {B : KB} {L : KLay} {M : KMem} {u : Nat} (hst : l.stackTraces = false) (hu : okL L u moT) {r : Int32} (e : m_Mo_hasReasons u M = some r) : CtrN l B yX11_hasReasons cX11_hasReasons 1 (some .boolean) rm_Mo_hasReasons [.ref (B.1 + u)] L M (some (.int r)) L M :=
  mk_I rfl hst rfl (fun X hl G _ R => b_Mo_hasReasons G hu ⟨_, e, R⟩)
