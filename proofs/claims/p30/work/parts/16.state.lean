/-! laid by wip/p30/g30.py: St_clear, St_copyFrom -/
def I_St_clear : List (Nat × Instr × Nat) := [(0, .aload_n 0, 1), (1, .getfield 12, 3), (4, .iconst 0, 1), (5, .putfield 49, 3), (8, .aload_n 0, 1), (9, .iconst 0, 1), (10, .putfield 53, 3), (13, .aload_n 0, 1), (14, .getfield 37, 3), (17, .iconst 0, 1), (18, .invokestatic 56, 3), (21, .aload_n 0, 1), (22, .getfield 40, 3), (25, .iconst 0, 1), (26, .invokestatic 56, 3), (29, .aload_n 0, 1), (30, .getfield 43, 3), (33, .iconst 0, 1), (34, .iconst 4, 1), (35, .iastore, 1), (36, .aload_n 0, 1), (37, .getfield 43, 3), (40, .iconst 1, 1), (41, .iconst 3, 1), (42, .iastore, 1), (43, .aload_n 0, 1), (44, .iconst 0, 1), (45, .putfield 62, 3), (48, .aload_n 0, 1), (49, .iconst 0, 1), (50, .putfield 65, 3), (53, .aload_n 0, 1), (54, .iconst (-1), 1), (55, .putfield 68, 3), (58, .aload_n 0, 1), (59, .iconst 0, 1), (60, .putfield 71, 3), (63, .return_, 1)]
set_option maxRecDepth 100000 in
theorem d_St_clear : decA cX7_clear I_St_clear = true := by decide +kernel
abbrev rm_St_clear : Room := ({ frames := 1, cells := 0, slots := 0, locals := 23 } : Room)
def m_St_clear (u : Nat) (M : KMem) : Option KMem :=
 Option.bind (some (kup M (u + 1) 0 0)) fun M2 =>
 Option.bind (some (kup M2 u 1 0)) fun M4 =>
 Option.bind (m_Ar_fillI (u + 9) 4 0 M4) fun M6 =>
 Option.bind (m_Ar_fillI (u + 10) 4 0 M6) fun M8 =>
 Option.bind (wrI M8 (u + 11) 2 0 4) fun M10 =>
 Option.bind (wrI M10 (u + 11) 2 1 3) fun M12 =>
 Option.bind (some (kup M12 u 11 0)) fun M14 =>
 Option.bind (some (kup M14 u 12 0)) fun M16 =>
 Option.bind (some (kup M16 u 13 (-1))) fun M18 =>
 Option.bind (some (kup M18 u 14 0)) fun M20 =>
 some M20
set_option maxHeartbeats 4000000 in
set_option maxRecDepth 100000 in
theorem b_St_clear {X : KX} {B : KB} {L : KLay} {M : KMem} {u : Nat} (G : Good X B RX7 cX7_clear 1 rm_St_clear) (hu : okL L u stT) (h : kOk (m_St_clear u M) (fun r => RV X B L 1 cX7_clear rm_St_clear r)) : KK X B L 1 0 0 M 0 [(0, .ref (B.1 + u))] [] := by
  unfold m_St_clear at h
  refine k_aload_n G (dc d_St_clear 0 rfl) 0 rfl rfl ?_
  refine k_getR G kc5 (dc d_St_clear 1 rfl) (okL_lt hu (o := 0) 0 rfl) (okL_k hu (o := 0) 0 rfl) 0 (by decide) rfl fl_RX7_12 (u + 1) (okL_r hu (o := 0) (c := 1) 0 rfl 0 rfl) ?_
  refine k_iconst G (dc d_St_clear 2 rfl) cI_0 ?_
  obtain ⟨M2, e1, h⟩ := kOk_b h
  refine k_putIN G kc0 (dc d_St_clear 3 rfl) (okL_lt hu (o := 1) 1 rfl) (okL_k hu (o := 1) 1 rfl) 0 (by decide) rfl rfl fl_RX7_49 rfl rfl e1 ?_
  refine k_aload_n G (dc d_St_clear 4 rfl) 0 rfl rfl ?_
  refine k_iconst G (dc d_St_clear 5 rfl) cI_0 ?_
  obtain ⟨M4, e3, h⟩ := kOk_b h
  refine k_putI G kc5 (dc d_St_clear 6 rfl) (okL_lt hu (o := 0) 0 rfl) (okL_k hu (o := 0) 0 rfl) 1 (by decide) rfl rfl fl_RX7_53 rfl rfl e3 ?_
  refine k_aload_n G (dc d_St_clear 7 rfl) 0 rfl rfl ?_
  refine k_getR G kc5 (dc d_St_clear 8 rfl) (okL_lt hu (o := 0) 0 rfl) (okL_k hu (o := 0) 0 rfl) 8 (by decide) rfl fl_RX7_37 (u + 9) (okL_r hu (o := 0) (c := 9) 0 rfl 7 rfl) ?_
  refine k_iconst G (dc d_St_clear 9 rfl) cI_0 ?_
  obtain ⟨M6, e5, h⟩ := kOk_b h
  refine k_cSV G (dc d_St_clear 10 rfl) mi_Ar_fillI ms_Ar_fillI ml_RX7_56 (c_Ar_fillI (gst G) (okL_a hu (o := 9) 9 rfl) e5) rfl rfl ⟨rfl, rfl⟩ rfl ⟨rfl, rfl⟩ ⟨rfl, rfl⟩ ?_
  refine k_aload_n G (dc d_St_clear 11 rfl) 0 rfl rfl ?_
  refine k_getR G kc5 (dc d_St_clear 12 rfl) (okL_lt hu (o := 0) 0 rfl) (okL_k hu (o := 0) 0 rfl) 9 (by decide) rfl fl_RX7_40 (u + 10) (okL_r hu (o := 0) (c := 10) 0 rfl 8 rfl) ?_
  refine k_iconst G (dc d_St_clear 13 rfl) cI_0 ?_
  obtain ⟨M8, e7, h⟩ := kOk_b h
  refine k_cSV G (dc d_St_clear 14 rfl) mi_Ar_fillI ms_Ar_fillI ml_RX7_56 (c_Ar_fillI (gst G) (okL_a hu (o := 10) 10 rfl) e7) rfl rfl ⟨rfl, rfl⟩ rfl ⟨rfl, rfl⟩ ⟨rfl, rfl⟩ ?_
  refine k_aload_n G (dc d_St_clear 15 rfl) 0 rfl rfl ?_
  refine k_getR G kc5 (dc d_St_clear 16 rfl) (okL_lt hu (o := 0) 0 rfl) (okL_k hu (o := 0) 0 rfl) 10 (by decide) rfl fl_RX7_43 (u + 11) (okL_r hu (o := 0) (c := 11) 0 rfl 9 rfl) ?_
  refine k_iconst G (dc d_St_clear 17 rfl) cI_0 ?_
  refine k_iconst G (dc d_St_clear 18 rfl) cI_4 ?_
  obtain ⟨M10, e9, h⟩ := kOk_b h
  refine k_ist G (dc d_St_clear 19 rfl) (okL_lt hu (o := 11) 11 rfl) (okL_k hu (o := 11) 11 rfl) (okL_n hu (o := 11) 11 rfl) e9 ?_
  refine k_aload_n G (dc d_St_clear 20 rfl) 0 rfl rfl ?_
  refine k_getR G kc5 (dc d_St_clear 21 rfl) (okL_lt hu (o := 0) 0 rfl) (okL_k hu (o := 0) 0 rfl) 10 (by decide) rfl fl_RX7_43 (u + 11) (okL_r hu (o := 0) (c := 11) 0 rfl 9 rfl) ?_
  refine k_iconst G (dc d_St_clear 22 rfl) cI_1 ?_
  refine k_iconst G (dc d_St_clear 23 rfl) cI_3 ?_
  obtain ⟨M12, e11, h⟩ := kOk_b h
  refine k_ist G (dc d_St_clear 24 rfl) (okL_lt hu (o := 11) 11 rfl) (okL_k hu (o := 11) 11 rfl) (okL_n hu (o := 11) 11 rfl) e11 ?_
  refine k_aload_n G (dc d_St_clear 25 rfl) 0 rfl rfl ?_
  refine k_iconst G (dc d_St_clear 26 rfl) cI_0 ?_
  obtain ⟨M14, e13, h⟩ := kOk_b h
  refine k_putI G kc5 (dc d_St_clear 27 rfl) (okL_lt hu (o := 0) 0 rfl) (okL_k hu (o := 0) 0 rfl) 11 (by decide) rfl rfl fl_RX7_62 rfl rfl e13 ?_
  refine k_aload_n G (dc d_St_clear 28 rfl) 0 rfl rfl ?_
  refine k_iconst G (dc d_St_clear 29 rfl) cI_0 ?_
  obtain ⟨M16, e15, h⟩ := kOk_b h
  refine k_putI G kc5 (dc d_St_clear 30 rfl) (okL_lt hu (o := 0) 0 rfl) (okL_k hu (o := 0) 0 rfl) 12 (by decide) rfl rfl fl_RX7_65 rfl rfl e15 ?_
  refine k_aload_n G (dc d_St_clear 31 rfl) 0 rfl rfl ?_
  refine k_iconst G (dc d_St_clear 32 rfl) cI_m1 ?_
  obtain ⟨M18, e17, h⟩ := kOk_b h
  refine k_putI G kc5 (dc d_St_clear 33 rfl) (okL_lt hu (o := 0) 0 rfl) (okL_k hu (o := 0) 0 rfl) 13 (by decide) rfl rfl fl_RX7_68 rfl rfl e17 ?_
  refine k_aload_n G (dc d_St_clear 34 rfl) 0 rfl rfl ?_
  refine k_iconst G (dc d_St_clear 35 rfl) cI_0 ?_
  obtain ⟨M20, e19, h⟩ := kOk_b h
  refine k_putI G kc5 (dc d_St_clear 36 rfl) (okL_lt hu (o := 0) 0 rfl) (okL_k hu (o := 0) 0 rfl) 14 (by decide) rfl rfl fl_RX7_71 rfl rfl e19 ?_
  exact (kOk_s h) _ _ _ _ rfl rfl (dc d_St_clear 37 rfl)
theorem c_St_clear {l : Launch} {B : KB} {L : KLay} {M : KMem} {u : Nat} (hst : l.stackTraces = false) (hu : okL L u stT) {M' : KMem} (e : m_St_clear u M = some M') : CtrN l B yX7_clear cX7_clear 1 none rm_St_clear [.ref (B.1 + u)] L M none L M' :=
  mk_V rfl hst rfl (fun X hl G _ R => b_St_clear G hu ⟨_, e, R⟩)
def I_St_copyFrom : List (Nat × Instr × Nat) := [(0, .aload_n 0, 1), (1, .getfield 12, 3), (4, .aload_n 1, 1), (5, .getfield 12, 3), (8, .invokevirtual 74, 3), (11, .aload_n 0, 1), (12, .aload_n 1, 1), (13, .getfield 53, 3), (16, .putfield 53, 3), (19, .aload_n 1, 1), (20, .getfield 18, 3), (23, .iconst 0, 1), (24, .aload_n 0, 1), (25, .getfield 18, 3), (28, .iconst 0, 1), (29, .bipush 8, 2), (31, .invokestatic 78, 3), (34, .aload_n 1, 1), (35, .getfield 22, 3), (38, .iconst 0, 1), (39, .aload_n 0, 1), (40, .getfield 22, 3), (43, .iconst 0, 1), (44, .bipush 8, 2), (46, .invokestatic 78, 3), (49, .aload_n 1, 1), (50, .getfield 25, 3), (53, .iconst 0, 1), (54, .aload_n 0, 1), (55, .getfield 25, 3), (58, .iconst 0, 1), (59, .bipush 8, 2), (61, .invokestatic 78, 3), (64, .aload_n 1, 1), (65, .getfield 28, 3), (68, .iconst 0, 1), (69, .aload_n 0, 1), (70, .getfield 28, 3), (73, .iconst 0, 1), (74, .bipush 8, 2), (76, .invokestatic 78, 3), (79, .aload_n 1, 1), (80, .getfield 31, 3), (83, .iconst 0, 1), (84, .aload_n 0, 1), (85, .getfield 31, 3), (88, .iconst 0, 1), (89, .bipush 8, 2), (91, .invokestatic 78, 3), (94, .aload_n 1, 1), (95, .getfield 34, 3), (98, .iconst 0, 1), (99, .aload_n 0, 1), (100, .getfield 34, 3), (103, .iconst 0, 1), (104, .bipush 8, 2), (106, .invokestatic 78, 3), (109, .aload_n 1, 1), (110, .getfield 37, 3), (113, .iconst 0, 1), (114, .aload_n 0, 1), (115, .getfield 37, 3), (118, .iconst 0, 1), (119, .iconst 4, 1), (120, .invokestatic 78, 3), (123, .aload_n 1, 1), (124, .getfield 40, 3), (127, .iconst 0, 1), (128, .aload_n 0, 1), (129, .getfield 40, 3), (132, .iconst 0, 1), (133, .iconst 4, 1), (134, .invokestatic 78, 3), (137, .aload_n 1, 1), (138, .getfield 43, 3), (141, .iconst 0, 1), (142, .aload_n 0, 1), (143, .getfield 43, 3), (146, .iconst 0, 1), (147, .iconst 2, 1), (148, .invokestatic 78, 3), (151, .aload_n 0, 1), (152, .aload_n 1, 1), (153, .getfield 62, 3), (156, .putfield 62, 3), (159, .aload_n 0, 1), (160, .aload_n 1, 1), (161, .getfield 65, 3), (164, .putfield 65, 3), (167, .aload_n 0, 1), (168, .aload_n 1, 1), (169, .getfield 68, 3), (172, .putfield 68, 3), (175, .aload_n 0, 1), (176, .aload_n 1, 1), (177, .getfield 71, 3), (180, .putfield 71, 3), (183, .return_, 1)]
set_option maxRecDepth 100000 in
theorem d_St_copyFrom : decA cX7_copyFrom I_St_copyFrom = true := by decide +kernel
abbrev rm_St_copyFrom : Room := ({ frames := 2, cells := 0, slots := 0, locals := 81 } : Room)
def m_St_copyFrom (u : Nat) (p0 : Nat) (M : KMem) : Option KMem :=
 Option.bind (m_De_copyFrom (u + 1) (p0 + 1) M) fun M2 =>
 Option.bind (some (kup M2 u 1 (M2 p0 1))) fun M4 =>
 Option.bind (cpI M4 (p0 + 3) 8 (u + 3) 8 0 0 8) fun M6 =>
 Option.bind (cpI M6 (p0 + 4) 8 (u + 4) 8 0 0 8) fun M8 =>
 Option.bind (cpI M8 (p0 + 5) 8 (u + 5) 8 0 0 8) fun M10 =>
 Option.bind (cpI M10 (p0 + 6) 8 (u + 6) 8 0 0 8) fun M12 =>
 Option.bind (cpI M12 (p0 + 7) 8 (u + 7) 8 0 0 8) fun M14 =>
 Option.bind (cpI M14 (p0 + 8) 8 (u + 8) 8 0 0 8) fun M16 =>
 Option.bind (cpI M16 (p0 + 9) 4 (u + 9) 4 0 0 4) fun M18 =>
 Option.bind (cpI M18 (p0 + 10) 4 (u + 10) 4 0 0 4) fun M20 =>
 Option.bind (cpI M20 (p0 + 11) 2 (u + 11) 2 0 0 2) fun M22 =>
 Option.bind (some (kup M22 u 11 (M22 p0 11))) fun M24 =>
 Option.bind (some (kup M24 u 12 (M24 p0 12))) fun M26 =>
 Option.bind (some (kup M26 u 13 (M26 p0 13))) fun M28 =>
 Option.bind (some (kup M28 u 14 (M28 p0 14))) fun M30 =>
 some M30
set_option maxHeartbeats 4000000 in
set_option maxRecDepth 100000 in
theorem b_St_copyFrom {X : KX} {B : KB} {L : KLay} {M : KMem} {u : Nat} {p0 : Nat} (G : Good X B RX7 cX7_copyFrom 2 rm_St_copyFrom) (hx : B.2.2.2 = false) (hu : okL L u stT) (hp0 : okL L p0 stT) (h : kOk (m_St_copyFrom u p0 M) (fun r => RV X B L 2 cX7_copyFrom rm_St_copyFrom r)) : KK X B L 2 0 0 M 0 [(0, .ref (B.1 + u)), (1, .ref (B.1 + p0))] [] := by
  unfold m_St_copyFrom at h
  refine k_aload_n G (dc d_St_copyFrom 0 rfl) 0 rfl rfl ?_
  refine k_getR G kc5 (dc d_St_copyFrom 1 rfl) (okL_lt hu (o := 0) 0 rfl) (okL_k hu (o := 0) 0 rfl) 0 (by decide) rfl fl_RX7_12 (u + 1) (okL_r hu (o := 0) (c := 1) 0 rfl 0 rfl) ?_
  refine k_aload_n G (dc d_St_copyFrom 2 rfl) 1 rfl rfl ?_
  refine k_getR G kc5 (dc d_St_copyFrom 3 rfl) (okL_lt hp0 (o := 0) 0 rfl) (okL_k hp0 (o := 0) 0 rfl) 0 (by decide) rfl fl_RX7_12 (p0 + 1) (okL_r hp0 (o := 0) (c := 1) 0 rfl 0 rfl) ?_
  obtain ⟨M2, e1, h⟩ := kOk_b h
  refine k_cVV G (dc d_St_copyFrom 4 rfl) kc0 (okL_lt hu (o := 1) 1 rfl) (okL_k hu (o := 1) 1 rfl) mi_De_copyFrom mv_De_copyFrom rfl ml_RX7_74 (c_De_copyFrom (gst G) hx (okL_sub hu 1 (by decide +kernel)) (okL_sub hp0 1 (by decide +kernel)) e1) rfl rfl ⟨rfl, rfl⟩ rfl ⟨rfl, rfl⟩ ⟨rfl, rfl⟩ ?_
  refine k_aload_n G (dc d_St_copyFrom 5 rfl) 0 rfl rfl ?_
  refine k_aload_n G (dc d_St_copyFrom 6 rfl) 1 rfl rfl ?_
  refine k_getI G kc5 (dc d_St_copyFrom 7 rfl) (okL_lt hp0 (o := 0) 0 rfl) (okL_k hp0 (o := 0) 0 rfl) 1 (by decide) rfl fl_RX7_53 ?_
  obtain ⟨M4, e3, h⟩ := kOk_b h
  refine k_putI G kc5 (dc d_St_copyFrom 8 rfl) (okL_lt hu (o := 0) 0 rfl) (okL_k hu (o := 0) 0 rfl) 1 (by decide) rfl rfl fl_RX7_53 rfl rfl e3 ?_
  refine k_aload_n G (dc d_St_copyFrom 9 rfl) 1 rfl rfl ?_
  refine k_getR G kc5 (dc d_St_copyFrom 10 rfl) (okL_lt hp0 (o := 0) 0 rfl) (okL_k hp0 (o := 0) 0 rfl) 2 (by decide) rfl fl_RX7_18 (p0 + 3) (okL_r hp0 (o := 0) (c := 3) 0 rfl 1 rfl) ?_
  refine k_iconst G (dc d_St_copyFrom 11 rfl) cI_0 ?_
  refine k_aload_n G (dc d_St_copyFrom 12 rfl) 0 rfl rfl ?_
  refine k_getR G kc5 (dc d_St_copyFrom 13 rfl) (okL_lt hu (o := 0) 0 rfl) (okL_k hu (o := 0) 0 rfl) 2 (by decide) rfl fl_RX7_18 (u + 3) (okL_r hu (o := 0) (c := 3) 0 rfl 1 rfl) ?_
  refine k_iconst G (dc d_St_copyFrom 14 rfl) cI_0 ?_
  refine k_bipush G (dc d_St_copyFrom 15 rfl) cB_8 ?_
  obtain ⟨M6, e5, h⟩ := kOk_b h
  refine k_copy G hx (dc d_St_copyFrom 16 rfl) ml_RX7_78 syscopy ⟨rfl, rfl⟩ (okL_lt hp0 (o := 3) 3 rfl) (okL_k hp0 (o := 3) 3 rfl) (okL_n hp0 (o := 3) 3 rfl) (okL_lt hu (o := 3) 3 rfl) (okL_k hu (o := 3) 3 rfl) (okL_n hu (o := 3) 3 rfl) e5 ?_
  refine k_aload_n G (dc d_St_copyFrom 17 rfl) 1 rfl rfl ?_
  refine k_getR G kc5 (dc d_St_copyFrom 18 rfl) (okL_lt hp0 (o := 0) 0 rfl) (okL_k hp0 (o := 0) 0 rfl) 3 (by decide) rfl fl_RX7_22 (p0 + 4) (okL_r hp0 (o := 0) (c := 4) 0 rfl 2 rfl) ?_
  refine k_iconst G (dc d_St_copyFrom 19 rfl) cI_0 ?_
  refine k_aload_n G (dc d_St_copyFrom 20 rfl) 0 rfl rfl ?_
  refine k_getR G kc5 (dc d_St_copyFrom 21 rfl) (okL_lt hu (o := 0) 0 rfl) (okL_k hu (o := 0) 0 rfl) 3 (by decide) rfl fl_RX7_22 (u + 4) (okL_r hu (o := 0) (c := 4) 0 rfl 2 rfl) ?_
  refine k_iconst G (dc d_St_copyFrom 22 rfl) cI_0 ?_
  refine k_bipush G (dc d_St_copyFrom 23 rfl) cB_8 ?_
  obtain ⟨M8, e7, h⟩ := kOk_b h
  refine k_copy G hx (dc d_St_copyFrom 24 rfl) ml_RX7_78 syscopy ⟨rfl, rfl⟩ (okL_lt hp0 (o := 4) 4 rfl) (okL_k hp0 (o := 4) 4 rfl) (okL_n hp0 (o := 4) 4 rfl) (okL_lt hu (o := 4) 4 rfl) (okL_k hu (o := 4) 4 rfl) (okL_n hu (o := 4) 4 rfl) e7 ?_
  refine k_aload_n G (dc d_St_copyFrom 25 rfl) 1 rfl rfl ?_
  refine k_getR G kc5 (dc d_St_copyFrom 26 rfl) (okL_lt hp0 (o := 0) 0 rfl) (okL_k hp0 (o := 0) 0 rfl) 4 (by decide) rfl fl_RX7_25 (p0 + 5) (okL_r hp0 (o := 0) (c := 5) 0 rfl 3 rfl) ?_
  refine k_iconst G (dc d_St_copyFrom 27 rfl) cI_0 ?_
  refine k_aload_n G (dc d_St_copyFrom 28 rfl) 0 rfl rfl ?_
  refine k_getR G kc5 (dc d_St_copyFrom 29 rfl) (okL_lt hu (o := 0) 0 rfl) (okL_k hu (o := 0) 0 rfl) 4 (by decide) rfl fl_RX7_25 (u + 5) (okL_r hu (o := 0) (c := 5) 0 rfl 3 rfl) ?_
  refine k_iconst G (dc d_St_copyFrom 30 rfl) cI_0 ?_
  refine k_bipush G (dc d_St_copyFrom 31 rfl) cB_8 ?_
  obtain ⟨M10, e9, h⟩ := kOk_b h
  refine k_copy G hx (dc d_St_copyFrom 32 rfl) ml_RX7_78 syscopy ⟨rfl, rfl⟩ (okL_lt hp0 (o := 5) 5 rfl) (okL_k hp0 (o := 5) 5 rfl) (okL_n hp0 (o := 5) 5 rfl) (okL_lt hu (o := 5) 5 rfl) (okL_k hu (o := 5) 5 rfl) (okL_n hu (o := 5) 5 rfl) e9 ?_
  refine k_aload_n G (dc d_St_copyFrom 33 rfl) 1 rfl rfl ?_
  refine k_getR G kc5 (dc d_St_copyFrom 34 rfl) (okL_lt hp0 (o := 0) 0 rfl) (okL_k hp0 (o := 0) 0 rfl) 5 (by decide) rfl fl_RX7_28 (p0 + 6) (okL_r hp0 (o := 0) (c := 6) 0 rfl 4 rfl) ?_
  refine k_iconst G (dc d_St_copyFrom 35 rfl) cI_0 ?_
  refine k_aload_n G (dc d_St_copyFrom 36 rfl) 0 rfl rfl ?_
  refine k_getR G kc5 (dc d_St_copyFrom 37 rfl) (okL_lt hu (o := 0) 0 rfl) (okL_k hu (o := 0) 0 rfl) 5 (by decide) rfl fl_RX7_28 (u + 6) (okL_r hu (o := 0) (c := 6) 0 rfl 4 rfl) ?_
  refine k_iconst G (dc d_St_copyFrom 38 rfl) cI_0 ?_
  refine k_bipush G (dc d_St_copyFrom 39 rfl) cB_8 ?_
  obtain ⟨M12, e11, h⟩ := kOk_b h
  refine k_copy G hx (dc d_St_copyFrom 40 rfl) ml_RX7_78 syscopy ⟨rfl, rfl⟩ (okL_lt hp0 (o := 6) 6 rfl) (okL_k hp0 (o := 6) 6 rfl) (okL_n hp0 (o := 6) 6 rfl) (okL_lt hu (o := 6) 6 rfl) (okL_k hu (o := 6) 6 rfl) (okL_n hu (o := 6) 6 rfl) e11 ?_
  refine k_aload_n G (dc d_St_copyFrom 41 rfl) 1 rfl rfl ?_
  refine k_getR G kc5 (dc d_St_copyFrom 42 rfl) (okL_lt hp0 (o := 0) 0 rfl) (okL_k hp0 (o := 0) 0 rfl) 6 (by decide) rfl fl_RX7_31 (p0 + 7) (okL_r hp0 (o := 0) (c := 7) 0 rfl 5 rfl) ?_
  refine k_iconst G (dc d_St_copyFrom 43 rfl) cI_0 ?_
  refine k_aload_n G (dc d_St_copyFrom 44 rfl) 0 rfl rfl ?_
  refine k_getR G kc5 (dc d_St_copyFrom 45 rfl) (okL_lt hu (o := 0) 0 rfl) (okL_k hu (o := 0) 0 rfl) 6 (by decide) rfl fl_RX7_31 (u + 7) (okL_r hu (o := 0) (c := 7) 0 rfl 5 rfl) ?_
  refine k_iconst G (dc d_St_copyFrom 46 rfl) cI_0 ?_
  refine k_bipush G (dc d_St_copyFrom 47 rfl) cB_8 ?_
  obtain ⟨M14, e13, h⟩ := kOk_b h
  refine k_copy G hx (dc d_St_copyFrom 48 rfl) ml_RX7_78 syscopy ⟨rfl, rfl⟩ (okL_lt hp0 (o := 7) 7 rfl) (okL_k hp0 (o := 7) 7 rfl) (okL_n hp0 (o := 7) 7 rfl) (okL_lt hu (o := 7) 7 rfl) (okL_k hu (o := 7) 7 rfl) (okL_n hu (o := 7) 7 rfl) e13 ?_
  refine k_aload_n G (dc d_St_copyFrom 49 rfl) 1 rfl rfl ?_
  refine k_getR G kc5 (dc d_St_copyFrom 50 rfl) (okL_lt hp0 (o := 0) 0 rfl) (okL_k hp0 (o := 0) 0 rfl) 7 (by decide) rfl fl_RX7_34 (p0 + 8) (okL_r hp0 (o := 0) (c := 8) 0 rfl 6 rfl) ?_
  refine k_iconst G (dc d_St_copyFrom 51 rfl) cI_0 ?_
  refine k_aload_n G (dc d_St_copyFrom 52 rfl) 0 rfl rfl ?_
  refine k_getR G kc5 (dc d_St_copyFrom 53 rfl) (okL_lt hu (o := 0) 0 rfl) (okL_k hu (o := 0) 0 rfl) 7 (by decide) rfl fl_RX7_34 (u + 8) (okL_r hu (o := 0) (c := 8) 0 rfl 6 rfl) ?_
  refine k_iconst G (dc d_St_copyFrom 54 rfl) cI_0 ?_
  refine k_bipush G (dc d_St_copyFrom 55 rfl) cB_8 ?_
  obtain ⟨M16, e15, h⟩ := kOk_b h
  refine k_copy G hx (dc d_St_copyFrom 56 rfl) ml_RX7_78 syscopy ⟨rfl, rfl⟩ (okL_lt hp0 (o := 8) 8 rfl) (okL_k hp0 (o := 8) 8 rfl) (okL_n hp0 (o := 8) 8 rfl) (okL_lt hu (o := 8) 8 rfl) (okL_k hu (o := 8) 8 rfl) (okL_n hu (o := 8) 8 rfl) e15 ?_
  refine k_aload_n G (dc d_St_copyFrom 57 rfl) 1 rfl rfl ?_
  refine k_getR G kc5 (dc d_St_copyFrom 58 rfl) (okL_lt hp0 (o := 0) 0 rfl) (okL_k hp0 (o := 0) 0 rfl) 8 (by decide) rfl fl_RX7_37 (p0 + 9) (okL_r hp0 (o := 0) (c := 9) 0 rfl 7 rfl) ?_
  refine k_iconst G (dc d_St_copyFrom 59 rfl) cI_0 ?_
  refine k_aload_n G (dc d_St_copyFrom 60 rfl) 0 rfl rfl ?_
  refine k_getR G kc5 (dc d_St_copyFrom 61 rfl) (okL_lt hu (o := 0) 0 rfl) (okL_k hu (o := 0) 0 rfl) 8 (by decide) rfl fl_RX7_37 (u + 9) (okL_r hu (o := 0) (c := 9) 0 rfl 7 rfl) ?_
  refine k_iconst G (dc d_St_copyFrom 62 rfl) cI_0 ?_
  refine k_iconst G (dc d_St_copyFrom 63 rfl) cI_4 ?_
  obtain ⟨M18, e17, h⟩ := kOk_b h
  refine k_copy G hx (dc d_St_copyFrom 64 rfl) ml_RX7_78 syscopy ⟨rfl, rfl⟩ (okL_lt hp0 (o := 9) 9 rfl) (okL_k hp0 (o := 9) 9 rfl) (okL_n hp0 (o := 9) 9 rfl) (okL_lt hu (o := 9) 9 rfl) (okL_k hu (o := 9) 9 rfl) (okL_n hu (o := 9) 9 rfl) e17 ?_
  refine k_aload_n G (dc d_St_copyFrom 65 rfl) 1 rfl rfl ?_
  refine k_getR G kc5 (dc d_St_copyFrom 66 rfl) (okL_lt hp0 (o := 0) 0 rfl) (okL_k hp0 (o := 0) 0 rfl) 9 (by decide) rfl fl_RX7_40 (p0 + 10) (okL_r hp0 (o := 0) (c := 10) 0 rfl 8 rfl) ?_
  refine k_iconst G (dc d_St_copyFrom 67 rfl) cI_0 ?_
  refine k_aload_n G (dc d_St_copyFrom 68 rfl) 0 rfl rfl ?_
  refine k_getR G kc5 (dc d_St_copyFrom 69 rfl) (okL_lt hu (o := 0) 0 rfl) (okL_k hu (o := 0) 0 rfl) 9 (by decide) rfl fl_RX7_40 (u + 10) (okL_r hu (o := 0) (c := 10) 0 rfl 8 rfl) ?_
  refine k_iconst G (dc d_St_copyFrom 70 rfl) cI_0 ?_
  refine k_iconst G (dc d_St_copyFrom 71 rfl) cI_4 ?_
  obtain ⟨M20, e19, h⟩ := kOk_b h
  refine k_copy G hx (dc d_St_copyFrom 72 rfl) ml_RX7_78 syscopy ⟨rfl, rfl⟩ (okL_lt hp0 (o := 10) 10 rfl) (okL_k hp0 (o := 10) 10 rfl) (okL_n hp0 (o := 10) 10 rfl) (okL_lt hu (o := 10) 10 rfl) (okL_k hu (o := 10) 10 rfl) (okL_n hu (o := 10) 10 rfl) e19 ?_
  refine k_aload_n G (dc d_St_copyFrom 73 rfl) 1 rfl rfl ?_
  refine k_getR G kc5 (dc d_St_copyFrom 74 rfl) (okL_lt hp0 (o := 0) 0 rfl) (okL_k hp0 (o := 0) 0 rfl) 10 (by decide) rfl fl_RX7_43 (p0 + 11) (okL_r hp0 (o := 0) (c := 11) 0 rfl 9 rfl) ?_
  refine k_iconst G (dc d_St_copyFrom 75 rfl) cI_0 ?_
  refine k_aload_n G (dc d_St_copyFrom 76 rfl) 0 rfl rfl ?_
  refine k_getR G kc5 (dc d_St_copyFrom 77 rfl) (okL_lt hu (o := 0) 0 rfl) (okL_k hu (o := 0) 0 rfl) 10 (by decide) rfl fl_RX7_43 (u + 11) (okL_r hu (o := 0) (c := 11) 0 rfl 9 rfl) ?_
  refine k_iconst G (dc d_St_copyFrom 78 rfl) cI_0 ?_
  refine k_iconst G (dc d_St_copyFrom 79 rfl) cI_2 ?_
  obtain ⟨M22, e21, h⟩ := kOk_b h
  refine k_copy G hx (dc d_St_copyFrom 80 rfl) ml_RX7_78 syscopy ⟨rfl, rfl⟩ (okL_lt hp0 (o := 11) 11 rfl) (okL_k hp0 (o := 11) 11 rfl) (okL_n hp0 (o := 11) 11 rfl) (okL_lt hu (o := 11) 11 rfl) (okL_k hu (o := 11) 11 rfl) (okL_n hu (o := 11) 11 rfl) e21 ?_
  refine k_aload_n G (dc d_St_copyFrom 81 rfl) 0 rfl rfl ?_
  refine k_aload_n G (dc d_St_copyFrom 82 rfl) 1 rfl rfl ?_
  refine k_getI G kc5 (dc d_St_copyFrom 83 rfl) (okL_lt hp0 (o := 0) 0 rfl) (okL_k hp0 (o := 0) 0 rfl) 11 (by decide) rfl fl_RX7_62 ?_
  obtain ⟨M24, e23, h⟩ := kOk_b h
  refine k_putI G kc5 (dc d_St_copyFrom 84 rfl) (okL_lt hu (o := 0) 0 rfl) (okL_k hu (o := 0) 0 rfl) 11 (by decide) rfl rfl fl_RX7_62 rfl rfl e23 ?_
  refine k_aload_n G (dc d_St_copyFrom 85 rfl) 0 rfl rfl ?_
  refine k_aload_n G (dc d_St_copyFrom 86 rfl) 1 rfl rfl ?_
  refine k_getI G kc5 (dc d_St_copyFrom 87 rfl) (okL_lt hp0 (o := 0) 0 rfl) (okL_k hp0 (o := 0) 0 rfl) 12 (by decide) rfl fl_RX7_65 ?_
  obtain ⟨M26, e25, h⟩ := kOk_b h
  refine k_putI G kc5 (dc d_St_copyFrom 88 rfl) (okL_lt hu (o := 0) 0 rfl) (okL_k hu (o := 0) 0 rfl) 12 (by decide) rfl rfl fl_RX7_65 rfl rfl e25 ?_
  refine k_aload_n G (dc d_St_copyFrom 89 rfl) 0 rfl rfl ?_
  refine k_aload_n G (dc d_St_copyFrom 90 rfl) 1 rfl rfl ?_
  refine k_getI G kc5 (dc d_St_copyFrom 91 rfl) (okL_lt hp0 (o := 0) 0 rfl) (okL_k hp0 (o := 0) 0 rfl) 13 (by decide) rfl fl_RX7_68 ?_
  obtain ⟨M28, e27, h⟩ := kOk_b h
  refine k_putI G kc5 (dc d_St_copyFrom 92 rfl) (okL_lt hu (o := 0) 0 rfl) (okL_k hu (o := 0) 0 rfl) 13 (by decide) rfl rfl fl_RX7_68 rfl rfl e27 ?_
  refine k_aload_n G (dc d_St_copyFrom 93 rfl) 0 rfl rfl ?_
  refine k_aload_n G (dc d_St_copyFrom 94 rfl) 1 rfl rfl ?_
  refine k_getI G kc5 (dc d_St_copyFrom 95 rfl) (okL_lt hp0 (o := 0) 0 rfl) (okL_k hp0 (o := 0) 0 rfl) 14 (by decide) rfl fl_RX7_71 ?_
  obtain ⟨M30, e29, h⟩ := kOk_b h
  refine k_putI G kc5 (dc d_St_copyFrom 96 rfl) (okL_lt hu (o := 0) 0 rfl) (okL_k hu (o := 0) 0 rfl) 14 (by decide) rfl rfl fl_RX7_71 rfl rfl e29 ?_
  exact (kOk_s h) _ _ _ _ rfl rfl (dc d_St_copyFrom 97 rfl)
theorem c_St_copyFrom {l : Launch} {B : KB} {L : KLay} {M : KMem} {u : Nat} {p0 : Nat} (hst : l.stackTraces = false) (hx : B.2.2.2 = false) (hu : okL L u stT) (hp0 : okL L p0 stT) {M' : KMem} (e : m_St_copyFrom u p0 M = some M') : CtrN l B yX7_copyFrom cX7_copyFrom 2 none rm_St_copyFrom [.ref (B.1 + u), .ref (B.1 + p0)] L M none L M' :=
  mk_V rfl hst rfl (fun X hl G _ R => b_St_copyFrom G hx hu hp0 ⟨_, e, R⟩)
