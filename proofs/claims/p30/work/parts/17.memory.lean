/-! laid by wip/p30/g30.py: Me_remember, Me_takeBack -/
def I_Me_remember : List (Nat × Instr × Nat) := [(0, .aload_n 0, 1), (1, .getfield 11, 3), (4, .aload_n 0, 1), (5, .getfield 25, 3), (8, .aload_n 0, 1), (9, .getfield 29, 3), (12, .iadd, 1), (13, .bipush 14, 2), (15, .irem, 1), (16, .aaload, 1), (17, .astore_n 2, 1), (18, .aload_n 2, 1), (19, .ifnull 8, 3), (22, .aload_n 2, 1), (23, .aload_n 1, 1), (24, .invokevirtual 32, 3), (27, .aload_n 0, 1), (28, .getfield 29, 3), (31, .bipush 14, 2), (33, .if_icmp .ge 16, 3), (36, .aload_n 0, 1), (37, .dup, 1), (38, .getfield 29, 3), (41, .iconst 1, 1), (42, .iadd, 1), (43, .putfield 29, 3), (46, .goto 16, 3), (49, .aload_n 0, 1), (50, .aload_n 0, 1), (51, .getfield 25, 3), (54, .iconst 1, 1), (55, .iadd, 1), (56, .bipush 14, 2), (58, .irem, 1), (59, .putfield 25, 3), (62, .return_, 1)]
set_option maxRecDepth 100000 in
theorem d_Me_remember : decA cX2_remember I_Me_remember = true := by decide +kernel
abbrev rm_Me_remember : Room := ({ frames := 3, cells := 0, slots := 0, locals := 102 } : Room)
def m_Me_remember (u : Nat) (p0 : Nat) (M : KMem) : Option KMem :=
 Option.bind (ckI 14 (jrem ((M u 1) + (M u 2)) 14)) fun j2 =>
 Option.bind (m_St_copyFrom (u + (4 + 12 * j2)) p0 M) fun M5 =>
 Option.bind (α := KMem) (if 14 ≤ (M5 u 2) then
 (Option.bind (some (kup M5 u 1 (jrem ((M5 u 1) + 1) 14))) fun M10 =>
 some M10)
 else
 (Option.bind (some (kup M5 u 2 ((M5 u 2) + 1))) fun M12 =>
 some M12)) fun M6 =>
 some M6
set_option maxHeartbeats 4000000 in
set_option maxRecDepth 100000 in
theorem b_Me_remember {X : KX} {B : KB} {L : KLay} {M : KMem} {u : Nat} {p0 : Nat} (G : Good X B RX2 cX2_remember 3 rm_Me_remember) (hx : B.2.2.2 = false) (hu : okL L u meT) (hp0 : okL L p0 stT) (h : kOk (m_Me_remember u p0 M) (fun r => RV X B L 3 cX2_remember rm_Me_remember r)) : KK X B L 3 0 0 M 0 [(0, .ref (B.1 + u)), (1, .ref (B.1 + p0))] [] := by
  unfold m_Me_remember at h
  refine k_aload_n G (dc d_Me_remember 0 rfl) 0 rfl rfl ?_
  refine k_getR G kc2 (dc d_Me_remember 1 rfl) (okL_lt hu (o := 0) 0 rfl) (okL_k hu (o := 0) 0 rfl) 0 (by decide) rfl fl_RX2_11 (u + 1) (okL_r hu (o := 0) (c := 1) 0 rfl 0 rfl) ?_
  refine k_aload_n G (dc d_Me_remember 2 rfl) 0 rfl rfl ?_
  refine k_getI G kc2 (dc d_Me_remember 3 rfl) (okL_lt hu (o := 0) 0 rfl) (okL_k hu (o := 0) 0 rfl) 1 (by decide) rfl fl_RX2_25 ?_
  refine k_aload_n G (dc d_Me_remember 4 rfl) 0 rfl rfl ?_
  refine k_getI G kc2 (dc d_Me_remember 5 rfl) (okL_lt hu (o := 0) 0 rfl) (okL_k hu (o := 0) 0 rfl) 2 (by decide) rfl fl_RX2_29 ?_
  refine k_iadd G (dc d_Me_remember 6 rfl) ?_
  refine k_bipush G (dc d_Me_remember 7 rfl) cB_14 ?_
  refine k_irem G (dc d_Me_remember 8 rfl) czI_14 ?_
  obtain ⟨j2, e1, h⟩ := kOk_b h
  have hq3 := me_rs hu (ckI_ok e1).2.2
  refine k_qld G (dc d_Me_remember 9 rfl) (okL_lt hu (o := 1) 1 rfl) (okL_k hu (o := 1) 1 rfl) (okL_n hu (o := 1) 1 rfl) e1 (me_ring hu (ckI_ok e1).2.2) ?_
  refine k_astore_n G (dc d_Me_remember 10 rfl) (ls' := [(2, .ref (B.1 + (u + (4 + 12 * j2)))), (0, .ref (B.1 + u)), (1, .ref (B.1 + p0))]) rfl rfl rfl ?_
  refine k_aload_n G (dc d_Me_remember 11 rfl) 0 rfl rfl ?_
  refine k_ifnull G (dc d_Me_remember 12 rfl) ?_
  refine k_aload_n G (dc d_Me_remember 13 rfl) 0 rfl rfl ?_
  refine k_aload_n G (dc d_Me_remember 14 rfl) 2 rfl rfl ?_
  obtain ⟨M5, e4, h⟩ := kOk_b h
  refine k_cVV G (dc d_Me_remember 15 rfl) kc5 (okL_lt hq3 (o := 0) 0 rfl) (okL_k hq3 (o := 0) 0 rfl) mi_St_copyFrom mv_St_copyFrom rfl ml_RX2_32 (c_St_copyFrom (gst G) hx hq3 hp0 e4) rfl rfl ⟨rfl, rfl⟩ rfl ⟨rfl, rfl⟩ ⟨rfl, rfl⟩ ?_
  refine k_aload_n G (dc d_Me_remember 16 rfl) 1 rfl rfl ?_
  refine k_getI G kc2 (dc d_Me_remember 17 rfl) (okL_lt hu (o := 0) 0 rfl) (okL_k hu (o := 0) 0 rfl) 2 (by decide) rfl fl_RX2_29 ?_
  refine k_bipush G (dc d_Me_remember 18 rfl) cB_14 ?_
  refine kJ h (fun r7 => KK X B L 3 0 0 r7 62 [] []) (fun r7 h => ?_) (fun h => ?_)
  · obtain ⟨M6, rfl⟩ : ∃ z, z = r7 := ⟨_, rfl⟩
    show KK X B L 3 0 0 M6 62 [] []
    exact (kOk_s h) _ _ _ _ rfl rfl (dc d_Me_remember 35 rfl)
  · refine k_icmp_ge G (dc d_Me_remember 19 rfl) (tgt := 49) rfl (fun c8 => ?_) (fun c8 => ?_)
    · replace h := kOk_p c8 h
      refine k_aload_n G (dc d_Me_remember 27 rfl) 1 rfl rfl ?_
      refine k_aload_n G (dc d_Me_remember 28 rfl) 1 rfl rfl ?_
      refine k_getI G kc2 (dc d_Me_remember 29 rfl) (okL_lt hu (o := 0) 0 rfl) (okL_k hu (o := 0) 0 rfl) 1 (by decide) rfl fl_RX2_25 ?_
      refine k_iconst G (dc d_Me_remember 30 rfl) cI_1 ?_
      refine k_iadd G (dc d_Me_remember 31 rfl) ?_
      refine k_bipush G (dc d_Me_remember 32 rfl) cB_14 ?_
      refine k_irem G (dc d_Me_remember 33 rfl) czI_14 ?_
      obtain ⟨M10, e9, h⟩ := kOk_b h
      refine k_putI G kc2 (dc d_Me_remember 34 rfl) (okL_lt hu (o := 0) 0 rfl) (okL_k hu (o := 0) 0 rfl) 1 (by decide) rfl rfl fl_RX2_25 rfl rfl e9 ?_
      refine k_sub [] rfl ?_
      have h9 := kOk_s h
      exact h9
    · replace h := kOk_n c8 h
      refine k_aload_n G (dc d_Me_remember 20 rfl) 1 rfl rfl ?_
      refine k_dup G (dc d_Me_remember 21 rfl) rfl ?_
      refine k_getI G kc2 (dc d_Me_remember 22 rfl) (okL_lt hu (o := 0) 0 rfl) (okL_k hu (o := 0) 0 rfl) 2 (by decide) rfl fl_RX2_29 ?_
      refine k_iconst G (dc d_Me_remember 23 rfl) cI_1 ?_
      refine k_iadd G (dc d_Me_remember 24 rfl) ?_
      obtain ⟨M12, e11, h⟩ := kOk_b h
      refine k_putI G kc2 (dc d_Me_remember 25 rfl) (okL_lt hu (o := 0) 0 rfl) (okL_k hu (o := 0) 0 rfl) 2 (by decide) rfl rfl fl_RX2_29 rfl rfl e11 ?_
      refine k_goto G (dc d_Me_remember 26 rfl) (tgt := 62) rfl ?_
      refine k_sub [] rfl ?_
      have h9 := kOk_s h
      exact h9
theorem c_Me_remember {l : Launch} {B : KB} {L : KLay} {M : KMem} {u : Nat} {p0 : Nat} (hst : l.stackTraces = false) (hx : B.2.2.2 = false) (hu : okL L u meT) (hp0 : okL L p0 stT) {M' : KMem} (e : m_Me_remember u p0 M = some M') : CtrN l B yX2_remember cX2_remember 3 none rm_Me_remember [.ref (B.1 + u), .ref (B.1 + p0)] L M none L M' :=
  mk_V rfl hst rfl (fun X hl G _ R => b_Me_remember G hx hu hp0 ⟨_, e, R⟩)
def I_Me_takeBack : List (Nat × Instr × Nat) := [(0, .aload_n 0, 1), (1, .getfield 29, 3), (4, .ifCond .ne 4, 3), (7, .return_, 1), (8, .aload_n 0, 1), (9, .dup, 1), (10, .getfield 29, 3), (13, .iconst 1, 1), (14, .isub, 1), (15, .putfield 29, 3), (18, .aload_n 0, 1), (19, .getfield 11, 3), (22, .aload_n 0, 1), (23, .getfield 25, 3), (26, .aload_n 0, 1), (27, .getfield 29, 3), (30, .iadd, 1), (31, .bipush 14, 2), (33, .irem, 1), (34, .aaload, 1), (35, .astore_n 2, 1), (36, .aload_n 2, 1), (37, .ifnull 8, 3), (40, .aload_n 1, 1), (41, .aload_n 2, 1), (42, .invokevirtual 32, 3), (45, .return_, 1)]
set_option maxRecDepth 100000 in
theorem d_Me_takeBack : decA cX2_takeBack I_Me_takeBack = true := by decide +kernel
abbrev rm_Me_takeBack : Room := ({ frames := 3, cells := 0, slots := 0, locals := 102 } : Room)
def m_Me_takeBack (u : Nat) (p0 : Nat) (M : KMem) : Option KMem :=
 if (M u 2) = 0 then
 (some M)
 else
 (Option.bind (some (kup M u 2 ((M u 2) - 1))) fun M3 =>
 Option.bind (ckI 14 (jrem ((M3 u 1) + (M3 u 2)) 14)) fun j5 =>
 Option.bind (m_St_copyFrom p0 (u + (4 + 12 * j5)) M3) fun M8 =>
 some M8)
set_option maxHeartbeats 4000000 in
set_option maxRecDepth 100000 in
theorem b_Me_takeBack {X : KX} {B : KB} {L : KLay} {M : KMem} {u : Nat} {p0 : Nat} (G : Good X B RX2 cX2_takeBack 3 rm_Me_takeBack) (hx : B.2.2.2 = false) (hu : okL L u meT) (hp0 : okL L p0 stT) (h : kOk (m_Me_takeBack u p0 M) (fun r => RV X B L 3 cX2_takeBack rm_Me_takeBack r)) : KK X B L 3 0 0 M 0 [(0, .ref (B.1 + u)), (1, .ref (B.1 + p0))] [] := by
  unfold m_Me_takeBack at h
  refine k_aload_n G (dc d_Me_takeBack 0 rfl) 0 rfl rfl ?_
  refine k_getI G kc2 (dc d_Me_takeBack 1 rfl) (okL_lt hu (o := 0) 0 rfl) (okL_k hu (o := 0) 0 rfl) 2 (by decide) rfl fl_RX2_29 ?_
  refine k_if_ne G (dc d_Me_takeBack 2 rfl) (tgt := 8) rfl (fun c1 => ?_) (fun c1 => ?_)
  · replace h := kOk_n c1 h
    refine k_aload_n G (dc d_Me_takeBack 4 rfl) 0 rfl rfl ?_
    refine k_dup G (dc d_Me_takeBack 5 rfl) rfl ?_
    refine k_getI G kc2 (dc d_Me_takeBack 6 rfl) (okL_lt hu (o := 0) 0 rfl) (okL_k hu (o := 0) 0 rfl) 2 (by decide) rfl fl_RX2_29 ?_
    refine k_iconst G (dc d_Me_takeBack 7 rfl) cI_1 ?_
    refine k_isub G (dc d_Me_takeBack 8 rfl) ?_
    obtain ⟨M3, e2, h⟩ := kOk_b h
    refine k_putI G kc2 (dc d_Me_takeBack 9 rfl) (okL_lt hu (o := 0) 0 rfl) (okL_k hu (o := 0) 0 rfl) 2 (by decide) rfl rfl fl_RX2_29 rfl rfl e2 ?_
    refine k_aload_n G (dc d_Me_takeBack 10 rfl) 0 rfl rfl ?_
    refine k_getR G kc2 (dc d_Me_takeBack 11 rfl) (okL_lt hu (o := 0) 0 rfl) (okL_k hu (o := 0) 0 rfl) 0 (by decide) rfl fl_RX2_11 (u + 1) (okL_r hu (o := 0) (c := 1) 0 rfl 0 rfl) ?_
    refine k_aload_n G (dc d_Me_takeBack 12 rfl) 0 rfl rfl ?_
    refine k_getI G kc2 (dc d_Me_takeBack 13 rfl) (okL_lt hu (o := 0) 0 rfl) (okL_k hu (o := 0) 0 rfl) 1 (by decide) rfl fl_RX2_25 ?_
    refine k_aload_n G (dc d_Me_takeBack 14 rfl) 0 rfl rfl ?_
    refine k_getI G kc2 (dc d_Me_takeBack 15 rfl) (okL_lt hu (o := 0) 0 rfl) (okL_k hu (o := 0) 0 rfl) 2 (by decide) rfl fl_RX2_29 ?_
    refine k_iadd G (dc d_Me_takeBack 16 rfl) ?_
    refine k_bipush G (dc d_Me_takeBack 17 rfl) cB_14 ?_
    refine k_irem G (dc d_Me_takeBack 18 rfl) czI_14 ?_
    obtain ⟨j5, e4, h⟩ := kOk_b h
    have hq6 := me_rs hu (ckI_ok e4).2.2
    refine k_qld G (dc d_Me_takeBack 19 rfl) (okL_lt hu (o := 1) 1 rfl) (okL_k hu (o := 1) 1 rfl) (okL_n hu (o := 1) 1 rfl) e4 (me_ring hu (ckI_ok e4).2.2) ?_
    refine k_astore_n G (dc d_Me_takeBack 20 rfl) (ls' := [(2, .ref (B.1 + (u + (4 + 12 * j5)))), (0, .ref (B.1 + u)), (1, .ref (B.1 + p0))]) rfl rfl rfl ?_
    refine k_aload_n G (dc d_Me_takeBack 21 rfl) 0 rfl rfl ?_
    refine k_ifnull G (dc d_Me_takeBack 22 rfl) ?_
    refine k_aload_n G (dc d_Me_takeBack 23 rfl) 2 rfl rfl ?_
    refine k_aload_n G (dc d_Me_takeBack 24 rfl) 0 rfl rfl ?_
    obtain ⟨M8, e7, h⟩ := kOk_b h
    refine k_cVV G (dc d_Me_takeBack 25 rfl) kc5 (okL_lt hp0 (o := 0) 0 rfl) (okL_k hp0 (o := 0) 0 rfl) mi_St_copyFrom mv_St_copyFrom rfl ml_RX2_32 (c_St_copyFrom (gst G) hx hp0 hq6 e7) rfl rfl ⟨rfl, rfl⟩ rfl ⟨rfl, rfl⟩ ⟨rfl, rfl⟩ ?_
    exact (kOk_s h) _ _ _ _ rfl rfl (dc d_Me_takeBack 26 rfl)
  · replace h := kOk_p c1 h
    exact (kOk_s h) _ _ _ _ rfl rfl (dc d_Me_takeBack 3 rfl)
theorem c_Me_takeBack {l : Launch} {B : KB} {L : KLay} {M : KMem} {u : Nat} {p0 : Nat} (hst : l.stackTraces = false) (hx : B.2.2.2 = false) (hu : okL L u meT) (hp0 : okL L p0 stT) {M' : KMem} (e : m_Me_takeBack u p0 M = some M') : CtrN l B yX2_takeBack cX2_takeBack 3 none rm_Me_takeBack [.ref (B.1 + u), .ref (B.1 + p0)] L M none L M' :=
  mk_V rfl hst rfl (fun X hl G _ R => b_Me_takeBack G hx hu hp0 ⟨_, e, R⟩)
