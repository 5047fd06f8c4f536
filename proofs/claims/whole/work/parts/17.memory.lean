/-! laid by wip/whole/lay.py: Me_remember, Me_takeBack, Me_forgetStates, Me_isFilled, Me_fillSlot, Me_copySlot, Me_emptySlots -/
def I_Me_remember : List (Nat × Instr × Nat) := [(0, .aload_n 0, 1), (1, .getfield 11, 3), (4, .aload_n 0, 1), (5, .getfield 25, 3), (8, .aload_n 0, 1), (9, .getfield 29, 3), (12, .iadd, 1), (13, .bipush 14, 2), (15, .irem, 1), (16, .aaload, 1), (17, .astore_n 2, 1), (18, .aload_n 2, 1), (19, .ifnull 8, 3), (22, .aload_n 2, 1), (23, .aload_n 1, 1), (24, .invokevirtual 32, 3), (27, .aload_n 0, 1), (28, .getfield 29, 3), (31, .bipush 14, 2), (33, .if_icmp .ge 16, 3), (36, .aload_n 0, 1), (37, .dup, 1), (38, .getfield 29, 3), (41, .iconst 1, 1), (42, .iadd, 1), (43, .putfield 29, 3), (46, .goto 16, 3), (49, .aload_n 0, 1), (50, .aload_n 0, 1), (51, .getfield 25, 3), (54, .iconst 1, 1), (55, .iadd, 1), (56, .bipush 14, 2), (58, .irem, 1), (59, .putfield 25, 3), (62, .return_, 1)]
set_option maxRecDepth 100000 in
theorem d_Me_remember : decA cX2_remember I_Me_remember = true := by decide +kernel
abbrev rm_Me_remember : Room := ({ frames := 3, cells := 0, slots := 0, locals := 102 } : Room)
def m_Me_remember (u : Nat) (p0 : Nat) (M : KMem) : Option KMem :=
 Option.bind (ckI 14 (jrem ((M u 1) + (M u 2)) 14)) fun j2 =>
 Option.bind (m_St_copyFrom (u + (4 + 12 * j2)) p0 M) fun M5 =>
 Option.bind (α := KMem) (if 14 ≤ (M5 u 2) then
 (Option.bind (some (kup M5 u 1 (jrem ((M5 u 1) + 1) 14))) fun M10 =>
 some M10)
 else
 (Option.bind (some (kup M5 u 2 ((M5 u 2) + 1))) fun M12 =>
 some M12)) fun M6 =>
 some M6
set_option maxHeartbeats 4000000 in
set_option maxRecDepth 100000 in
theorem b_Me_remember {X : KX} {B : KB} {L : KLay} {M : KMem} {u : Nat} {p0 : Nat} (G : Good X B RX2 cX2_remember 3 rm_Me_remember) (hx : B.2.2.2 = false) (hu : okL L u meT) (hp0 : okL L p0 stT) (h : kOk (m_Me_remember u p0 M) (fun r => RV X B L 3 cX2_remember rm_Me_remember r)) : KK X B L 3 0 0 M 0 [(0, .ref (B.1 + u)), (1, .ref (B.1 + p0))] [] := by
  unfold m_Me_remember at h
  refine k_aload_n G (dc d_Me_remember 0 rfl) 0 rfl rfl ?_
  refine k_getR G kc2 (dc d_Me_remember 1 rfl) (okL_lt hu (o := 0) 0 rfl) (okL_k hu (o := 0) 0 rfl) 0 (by decide) rfl fl_RX2_11 (u + 1) (okL_r hu (o := 0) (c := 1) 0 rfl 0 rfl) ?_
  refine k_aload_n G (dc d_Me_remember 2 rfl) 0 rfl rfl ?_
  refine k_getI G kc2 (dc d_Me_remember 3 rfl) (okL_lt hu (o := 0) 0 rfl) (okL_k hu (o := 0) 0 rfl) 1 (by decide) rfl fl_RX2_25 ?_
  refine k_aload_n G (dc d_Me_remember 4 rfl) 0 rfl rfl ?_
  refine k_getI G kc2 (dc d_Me_remember 5 rfl) (okL_lt hu (o := 0) 0 rfl) (okL_k hu (o := 0) 0 rfl) 2 (by decide) rfl fl_RX2_29 ?_
  refine k_iadd G (dc d_Me_remember 6 rfl) ?_
  refine k_bipush G (dc d_Me_remember 7 rfl) cB_14 ?_
  refine k_irem G (dc d_Me_remember 8 rfl) czI_14 ?_
  obtain ⟨j2, e1, h⟩ := kOk_b h
  have hq3 := me_rs hu (ckI_ok e1).2.2
  refine k_qld G (dc d_Me_remember 9 rfl) (okL_lt hu (o := 1) 1 rfl) (okL_k hu (o := 1) 1 rfl) (okL_n hu (o := 1) 1 rfl) e1 (me_ring hu (ckI_ok e1).2.2) ?_
  refine k_astore_n G (dc d_Me_remember 10 rfl) (ls' := [(2, .ref (B.1 + (u + (4 + 12 * j2)))), (0, .ref (B.1 + u)), (1, .ref (B.1 + p0))]) rfl rfl rfl ?_
  refine k_aload_n G (dc d_Me_remember 11 rfl) 0 rfl rfl ?_
  refine k_ifnull G (dc d_Me_remember 12 rfl) ?_
  refine k_aload_n G (dc d_Me_remember 13 rfl) 0 rfl rfl ?_
  refine k_aload_n G (dc d_Me_remember 14 rfl) 2 rfl rfl ?_
  obtain ⟨M5, e4, h⟩ := kOk_b h
  refine k_cVV G (dc d_Me_remember 15 rfl) kc5 (okL_lt hq3 (o := 0) 0 rfl) (okL_k hq3 (o := 0) 0 rfl) mi_St_copyFrom mv_St_copyFrom rfl ml_RX2_32 (c_St_copyFrom (gst G) hx hq3 hp0 e4) rfl rfl ⟨rfl, rfl⟩ rfl ⟨rfl, rfl⟩ ⟨rfl, rfl⟩ ?_
  refine k_aload_n G (dc d_Me_remember 16 rfl) 1 rfl rfl ?_
  refine k_getI G kc2 (dc d_Me_remember 17 rfl) (okL_lt hu (o := 0) 0 rfl) (okL_k hu (o := 0) 0 rfl) 2 (by decide) rfl fl_RX2_29 ?_
  refine k_bipush G (dc d_Me_remember 18 rfl) cB_14 ?_
  refine kJ h (fun r7 => KK X B L 3 0 0 r7 62 [] []) (fun r7 h => ?_) (fun h => ?_)
  · obtain ⟨M6, rfl⟩ : ∃ z, z = r7 := ⟨_, rfl⟩
    show KK X B L 3 0 0 M6 62 [] []
    exact (kOk_s h) _ _ _ _ rfl rfl (dc d_Me_remember 35 rfl)
  · refine k_icmp_ge G (dc d_Me_remember 19 rfl) (tgt := 49) rfl (fun c8 => ?_) (fun c8 => ?_)
    · replace h := kOk_p c8 h
      refine k_aload_n G (dc d_Me_remember 27 rfl) 1 rfl rfl ?_
      refine k_aload_n G (dc d_Me_remember 28 rfl) 1 rfl rfl ?_
      refine k_getI G kc2 (dc d_Me_remember 29 rfl) (okL_lt hu (o := 0) 0 rfl) (okL_k hu (o := 0) 0 rfl) 1 (by decide) rfl fl_RX2_25 ?_
      refine k_iconst G (dc d_Me_remember 30 rfl) cI_1 ?_
      refine k_iadd G (dc d_Me_remember 31 rfl) ?_
      refine k_bipush G (dc d_Me_remember 32 rfl) cB_14 ?_
      refine k_irem G (dc d_Me_remember 33 rfl) czI_14 ?_
      obtain ⟨M10, e9, h⟩ := kOk_b h
      refine k_putI G kc2 (dc d_Me_remember 34 rfl) (okL_lt hu (o := 0) 0 rfl) (okL_k hu (o := 0) 0 rfl) 1 (by decide) rfl rfl fl_RX2_25 rfl rfl e9 ?_
      refine k_sub [] rfl ?_
      have h9 := kOk_s h
      exact h9
    · replace h := kOk_n c8 h
      refine k_aload_n G (dc d_Me_remember 20 rfl) 1 rfl rfl ?_
      refine k_dup G (dc d_Me_remember 21 rfl) rfl ?_
      refine k_getI G kc2 (dc d_Me_remember 22 rfl) (okL_lt hu (o := 0) 0 rfl) (okL_k hu (o := 0) 0 rfl) 2 (by decide) rfl fl_RX2_29 ?_
      refine k_iconst G (dc d_Me_remember 23 rfl) cI_1 ?_
      refine k_iadd G (dc d_Me_remember 24 rfl) ?_
      obtain ⟨M12, e11, h⟩ := kOk_b h
      refine k_putI G kc2 (dc d_Me_remember 25 rfl) (okL_lt hu (o := 0) 0 rfl) (okL_k hu (o := 0) 0 rfl) 2 (by decide) rfl rfl fl_RX2_29 rfl rfl e11 ?_
      refine k_goto G (dc d_Me_remember 26 rfl) (tgt := 62) rfl ?_
      refine k_sub [] rfl ?_
      have h9 := kOk_s h
      exact h9
theorem c_Me_remember {l : Launch} {B : KB} {L : KLay} {M : KMem} {u : Nat} {p0 : Nat} (hst : l.stackTraces = false) (hx : B.2.2.2 = false) (hu : okL L u meT) (hp0 : okL L p0 stT) {M' : KMem} (e : m_Me_remember u p0 M = some M') : CtrN l B yX2_remember cX2_remember 3 none rm_Me_remember [.ref (B.1 + u), .ref (B.1 + p0)] L M none L M' :=
  mk_V rfl hst rfl (fun X hl G _ R => b_Me_remember G hx hu hp0 ⟨_, e, R⟩)
def I_Me_takeBack : List (Nat × Instr × Nat) := [(0, .aload_n 0, 1), (1, .getfield 29, 3), (4, .ifCond .ne 4, 3), (7, .return_, 1), (8, .aload_n 0, 1), (9, .dup, 1), (10, .getfield 29, 3), (13, .iconst 1, 1), (14, .isub, 1), (15, .putfield 29, 3), (18, .aload_n 0, 1), (19, .getfield 11, 3), (22, .aload_n 0, 1), (23, .getfield 25, 3), (26, .aload_n 0, 1), (27, .getfield 29, 3), (30, .iadd, 1), (31, .bipush 14, 2), (33, .irem, 1), (34, .aaload, 1), (35, .astore_n 2, 1), (36, .aload_n 2, 1), (37, .ifnull 8, 3), (40, .aload_n 1, 1), (41, .aload_n 2, 1), (42, .invokevirtual 32, 3), (45, .return_, 1)]
set_option maxRecDepth 100000 in
theorem d_Me_takeBack : decA cX2_takeBack I_Me_takeBack = true := by decide +kernel
abbrev rm_Me_takeBack : Room := ({ frames := 3, cells := 0, slots := 0, locals := 102 } : Room)
def m_Me_takeBack (u : Nat) (p0 : Nat) (M : KMem) : Option KMem :=
 if (M u 2) = 0 then
 (some M)
 else
 (Option.bind (some (kup M u 2 ((M u 2) - 1))) fun M3 =>
 Option.bind (ckI 14 (jrem ((M3 u 1) + (M3 u 2)) 14)) fun j5 =>
 Option.bind (m_St_copyFrom p0 (u + (4 + 12 * j5)) M3) fun M8 =>
 some M8)
set_option maxHeartbeats 4000000 in
set_option maxRecDepth 100000 in
theorem b_Me_takeBack {X : KX} {B : KB} {L : KLay} {M : KMem} {u : Nat} {p0 : Nat} (G : Good X B RX2 cX2_takeBack 3 rm_Me_takeBack) (hx : B.2.2.2 = false) (hu : okL L u meT) (hp0 : okL L p0 stT) (h : kOk (m_Me_takeBack u p0 M) (fun r => RV X B L 3 cX2_takeBack rm_Me_takeBack r)) : KK X B L 3 0 0 M 0 [(0, .ref (B.1 + u)), (1, .ref (B.1 + p0))] [] := by
  unfold m_Me_takeBack at h
  refine k_aload_n G (dc d_Me_takeBack 0 rfl) 0 rfl rfl ?_
  refine k_getI G kc2 (dc d_Me_takeBack 1 rfl) (okL_lt hu (o := 0) 0 rfl) (okL_k hu (o := 0) 0 rfl) 2 (by decide) rfl fl_RX2_29 ?_
  refine k_if_ne G (dc d_Me_takeBack 2 rfl) (tgt := 8) rfl (fun c1 => ?_) (fun c1 => ?_)
  · replace h := kOk_n c1 h
    refine k_aload_n G (dc d_Me_takeBack 4 rfl) 0 rfl rfl ?_
    refine k_dup G (dc d_Me_takeBack 5 rfl) rfl ?_
    refine k_getI G kc2 (dc d_Me_takeBack 6 rfl) (okL_lt hu (o := 0) 0 rfl) (okL_k hu (o := 0) 0 rfl) 2 (by decide) rfl fl_RX2_29 ?_
    refine k_iconst G (dc d_Me_takeBack 7 rfl) cI_1 ?_
    refine k_isub G (dc d_Me_takeBack 8 rfl) ?_
    obtain ⟨M3, e2, h⟩ := kOk_b h
    refine k_putI G kc2 (dc d_Me_takeBack 9 rfl) (okL_lt hu (o := 0) 0 rfl) (okL_k hu (o := 0) 0 rfl) 2 (by decide) rfl rfl fl_RX2_29 rfl rfl e2 ?_
    refine k_aload_n G (dc d_Me_takeBack 10 rfl) 0 rfl rfl ?_
    refine k_getR G kc2 (dc d_Me_takeBack 11 rfl) (okL_lt hu (o := 0) 0 rfl) (okL_k hu (o := 0) 0 rfl) 0 (by decide) rfl fl_RX2_11 (u + 1) (okL_r hu (o := 0) (c := 1) 0 rfl 0 rfl) ?_
    refine k_aload_n G (dc d_Me_takeBack 12 rfl) 0 rfl rfl ?_
    refine k_getI G kc2 (dc d_Me_takeBack 13 rfl) (okL_lt hu (o := 0) 0 rfl) (okL_k hu (o := 0) 0 rfl) 1 (by decide) rfl fl_RX2_25 ?_
    refine k_aload_n G (dc d_Me_takeBack 14 rfl) 0 rfl rfl ?_
    refine k_getI G kc2 (dc d_Me_takeBack 15 rfl) (okL_lt hu (o := 0) 0 rfl) (okL_k hu (o := 0) 0 rfl) 2 (by decide) rfl fl_RX2_29 ?_
    refine k_iadd G (dc d_Me_takeBack 16 rfl) ?_
    refine k_bipush G (dc d_Me_takeBack 17 rfl) cB_14 ?_
    refine k_irem G (dc d_Me_takeBack 18 rfl) czI_14 ?_
    obtain ⟨j5, e4, h⟩ := kOk_b h
    have hq6 := me_rs hu (ckI_ok e4).2.2
    refine k_qld G (dc d_Me_takeBack 19 rfl) (okL_lt hu (o := 1) 1 rfl) (okL_k hu (o := 1) 1 rfl) (okL_n hu (o := 1) 1 rfl) e4 (me_ring hu (ckI_ok e4).2.2) ?_
    refine k_astore_n G (dc d_Me_takeBack 20 rfl) (ls' := [(2, .ref (B.1 + (u + (4 + 12 * j5)))), (0, .ref (B.1 + u)), (1, .ref (B.1 + p0))]) rfl rfl rfl ?_
    refine k_aload_n G (dc d_Me_takeBack 21 rfl) 0 rfl rfl ?_
    refine k_ifnull G (dc d_Me_takeBack 22 rfl) ?_
    refine k_aload_n G (dc d_Me_takeBack 23 rfl) 2 rfl rfl ?_
    refine k_aload_n G (dc d_Me_takeBack 24 rfl) 0 rfl rfl ?_
    obtain ⟨M8, e7, h⟩ := kOk_b h
    refine k_cVV G (dc d_Me_takeBack 25 rfl) kc5 (okL_lt hp0 (o := 0) 0 rfl) (okL_k hp0 (o := 0) 0 rfl) mi_St_copyFrom mv_St_copyFrom rfl ml_RX2_32 (c_St_copyFrom (gst G) hx hp0 hq6 e7) rfl rfl ⟨rfl, rfl⟩ rfl ⟨rfl, rfl⟩ ⟨rfl, rfl⟩ ?_
    exact (kOk_s h) _ _ _ _ rfl rfl (dc d_Me_takeBack 26 rfl)
  · replace h := kOk_p c1 h
    exact (kOk_s h) _ _ _ _ rfl rfl (dc d_Me_takeBack 3 rfl)
theorem c_Me_takeBack {l : Launch} {B : KB} {L : KLay} {M : KMem} {u : Nat} {p0 : Nat} (hst : l.stackTraces = false) (hx : B.2.2.2 = false) (hu : okL L u meT) (hp0 : okL L p0 stT) {M' : KMem} (e : m_Me_takeBack u p0 M = some M') : CtrN l B yX2_takeBack cX2_takeBack 3 none rm_Me_takeBack [.ref (B.1 + u), .ref (B.1 + p0)] L M none L M' :=
  mk_V rfl hst rfl (fun X hl G _ R => b_Me_takeBack G hx hu hp0 ⟨_, e, R⟩)
def I_Me_forgetStates : List (Nat × Instr × Nat) := [(0, .aload_n 0, 1), (1, .iconst 0, 1), (2, .putfield 29, 3), (5, .return_, 1)]
set_option maxRecDepth 100000 in
theorem d_Me_forgetStates : decA cX2_forgetStates I_Me_forgetStates = true := by decide +kernel
abbrev rm_Me_forgetStates : Room := ({ frames := 0, cells := 0, slots := 0, locals := 0 } : Room)
def m_Me_forgetStates (u : Nat) (M : KMem) : Option KMem :=
 Option.bind (some (kup M u 2 0)) fun M2 =>
 some M2
set_option maxHeartbeats 4000000 in
set_option maxRecDepth 100000 in
theorem b_Me_forgetStates {X : KX} {B : KB} {L : KLay} {M : KMem} {u : Nat} (G : Good X B RX2 cX2_forgetStates 1 rm_Me_forgetStates) (hu : okL L u meT) (h : kOk (m_Me_forgetStates u M) (fun r => RV X B L 1 cX2_forgetStates rm_Me_forgetStates r)) : KK X B L 1 0 0 M 0 [(0, .ref (B.1 + u))] [] := by
  unfold m_Me_forgetStates at h
  refine k_aload_n G (dc d_Me_forgetStates 0 rfl) 0 rfl rfl ?_
  refine k_iconst G (dc d_Me_forgetStates 1 rfl) cI_0 ?_
  obtain ⟨M2, e1, h⟩ := kOk_b h
  refine k_putI G kc2 (dc d_Me_forgetStates 2 rfl) (okL_lt hu (o := 0) 0 rfl) (okL_k hu (o := 0) 0 rfl) 2 (by decide) rfl rfl fl_RX2_29 rfl rfl e1 ?_
  exact (kOk_s h) _ _ _ _ rfl rfl (dc d_Me_forgetStates 3 rfl)
theorem c_Me_forgetStates {l : Launch} {B : KB} {L : KLay} {M : KMem} {u : Nat} (hst : l.stackTraces = false) (hu : okL L u meT) {M' : KMem} (e : m_Me_forgetStates u M = some M') : CtrN l B yX2_forgetStates cX2_forgetStates 1 none rm_Me_forgetStates [.ref (B.1 + u)] L M none L M' :=
  mk_V rfl hst rfl (fun X hl G _ R => b_Me_forgetStates G hu ⟨_, e, R⟩)
def I_Me_isFilled : List (Nat × Instr × Nat) := [(0, .iload_n 1, 1), (1, .ifCond .lt 21, 3), (4, .iload_n 1, 1), (5, .iconst 2, 1), (6, .if_icmp .ge 16, 3), (9, .aload_n 0, 1), (10, .getfield 20, 3), (13, .iload_n 1, 1), (14, .baload, 1), (15, .ifCond .eq 7, 3), (18, .iconst 1, 1), (19, .goto 4, 3), (22, .iconst 0, 1), (23, .ireturn, 1)]
set_option maxRecDepth 100000 in
theorem d_Me_isFilled : decA cX2_isFilled I_Me_isFilled = true := by decide +kernel
abbrev rm_Me_isFilled : Room := ({ frames := 0, cells := 0, slots := 0, locals := 0 } : Room)
def m_Me_isFilled (u : Nat) (p0 : Int32) (M : KMem) : Option Int32 :=
 Option.bind (α := Int32) (if p0 < 0 then
 (some 0)
 else
 (if 2 ≤ p0 then
 (some 0)
 else
 (Option.bind (rdI M (u + 3) 2 p0) fun x8 =>
 if x8 = 0 then
 (some 0)
 else
 (some 1)))) fun t1 =>
 Option.bind (kz t1) fun z3 =>
 some z3
set_option maxHeartbeats 4000000 in
set_option maxRecDepth 100000 in
theorem b_Me_isFilled {X : KX} {B : KB} {L : KLay} {M : KMem} {u : Nat} {p0 : Int32} (G : Good X B RX2 cX2_isFilled 2 rm_Me_isFilled) (hu : okL L u meT) (h : kOk (m_Me_isFilled u p0 M) (fun r => RI X B L 2 cX2_isFilled .boolean rm_Me_isFilled r M)) : KK X B L 2 0 0 M 0 [(0, .ref (B.1 + u)), (1, .int p0)] [] := by
  unfold m_Me_isFilled at h
  refine k_iload_n G (dc d_Me_isFilled 0 rfl) 1 rfl rfl ?_
  refine kJ h (fun r2 => KK X B L 2 0 0 M 23 [] [.int r2]) (fun r2 h => ?_) (fun h => ?_)
  · obtain ⟨t1, rfl⟩ : ∃ z, z = r2 := ⟨_, rfl⟩
    show KK X B L 2 0 0 M 23 [] [.int t1]
    obtain ⟨z3, e4, h⟩ := kOk_b h
    obtain ⟨e4, nz3, -⟩ := kz_ok e4
    rw [e4]
    exact (kOk_s h) _ _ _ _ rfl rfl nz3 (dc d_Me_isFilled 13 rfl)
  · refine k_if_lt G (dc d_Me_isFilled 1 rfl) (tgt := 22) rfl (fun c5 => ?_) (fun c5 => ?_)
    · replace h := kOk_p c5 h
      refine k_iconst G (dc d_Me_isFilled 12 rfl) cI_0 ?_
      refine k_sub [] rfl ?_
      have h9 := kOk_s h
      exact h9
    · replace h := kOk_n c5 h
      refine k_iload_n G (dc d_Me_isFilled 2 rfl) 1 rfl rfl ?_
      refine k_iconst G (dc d_Me_isFilled 3 rfl) cI_2 ?_
      refine k_icmp_ge G (dc d_Me_isFilled 4 rfl) (tgt := 22) rfl (fun c6 => ?_) (fun c6 => ?_)
      · replace h := kOk_p c6 h
        refine k_iconst G (dc d_Me_isFilled 12 rfl) cI_0 ?_
        refine k_sub [] rfl ?_
        have h9 := kOk_s h
        exact h9
      · replace h := kOk_n c6 h
        refine k_aload_n G (dc d_Me_isFilled 5 rfl) 0 rfl rfl ?_
        refine k_getR G kc2 (dc d_Me_isFilled 6 rfl) (okL_lt hu (o := 0) 0 rfl) (okL_k hu (o := 0) 0 rfl) 4 (by decide) rfl fl_RX2_20 (u + 3) (okL_r hu (o := 0) (c := 3) 0 rfl 2 rfl) ?_
        refine k_iload_n G (dc d_Me_isFilled 7 rfl) 1 rfl rfl ?_
        obtain ⟨x8, e7, h⟩ := kOk_b h
        refine k_zld G (dc d_Me_isFilled 8 rfl) (okL_lt hu (o := 3) 3 rfl) (okL_k hu (o := 3) 3 rfl) (okL_n hu (o := 3) 3 rfl) e7 ?_
        refine k_if_eq G (dc d_Me_isFilled 9 rfl) (tgt := 22) rfl (fun c9 => ?_) (fun c9 => ?_)
        · replace h := kOk_p c9 h
          refine k_iconst G (dc d_Me_isFilled 12 rfl) cI_0 ?_
          refine k_sub [] rfl ?_
          have h9 := kOk_s h
          exact h9
        · replace h := kOk_n c9 h
          refine k_iconst G (dc d_Me_isFilled 10 rfl) cI_1 ?_
          refine k_goto G (dc d_Me_isFilled 11 rfl) (tgt := 23) rfl ?_
          refine k_sub [] rfl ?_
          have h9 := kOk_s h
          exact h9
theorem c_Me_isFilled {l : Launch} {B : KB} {L : KLay} {M : KMem} {u : Nat} {p0 : Int32} (hst : l.stackTraces = false) (hu : okL L u meT) {r : Int32} (e : m_Me_isFilled u p0 M = some r) : CtrN l B yX2_isFilled cX2_isFilled 2 (some .boolean) rm_Me_isFilled [.ref (B.1 + u), .int p0] L M (some (.int r)) L M :=
  mk_I rfl hst rfl (fun X hl G _ R => b_Me_isFilled G hu ⟨_, e, R⟩)
def I_Me_fillSlot : List (Nat × Instr × Nat) := [(0, .iload_n 1, 1), (1, .ifCond .lt 8, 3), (4, .iload_n 1, 1), (5, .iconst 2, 1), (6, .if_icmp .lt 4, 3), (9, .return_, 1), (10, .aload_n 0, 1), (11, .getfield 17, 3), (14, .iload_n 1, 1), (15, .aaload, 1), (16, .astore_n 3, 1), (17, .aload_n 3, 1), (18, .ifnull 15, 3), (21, .aload_n 3, 1), (22, .aload_n 2, 1), (23, .invokevirtual 32, 3), (26, .aload_n 0, 1), (27, .getfield 20, 3), (30, .iload_n 1, 1), (31, .iconst 1, 1), (32, .bastore, 1), (33, .return_, 1)]
set_option maxRecDepth 100000 in
theorem d_Me_fillSlot : decA cX2_fillSlot I_Me_fillSlot = true := by decide +kernel
abbrev rm_Me_fillSlot : Room := ({ frames := 3, cells := 0, slots := 0, locals := 102 } : Room)
def m_Me_fillSlot (u : Nat) (p0 : Int32) (p1 : Nat) (M : KMem) : Option KMem :=
 if p0 < 0 then
 (some M)
 else
 (if p0 < 2 then
 (Option.bind (ckI 2 p0) fun j4 =>
 Option.bind (m_St_copyFrom (u + (172 + 12 * j4)) p1 M) fun M7 =>
 Option.bind (wrZ M7 (u + 3) 2 p0 1) fun M9 =>
 some M9)
 else
 (some M))
set_option maxHeartbeats 4000000 in
set_option maxRecDepth 100000 in
theorem b_Me_fillSlot {X : KX} {B : KB} {L : KLay} {M : KMem} {u : Nat} {p0 : Int32} {p1 : Nat} (G : Good X B RX2 cX2_fillSlot 4 rm_Me_fillSlot) (hx : B.2.2.2 = false) (hu : okL L u meT) (hp1 : okL L p1 stT) (h : kOk (m_Me_fillSlot u p0 p1 M) (fun r => RV X B L 4 cX2_fillSlot rm_Me_fillSlot r)) : KK X B L 4 0 0 M 0 [(0, .ref (B.1 + u)), (1, .int p0), (2, .ref (B.1 + p1))] [] := by
  unfold m_Me_fillSlot at h
  refine k_iload_n G (dc d_Me_fillSlot 0 rfl) 1 rfl rfl ?_
  refine k_if_lt G (dc d_Me_fillSlot 1 rfl) (tgt := 9) rfl (fun c1 => ?_) (fun c1 => ?_)
  · replace h := kOk_p c1 h
    exact (kOk_s h) _ _ _ _ rfl rfl (dc d_Me_fillSlot 5 rfl)
  · replace h := kOk_n c1 h
    refine k_iload_n G (dc d_Me_fillSlot 2 rfl) 1 rfl rfl ?_
    refine k_iconst G (dc d_Me_fillSlot 3 rfl) cI_2 ?_
    refine k_icmp_lt G (dc d_Me_fillSlot 4 rfl) (tgt := 10) rfl (fun c2 => ?_) (fun c2 => ?_)
    · replace h := kOk_p c2 h
      refine k_aload_n G (dc d_Me_fillSlot 6 rfl) 0 rfl rfl ?_
      refine k_getR G kc2 (dc d_Me_fillSlot 7 rfl) (okL_lt hu (o := 0) 0 rfl) (okL_k hu (o := 0) 0 rfl) 3 (by decide) rfl fl_RX2_17 (u + 2) (okL_r hu (o := 0) (c := 2) 0 rfl 1 rfl) ?_
      refine k_iload_n G (dc d_Me_fillSlot 8 rfl) 1 rfl rfl ?_
      obtain ⟨j4, e3, h⟩ := kOk_b h
      have hq5 := me_ss hu (ckI_ok e3).2.2
      refine k_qld G (dc d_Me_fillSlot 9 rfl) (okL_lt hu (o := 2) 2 rfl) (okL_k hu (o := 2) 2 rfl) (okL_n hu (o := 2) 2 rfl) e3 (me_slot hu (ckI_ok e3).2.2) ?_
      refine k_astore_n G (dc d_Me_fillSlot 10 rfl) (ls' := [(3, .ref (B.1 + (u + (172 + 12 * j4)))), (0, .ref (B.1 + u)), (1, .int p0), (2, .ref (B.1 + p1))]) rfl rfl rfl ?_
      refine k_aload_n G (dc d_Me_fillSlot 11 rfl) 0 rfl rfl ?_
      refine k_ifnull G (dc d_Me_fillSlot 12 rfl) ?_
      refine k_aload_n G (dc d_Me_fillSlot 13 rfl) 0 rfl rfl ?_
      refine k_aload_n G (dc d_Me_fillSlot 14 rfl) 3 rfl rfl ?_
      obtain ⟨M7, e6, h⟩ := kOk_b h
      refine k_cVV G (dc d_Me_fillSlot 15 rfl) kc5 (okL_lt hq5 (o := 0) 0 rfl) (okL_k hq5 (o := 0) 0 rfl) mi_St_copyFrom mv_St_copyFrom rfl ml_RX2_32 (c_St_copyFrom (gst G) hx hq5 hp1 e6) rfl rfl ⟨rfl, rfl⟩ rfl ⟨rfl, rfl⟩ ⟨rfl, rfl⟩ ?_
      refine k_aload_n G (dc d_Me_fillSlot 16 rfl) 1 rfl rfl ?_
      refine k_getR G kc2 (dc d_Me_fillSlot 17 rfl) (okL_lt hu (o := 0) 0 rfl) (okL_k hu (o := 0) 0 rfl) 4 (by decide) rfl fl_RX2_20 (u + 3) (okL_r hu (o := 0) (c := 3) 0 rfl 2 rfl) ?_
      refine k_iload_n G (dc d_Me_fillSlot 18 rfl) 2 rfl rfl ?_
      refine k_iconst G (dc d_Me_fillSlot 19 rfl) cI_1 ?_
      obtain ⟨M9, e8, h⟩ := kOk_b h
      refine k_zst G (dc d_Me_fillSlot 20 rfl) (okL_lt hu (o := 3) 3 rfl) (okL_k hu (o := 3) 3 rfl) (okL_n hu (o := 3) 3 rfl) e8 ?_
      exact (kOk_s h) _ _ _ _ rfl rfl (dc d_Me_fillSlot 21 rfl)
    · replace h := kOk_n c2 h
      exact (kOk_s h) _ _ _ _ rfl rfl (dc d_Me_fillSlot 5 rfl)
theorem c_Me_fillSlot {l : Launch} {B : KB} {L : KLay} {M : KMem} {u : Nat} {p0 : Int32} {p1 : Nat} (hst : l.stackTraces = false) (hx : B.2.2.2 = false) (hu : okL L u meT) (hp1 : okL L p1 stT) {M' : KMem} (e : m_Me_fillSlot u p0 p1 M = some M') : CtrN l B yX2_fillSlot cX2_fillSlot 4 none rm_Me_fillSlot [.ref (B.1 + u), .int p0, .ref (B.1 + p1)] L M none L M' :=
  mk_V rfl hst rfl (fun X hl G _ R => b_Me_fillSlot G hx hu hp1 ⟨_, e, R⟩)
def I_Me_copySlot : List (Nat × Instr × Nat) := [(0, .aload_n 0, 1), (1, .iload_n 1, 1), (2, .invokevirtual 36, 3), (5, .ifCond .ne 4, 3), (8, .return_, 1), (9, .aload_n 0, 1), (10, .getfield 17, 3), (13, .iload_n 1, 1), (14, .aaload, 1), (15, .astore_n 3, 1), (16, .aload_n 3, 1), (17, .ifnull 8, 3), (20, .aload_n 2, 1), (21, .aload_n 3, 1), (22, .invokevirtual 32, 3), (25, .return_, 1)]
set_option maxRecDepth 100000 in
theorem d_Me_copySlot : decA cX2_copySlot I_Me_copySlot = true := by decide +kernel
abbrev rm_Me_copySlot : Room := ({ frames := 3, cells := 0, slots := 0, locals := 102 } : Room)
def m_Me_copySlot (u : Nat) (p0 : Int32) (p1 : Nat) (M : KMem) : Option KMem :=
 Option.bind (m_Me_isFilled u p0 M) fun x2 =>
 if x2 = 0 then
 (some M)
 else
 (Option.bind (ckI 2 p0) fun j5 =>
 Option.bind (m_St_copyFrom p1 (u + (172 + 12 * j5)) M) fun M8 =>
 some M8)
set_option maxHeartbeats 4000000 in
set_option maxRecDepth 100000 in
theorem b_Me_copySlot {X : KX} {B : KB} {L : KLay} {M : KMem} {u : Nat} {p0 : Int32} {p1 : Nat} (G : Good X B RX2 cX2_copySlot 4 rm_Me_copySlot) (hx : B.2.2.2 = false) (hu : okL L u meT) (hp1 : okL L p1 stT) (h : kOk (m_Me_copySlot u p0 p1 M) (fun r => RV X B L 4 cX2_copySlot rm_Me_copySlot r)) : KK X B L 4 0 0 M 0 [(0, .ref (B.1 + u)), (1, .int p0), (2, .ref (B.1 + p1))] [] := by
  unfold m_Me_copySlot at h
  refine k_aload_n G (dc d_Me_copySlot 0 rfl) 0 rfl rfl ?_
  refine k_iload_n G (dc d_Me_copySlot 1 rfl) 1 rfl rfl ?_
  obtain ⟨x2, e1, h⟩ := kOk_b h
  refine k_cVI G (dc d_Me_copySlot 2 rfl) kc2 (okL_lt hu (o := 0) 0 rfl) (okL_k hu (o := 0) 0 rfl) mi_Me_isFilled mv_Me_isFilled rfl ml_RX2_36 (c_Me_isFilled (gst G) hu e1) rfl rfl ⟨rfl, rfl⟩ rfl ⟨rfl, rfl⟩ ⟨rfl, rfl⟩ ?_
  refine k_if_ne G (dc d_Me_copySlot 3 rfl) (tgt := 9) rfl (fun c3 => ?_) (fun c3 => ?_)
  · replace h := kOk_n c3 h
    refine k_aload_n G (dc d_Me_copySlot 5 rfl) 0 rfl rfl ?_
    refine k_getR G kc2 (dc d_Me_copySlot 6 rfl) (okL_lt hu (o := 0) 0 rfl) (okL_k hu (o := 0) 0 rfl) 3 (by decide) rfl fl_RX2_17 (u + 2) (okL_r hu (o := 0) (c := 2) 0 rfl 1 rfl) ?_
    refine k_iload_n G (dc d_Me_copySlot 7 rfl) 1 rfl rfl ?_
    obtain ⟨j5, e4, h⟩ := kOk_b h
    have hq6 := me_ss hu (ckI_ok e4).2.2
    refine k_qld G (dc d_Me_copySlot 8 rfl) (okL_lt hu (o := 2) 2 rfl) (okL_k hu (o := 2) 2 rfl) (okL_n hu (o := 2) 2 rfl) e4 (me_slot hu (ckI_ok e4).2.2) ?_
    refine k_astore_n G (dc d_Me_copySlot 9 rfl) (ls' := [(3, .ref (B.1 + (u + (172 + 12 * j5)))), (0, .ref (B.1 + u)), (1, .int p0), (2, .ref (B.1 + p1))]) rfl rfl rfl ?_
    refine k_aload_n G (dc d_Me_copySlot 10 rfl) 0 rfl rfl ?_
    refine k_ifnull G (dc d_Me_copySlot 11 rfl) ?_
    refine k_aload_n G (dc d_Me_copySlot 12 rfl) 3 rfl rfl ?_
    refine k_aload_n G (dc d_Me_copySlot 13 rfl) 0 rfl rfl ?_
    obtain ⟨M8, e7, h⟩ := kOk_b h
    refine k_cVV G (dc d_Me_copySlot 14 rfl) kc5 (okL_lt hp1 (o := 0) 0 rfl) (okL_k hp1 (o := 0) 0 rfl) mi_St_copyFrom mv_St_copyFrom rfl ml_RX2_32 (c_St_copyFrom (gst G) hx hp1 hq6 e7) rfl rfl ⟨rfl, rfl⟩ rfl ⟨rfl, rfl⟩ ⟨rfl, rfl⟩ ?_
    exact (kOk_s h) _ _ _ _ rfl rfl (dc d_Me_copySlot 15 rfl)
  · replace h := kOk_p c3 h
    exact (kOk_s h) _ _ _ _ rfl rfl (dc d_Me_copySlot 4 rfl)
theorem c_Me_copySlot {l : Launch} {B : KB} {L : KLay} {M : KMem} {u : Nat} {p0 : Int32} {p1 : Nat} (hst : l.stackTraces = false) (hx : B.2.2.2 = false) (hu : okL L u meT) (hp1 : okL L p1 stT) {M' : KMem} (e : m_Me_copySlot u p0 p1 M = some M') : CtrN l B yX2_copySlot cX2_copySlot 4 none rm_Me_copySlot [.ref (B.1 + u), .int p0, .ref (B.1 + p1)] L M none L M' :=
  mk_V rfl hst rfl (fun X hl G _ R => b_Me_copySlot G hx hu hp1 ⟨_, e, R⟩)
def I_Me_emptySlots : List (Nat × Instr × Nat) := [(0, .iconst 0, 1), (1, .istore_n 1, 1), (2, .iload_n 1, 1), (3, .iconst 2, 1), (4, .if_icmp .ge 16, 3), (7, .aload_n 0, 1), (8, .getfield 20, 3), (11, .iload_n 1, 1), (12, .iconst 0, 1), (13, .bastore, 1), (14, .iinc 1 1, 3), (17, .goto (-15), 3), (20, .return_, 1)]
set_option maxRecDepth 100000 in
theorem d_Me_emptySlots : decA cX2_emptySlots I_Me_emptySlots = true := by decide +kernel
abbrev rm_Me_emptySlots : Room := ({ frames := 0, cells := 0, slots := 0, locals := 0 } : Room)
def m_Me_emptySlots_l2 (u : Nat) : (Int32 × KMem) → Option ((Int32 × KMem) ⊕ KMem) := fun (v1_1, M2) =>
 if 2 ≤ v1_1 then
 (some (.inr M2))
 else
 (Option.bind (wrZ M2 (u + 3) 2 v1_1 0) fun M5 =>
 some (.inl (v1_1 + 1, M5)))
def m_Me_emptySlots (u : Nat) (M : KMem) : Option KMem :=
 Option.bind (α := KMem) (kLp (m_Me_emptySlots_l2 u) kFU (0, M)) fun M6 =>
 some M6
set_option maxHeartbeats 4000000 in
set_option maxRecDepth 100000 in
theorem b_Me_emptySlots {X : KX} {B : KB} {L : KLay} {M : KMem} {u : Nat} (G : Good X B RX2 cX2_emptySlots 2 rm_Me_emptySlots) (hu : okL L u meT) (h : kOk (m_Me_emptySlots u M) (fun r => RV X B L 2 cX2_emptySlots rm_Me_emptySlots r)) : KK X B L 2 0 0 M 0 [(0, .ref (B.1 + u))] [] := by
  unfold m_Me_emptySlots at h
  refine k_iconst G (dc d_Me_emptySlots 0 rfl) cI_0 ?_
  refine k_istore_n G (dc d_Me_emptySlots 1 rfl) (ls' := [(1, .int 0), (0, .ref (B.1 + u))]) rfl rfl rfl ?_
  refine kJ h (fun r7 => KK X B L 2 0 0 r7 20 [] []) (fun r7 h => ?_) (fun h => ?_)
  · obtain ⟨M6, rfl⟩ : ∃ z, z = r7 := ⟨_, rfl⟩
    show KK X B L 2 0 0 M6 20 [] []
    exact (kOk_s h) _ _ _ _ rfl rfl (dc d_Me_emptySlots 12 rfl)
  · refine k_sub [1, 0] rfl ?_
    refine kLp_ok (P := fun s8 => KK X B L 2 0 0 s8.2 2 [(0, .ref (B.1 + u)), (1, .int s8.1)] []) (fun s8 h => ?_) kFU _ h
    obtain ⟨v1_1, M2⟩ := s8
    unfold m_Me_emptySlots_l2 at h
    show KK X B L 2 0 0 M2 2 [(0, .ref (B.1 + u)), (1, .int v1_1)] []
    refine k_iload_n G (dc d_Me_emptySlots 2 rfl) 1 rfl rfl ?_
    refine k_iconst G (dc d_Me_emptySlots 3 rfl) cI_2 ?_
    refine k_icmp_ge G (dc d_Me_emptySlots 4 rfl) (tgt := 20) rfl (fun c3 => ?_) (fun c3 => ?_)
    · replace h := kOk_p c3 h
      refine k_sub [] rfl ?_
      have h9 := kOk_s h
      exact h9
    · replace h := kOk_n c3 h
      refine k_aload_n G (dc d_Me_emptySlots 5 rfl) 0 rfl rfl ?_
      refine k_getR G kc2 (dc d_Me_emptySlots 6 rfl) (okL_lt hu (o := 0) 0 rfl) (okL_k hu (o := 0) 0 rfl) 4 (by decide) rfl fl_RX2_20 (u + 3) (okL_r hu (o := 0) (c := 3) 0 rfl 2 rfl) ?_
      refine k_iload_n G (dc d_Me_emptySlots 7 rfl) 1 rfl rfl ?_
      refine k_iconst G (dc d_Me_emptySlots 8 rfl) cI_0 ?_
      obtain ⟨M5, e4, h⟩ := kOk_b h
      refine k_zst G (dc d_Me_emptySlots 9 rfl) (okL_lt hu (o := 3) 3 rfl) (okL_k hu (o := 3) 3 rfl) (okL_n hu (o := 3) 3 rfl) e4 ?_
      refine k_iinc G (dc d_Me_emptySlots 10 rfl) (ls' := [(1, .int (v1_1 + 1)), (0, .ref (B.1 + u))]) 1 rfl cI_1 rfl rfl ?_
      refine k_goto G (dc d_Me_emptySlots 11 rfl) (tgt := 2) rfl ?_
      refine k_sub [1, 0] rfl ?_
      have h9 := kOk_s h
      exact h9
theorem c_Me_emptySlots {l : Launch} {B : KB} {L : KLay} {M : KMem} {u : Nat} (hst : l.stackTraces = false) (hu : okL L u meT) {M' : KMem} (e : m_Me_emptySlots u M = some M') : CtrN l B yX2_emptySlots cX2_emptySlots 2 none rm_Me_emptySlots [.ref (B.1 + u)] L M none L M' :=
  mk_V rfl hst rfl (fun X hl G _ R => b_Me_emptySlots G hu ⟨_, e, R⟩)
