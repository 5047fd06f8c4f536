/-! laid by wip/p30/g30.py: Sn_about, Sn_requireSetting, Sn_setting, Sn_requireSign, Sn_signOf, Sn_requireDecree, Sn_decreeOf, Sn_requireGuild, Sn_guildOf, Sn_right, Sn_apart, Sn_payable, Sn_requireDecreeArguments, Sn_why, Sn_worthIn, Sn_months, Sn_undo, Sn_paint -/
def I_Sn_about : List (Nat × Instr × Nat) := [(0, .iload_n 1, 1), (1, .ifCond .lt 9, 3), (4, .iload_n 1, 1), (5, .bipush 11, 2), (7, .if_icmp .le 13, 3), (10, .new 33, 3), (13, .dup, 1), (14, .ldc 117, 2), (16, .invokespecial 37, 3), (19, .athrow, 1), (20, .aload_n 0, 1), (21, .getfield 19, 3), (24, .iload_n 1, 1), (25, .invokevirtual 119, 3), (28, .ireturn, 1)]
set_option maxRecDepth 100000 in
theorem d_Sn_about : decA cX10_about I_Sn_about = true := by decide +kernel
abbrev rm_Sn_about : Room := ({ frames := 7, cells := 0, slots := 0, locals := 158 } : Room)
def m_Sn_about (u : Nat) (p0 : Int32) (M : KMem) : Option (Int32 × KMem) :=
 if p0 < 0 then
 (none)
 else
 (if p0 ≤ 11 then
 (Option.bind (m_Tw_numberOfTown (u + 3) p0 M) fun (x4, M5) =>
 some (x4, M5))
 else
 (none))
set_option maxHeartbeats 4000000 in
set_option maxRecDepth 100000 in
theorem b_Sn_about {X : KX} {B : KB} {L : KLay} {M : KMem} {u : Nat} {p0 : Int32} (G : Good X B RX10 cX10_about 2 rm_Sn_about) (hu : okL L u srT) (h : kOk (m_Sn_about u p0 M) (fun r => RI X B L 2 cX10_about .int rm_Sn_about r.1 r.2)) : KK X B L 2 0 0 M 0 [(0, .ref (B.1 + u)), (1, .int p0)] [] := by
  unfold m_Sn_about at h
  refine k_iload_n G (dc d_Sn_about 0 rfl) 1 rfl rfl ?_
  refine k_if_lt G (dc d_Sn_about 1 rfl) (tgt := 10) rfl (fun c1 => ?_) (fun c1 => ?_)
  · replace h := kOk_p c1 h
    exact (kOk_none h).elim
  · replace h := kOk_n c1 h
    refine k_iload_n G (dc d_Sn_about 2 rfl) 1 rfl rfl ?_
    refine k_bipush G (dc d_Sn_about 3 rfl) cB_11 ?_
    refine k_icmp_le G (dc d_Sn_about 4 rfl) (tgt := 20) rfl (fun c2 => ?_) (fun c2 => ?_)
    · replace h := kOk_p c2 h
      refine k_aload_n G (dc d_Sn_about 10 rfl) 0 rfl rfl ?_
      refine k_getR G kc7 (dc d_Sn_about 11 rfl) (okL_lt hu (o := 0) 0 rfl) (okL_k hu (o := 0) 0 rfl) 1 (by decide) rfl fl_RX10_19 (u + 3) (okL_r hu (o := 0) (c := 3) 0 rfl 1 rfl) ?_
      refine k_iload_n G (dc d_Sn_about 12 rfl) 1 rfl rfl ?_
      obtain ⟨⟨x4, M5⟩, e3, h⟩ := kOk_b h
      refine k_cVI G (dc d_Sn_about 13 rfl) kc6 (okL_lt hu (o := 3) 3 rfl) (okL_k hu (o := 3) 3 rfl) mi_Tw_numberOfTown mv_Tw_numberOfTown rfl ml_RX10_119 (c_Tw_numberOfTown (gst G) (okL_sub hu 3 (by decide +kernel)) e3) rfl rfl ⟨rfl, rfl⟩ rfl ⟨rfl, rfl⟩ ⟨rfl, rfl⟩ ?_
      exact (kOk_s h) _ _ _ _ rfl rfl rfl (dc d_Sn_about 14 rfl)
    · replace h := kOk_n c2 h
      exact (kOk_none h).elim
theorem c_Sn_about {l : Launch} {B : KB} {L : KLay} {M : KMem} {u : Nat} {p0 : Int32} (hst : l.stackTraces = false) (hu : okL L u srT) {r : Int32} {M' : KMem} (e : m_Sn_about u p0 M = some (r, M')) : CtrN l B yX10_about cX10_about 2 (some .int) rm_Sn_about [.ref (B.1 + u), .int p0] L M (some (.int r)) L M' :=
  mk_I rfl hst rfl (fun X hl G _ R => b_Sn_about G hu ⟨_, e, R⟩)
def I_Sn_requireSetting : List (Nat × Instr × Nat) := [(0, .iload_n 0, 1), (1, .ifCond .lt 8, 3), (4, .iload_n 0, 1), (5, .iconst 2, 1), (6, .if_icmp .lt 14, 3), (9, .new 33, 3), (12, .dup, 1), (13, .ldc_w 295, 3), (16, .invokespecial 37, 3), (19, .athrow, 1), (20, .return_, 1)]
set_option maxRecDepth 100000 in
theorem d_Sn_requireSetting : decA cX10_requireSetting I_Sn_requireSetting = true := by decide +kernel
abbrev rm_Sn_requireSetting : Room := ({ frames := 6, cells := 0, slots := 0, locals := 92 } : Room)
def m_Sn_requireSetting (p0 : Int32) : Option Unit :=
 if p0 < 0 then
 (none)
 else
 (if p0 < 2 then
 (some ())
 else
 (none))
set_option maxHeartbeats 4000000 in
set_option maxRecDepth 100000 in
theorem b_Sn_requireSetting {X : KX} {B : KB} {L : KLay} {M : KMem} {p0 : Int32} (G : Good X B RX10 cX10_requireSetting 1 rm_Sn_requireSetting)  (h : kOk (m_Sn_requireSetting p0) (fun r => RV X B L 1 cX10_requireSetting rm_Sn_requireSetting M)) : KK X B L 1 0 0 M 0 [(0, .int p0)] [] := by
  unfold m_Sn_requireSetting at h
  refine k_iload_n G (dc d_Sn_requireSetting 0 rfl) 0 rfl rfl ?_
  refine k_if_lt G (dc d_Sn_requireSetting 1 rfl) (tgt := 9) rfl (fun c1 => ?_) (fun c1 => ?_)
  · replace h := kOk_p c1 h
    exact (kOk_none h).elim
  · replace h := kOk_n c1 h
    refine k_iload_n G (dc d_Sn_requireSetting 2 rfl) 0 rfl rfl ?_
    refine k_iconst G (dc d_Sn_requireSetting 3 rfl) cI_2 ?_
    refine k_icmp_lt G (dc d_Sn_requireSetting 4 rfl) (tgt := 20) rfl (fun c2 => ?_) (fun c2 => ?_)
    · replace h := kOk_p c2 h
      exact (kOk_s h) _ _ _ _ rfl rfl (dc d_Sn_requireSetting 10 rfl)
    · replace h := kOk_n c2 h
      exact (kOk_none h).elim
theorem c_Sn_requireSetting {l : Launch} {B : KB} {L : KLay} {M : KMem} {p0 : Int32} (hst : l.stackTraces = false)  (e : m_Sn_requireSetting p0 = some ()) : CtrN l B yX10_requireSetting cX10_requireSetting 1 none rm_Sn_requireSetting [.int p0] L M none L M :=
  mk_V rfl hst rfl (fun X hl G _ R => b_Sn_requireSetting G  ⟨_, e, R⟩)
def I_Sn_setting : List (Nat × Instr × Nat) := [(0, .iload_n 1, 1), (1, .invokestatic 157, 3), (4, .aload_n 0, 1), (5, .getfield 19, 3), (8, .getfield 59, 3), (11, .getfield 160, 3), (14, .iload_n 1, 1), (15, .iaload, 1), (16, .ireturn, 1)]
set_option maxRecDepth 100000 in
theorem d_Sn_setting : decA cX10_setting I_Sn_setting = true := by decide +kernel
abbrev rm_Sn_setting : Room := ({ frames := 7, cells := 0, slots := 0, locals := 112 } : Room)
def m_Sn_setting (u : Nat) (p0 : Int32) (M : KMem) : Option Int32 :=
 Option.bind (m_Sn_requireSetting p0) fun _ =>
 Option.bind (rdI M (u + 15) 2 p0) fun x3 =>
 some x3
set_option maxHeartbeats 4000000 in
set_option maxRecDepth 100000 in
theorem b_Sn_setting {X : KX} {B : KB} {L : KLay} {M : KMem} {u : Nat} {p0 : Int32} (G : Good X B RX10 cX10_setting 2 rm_Sn_setting) (hu : okL L u srT) (h : kOk (m_Sn_setting u p0 M) (fun r => RI X B L 2 cX10_setting .int rm_Sn_setting r M)) : KK X B L 2 0 0 M 0 [(0, .ref (B.1 + u)), (1, .int p0)] [] := by
  unfold m_Sn_setting at h
  refine k_iload_n G (dc d_Sn_setting 0 rfl) 1 rfl rfl ?_
  obtain ⟨_, e1, h⟩ := kOk_b h
  refine k_cSV G (dc d_Sn_setting 1 rfl) mi_SR_requireSetting ms_SR_requireSetting ml_RX10_157 (c_Sn_requireSetting (gst G)  e1) rfl rfl ⟨rfl, rfl⟩ rfl ⟨rfl, rfl⟩ ⟨rfl, rfl⟩ ?_
  refine k_aload_n G (dc d_Sn_setting 2 rfl) 0 rfl rfl ?_
  refine k_getR G kc7 (dc d_Sn_setting 3 rfl) (okL_lt hu (o := 0) 0 rfl) (okL_k hu (o := 0) 0 rfl) 1 (by decide) rfl fl_RX10_19 (u + 3) (okL_r hu (o := 0) (c := 3) 0 rfl 1 rfl) ?_
  refine k_getR G kc6 (dc d_Sn_setting 4 rfl) (okL_lt hu (o := 3) 3 rfl) (okL_k hu (o := 3) 3 rfl) 0 (by decide) rfl fl_RX10_59 (u + 4) (okL_r hu (o := 3) (c := 4) 3 rfl 0 rfl) ?_
  refine k_getR G kc5 (dc d_Sn_setting 5 rfl) (okL_lt hu (o := 4) 4 rfl) (okL_k hu (o := 4) 4 rfl) 10 (by decide) rfl fl_RX10_160 (u + 15) (okL_r hu (o := 4) (c := 15) 4 rfl 9 rfl) ?_
  refine k_iload_n G (dc d_Sn_setting 6 rfl) 1 rfl rfl ?_
  obtain ⟨x3, e2, h⟩ := kOk_b h
  refine k_ild G (dc d_Sn_setting 7 rfl) (okL_lt hu (o := 15) 15 rfl) (okL_k hu (o := 15) 15 rfl) (okL_n hu (o := 15) 15 rfl) e2 ?_
  exact (kOk_s h) _ _ _ _ rfl rfl rfl (dc d_Sn_setting 8 rfl)
theorem c_Sn_setting {l : Launch} {B : KB} {L : KLay} {M : KMem} {u : Nat} {p0 : Int32} (hst : l.stackTraces = false) (hu : okL L u srT) {r : Int32} (e : m_Sn_setting u p0 M = some r) : CtrN l B yX10_setting cX10_setting 2 (some .int) rm_Sn_setting [.ref (B.1 + u), .int p0] L M (some (.int r)) L M :=
  mk_I rfl hst rfl (fun X hl G _ R => b_Sn_setting G hu ⟨_, e, R⟩)
def I_Sn_requireSign : List (Nat × Instr × Nat) := [(0, .aload_n 0, 1), (1, .getfield 19, 3), (4, .iload_n 1, 1), (5, .invokevirtual 278, 3), (8, .ifCond .ne 14, 3), (11, .new 281, 3), (14, .dup, 1), (15, .ldc_w 283, 3), (18, .invokespecial 285, 3), (21, .athrow, 1), (22, .return_, 1)]
set_option maxRecDepth 100000 in
theorem d_Sn_requireSign : decA cX10_requireSign I_Sn_requireSign = true := by decide +kernel
abbrev rm_Sn_requireSign : Room := ({ frames := 6, cells := 0, slots := 0, locals := 92 } : Room)
def m_Sn_requireSign (u : Nat) (p0 : Int32) (M : KMem) : Option Unit :=
 Option.bind (m_Tw_hasSign (u + 3) p0 M) fun x2 =>
 if x2 = 0 then
 (none)
 else
 (some ())
set_option maxHeartbeats 4000000 in
set_option maxRecDepth 100000 in
theorem b_Sn_requireSign {X : KX} {B : KB} {L : KLay} {M : KMem} {u : Nat} {p0 : Int32} (G : Good X B RX10 cX10_requireSign 2 rm_Sn_requireSign) (hu : okL L u srT) (h : kOk (m_Sn_requireSign u p0 M) (fun r => RV X B L 2 cX10_requireSign rm_Sn_requireSign M)) : KK X B L 2 0 0 M 0 [(0, .ref (B.1 + u)), (1, .int p0)] [] := by
  unfold m_Sn_requireSign at h
  refine k_aload_n G (dc d_Sn_requireSign 0 rfl) 0 rfl rfl ?_
  refine k_getR G kc7 (dc d_Sn_requireSign 1 rfl) (okL_lt hu (o := 0) 0 rfl) (okL_k hu (o := 0) 0 rfl) 1 (by decide) rfl fl_RX10_19 (u + 3) (okL_r hu (o := 0) (c := 3) 0 rfl 1 rfl) ?_
  refine k_iload_n G (dc d_Sn_requireSign 2 rfl) 1 rfl rfl ?_
  obtain ⟨x2, e1, h⟩ := kOk_b h
  refine k_cVI G (dc d_Sn_requireSign 3 rfl) kc6 (okL_lt hu (o := 3) 3 rfl) (okL_k hu (o := 3) 3 rfl) mi_Tw_hasSign mv_Tw_hasSign rfl ml_RX10_278 (c_Tw_hasSign (gst G) (okL_sub hu 3 (by decide +kernel)) e1) rfl rfl ⟨rfl, rfl⟩ rfl ⟨rfl, rfl⟩ ⟨rfl, rfl⟩ ?_
  refine k_if_ne G (dc d_Sn_requireSign 4 rfl) (tgt := 22) rfl (fun c3 => ?_) (fun c3 => ?_)
  · replace h := kOk_n c3 h
    exact (kOk_s h) _ _ _ _ rfl rfl (dc d_Sn_requireSign 10 rfl)
  · replace h := kOk_p c3 h
    exact (kOk_none h).elim
theorem c_Sn_requireSign {l : Launch} {B : KB} {L : KLay} {M : KMem} {u : Nat} {p0 : Int32} (hst : l.stackTraces = false) (hu : okL L u srT) (e : m_Sn_requireSign u p0 M = some ()) : CtrN l B yX10_requireSign cX10_requireSign 2 none rm_Sn_requireSign [.ref (B.1 + u), .int p0] L M none L M :=
  mk_V rfl hst rfl (fun X hl G _ R => b_Sn_requireSign G hu ⟨_, e, R⟩)
def I_Sn_signOf : List (Nat × Instr × Nat) := [(0, .aload_n 0, 1), (1, .iload_n 1, 1), (2, .invokevirtual 122, 3), (5, .iload_n 2, 1), (6, .ifCond .lt 9, 3), (9, .iload_n 2, 1), (10, .bipush 7, 2), (12, .if_icmp .le 13, 3), (15, .new 33, 3), (18, .dup, 1), (19, .ldc 125, 2), (21, .invokespecial 37, 3), (24, .athrow, 1), (25, .aload_n 0, 1), (26, .getfield 19, 3), (29, .iload_n 1, 1), (30, .iload_n 2, 1), (31, .invokevirtual 127, 3), (34, .ireturn, 1)]
set_option maxRecDepth 100000 in
theorem d_Sn_signOf : decA cX10_signOf I_Sn_signOf = true := by decide +kernel
abbrev rm_Sn_signOf : Room := ({ frames := 7, cells := 0, slots := 0, locals := 137 } : Room)
def m_Sn_signOf (u : Nat) (p0 : Int32) (p1 : Int32) (M : KMem) : Option (Int32 × KMem) :=
 Option.bind (m_Sn_requireSign u p0 M) fun _ =>
 if p1 < 0 then
 (none)
 else
 (if p1 ≤ 7 then
 (Option.bind (m_Tw_numberOfSign (u + 3) p0 p1 M) fun (x5, M6) =>
 some (x5, M6))
 else
 (none))
set_option maxHeartbeats 4000000 in
set_option maxRecDepth 100000 in
theorem b_Sn_signOf {X : KX} {B : KB} {L : KLay} {M : KMem} {u : Nat} {p0 : Int32} {p1 : Int32} (G : Good X B RX10 cX10_signOf 3 rm_Sn_signOf) (hu : okL L u srT) (h : kOk (m_Sn_signOf u p0 p1 M) (fun r => RI X B L 3 cX10_signOf .int rm_Sn_signOf r.1 r.2)) : KK X B L 3 0 0 M 0 [(0, .ref (B.1 + u)), (1, .int p0), (2, .int p1)] [] := by
  unfold m_Sn_signOf at h
  refine k_aload_n G (dc d_Sn_signOf 0 rfl) 0 rfl rfl ?_
  refine k_iload_n G (dc d_Sn_signOf 1 rfl) 1 rfl rfl ?_
  obtain ⟨_, e1, h⟩ := kOk_b h
  refine k_cVV G (dc d_Sn_signOf 2 rfl) kc7 (okL_lt hu (o := 0) 0 rfl) (okL_k hu (o := 0) 0 rfl) mi_SR_requireSign mv_SR_requireSign rfl ml_RX10_122 (c_Sn_requireSign (gst G) hu e1) rfl rfl ⟨rfl, rfl⟩ rfl ⟨rfl, rfl⟩ ⟨rfl, rfl⟩ ?_
  refine k_iload_n G (dc d_Sn_signOf 3 rfl) 2 rfl rfl ?_
  refine k_if_lt G (dc d_Sn_signOf 4 rfl) (tgt := 15) rfl (fun c2 => ?_) (fun c2 => ?_)
  · replace h := kOk_p c2 h
    exact (kOk_none h).elim
  · replace h := kOk_n c2 h
    refine k_iload_n G (dc d_Sn_signOf 5 rfl) 2 rfl rfl ?_
    refine k_bipush G (dc d_Sn_signOf 6 rfl) cB_7 ?_
    refine k_icmp_le G (dc d_Sn_signOf 7 rfl) (tgt := 25) rfl (fun c3 => ?_) (fun c3 => ?_)
    · replace h := kOk_p c3 h
      refine k_aload_n G (dc d_Sn_signOf 13 rfl) 0 rfl rfl ?_
      refine k_getR G kc7 (dc d_Sn_signOf 14 rfl) (okL_lt hu (o := 0) 0 rfl) (okL_k hu (o := 0) 0 rfl) 1 (by decide) rfl fl_RX10_19 (u + 3) (okL_r hu (o := 0) (c := 3) 0 rfl 1 rfl) ?_
      refine k_iload_n G (dc d_Sn_signOf 15 rfl) 1 rfl rfl ?_
      refine k_iload_n G (dc d_Sn_signOf 16 rfl) 2 rfl rfl ?_
      obtain ⟨⟨x5, M6⟩, e4, h⟩ := kOk_b h
      refine k_cVI G (dc d_Sn_signOf 17 rfl) kc6 (okL_lt hu (o := 3) 3 rfl) (okL_k hu (o := 3) 3 rfl) mi_Tw_numberOfSign mv_Tw_numberOfSign rfl ml_RX10_127 (c_Tw_numberOfSign (gst G) (okL_sub hu 3 (by decide +kernel)) e4) rfl rfl ⟨rfl, rfl⟩ rfl ⟨rfl, rfl⟩ ⟨rfl, rfl⟩ ?_
      exact (kOk_s h) _ _ _ _ rfl rfl rfl (dc d_Sn_signOf 18 rfl)
    · replace h := kOk_n c3 h
      exact (kOk_none h).elim
theorem c_Sn_signOf {l : Launch} {B : KB} {L : KLay} {M : KMem} {u : Nat} {p0 : Int32} {p1 : Int32} (hst : l.stackTraces = false) (hu : okL L u srT) {r : Int32} {M' : KMem} (e : m_Sn_signOf u p0 p1 M = some (r, M')) : CtrN l B yX10_signOf cX10_signOf 3 (some .int) rm_Sn_signOf [.ref (B.1 + u), .int p0, .int p1] L M (some (.int r)) L M' :=
  mk_I rfl hst rfl (fun X hl G _ R => b_Sn_signOf G hu ⟨_, e, R⟩)
def I_Sn_requireDecree : List (Nat × Instr × Nat) := [(0, .aload_n 0, 1), (1, .getfield 19, 3), (4, .getfield 59, 3), (7, .getfield 135, 3), (10, .iload_n 1, 1), (11, .invokevirtual 286, 3), (14, .ifCond .ne 14, 3), (17, .new 281, 3), (20, .dup, 1), (21, .ldc_w 289, 3), (24, .invokespecial 285, 3), (27, .athrow, 1), (28, .return_, 1)]
set_option maxRecDepth 100000 in
theorem d_Sn_requireDecree : decA cX10_requireDecree I_Sn_requireDecree = true := by decide +kernel
abbrev rm_Sn_requireDecree : Room := ({ frames := 6, cells := 0, slots := 0, locals := 92 } : Room)
def m_Sn_requireDecree (u : Nat) (p0 : Int32) (M : KMem) : Option Unit :=
 Option.bind (m_De_has (u + 5) p0 M) fun x2 =>
 if x2 = 0 then
 (none)
 else
 (some ())
set_option maxHeartbeats 4000000 in
set_option maxRecDepth 100000 in
theorem b_Sn_requireDecree {X : KX} {B : KB} {L : KLay} {M : KMem} {u : Nat} {p0 : Int32} (G : Good X B RX10 cX10_requireDecree 2 rm_Sn_requireDecree) (hu : okL L u srT) (h : kOk (m_Sn_requireDecree u p0 M) (fun r => RV X B L 2 cX10_requireDecree rm_Sn_requireDecree M)) : KK X B L 2 0 0 M 0 [(0, .ref (B.1 + u)), (1, .int p0)] [] := by
  unfold m_Sn_requireDecree at h
  refine k_aload_n G (dc d_Sn_requireDecree 0 rfl) 0 rfl rfl ?_
  refine k_getR G kc7 (dc d_Sn_requireDecree 1 rfl) (okL_lt hu (o := 0) 0 rfl) (okL_k hu (o := 0) 0 rfl) 1 (by decide) rfl fl_RX10_19 (u + 3) (okL_r hu (o := 0) (c := 3) 0 rfl 1 rfl) ?_
  refine k_getR G kc6 (dc d_Sn_requireDecree 2 rfl) (okL_lt hu (o := 3) 3 rfl) (okL_k hu (o := 3) 3 rfl) 0 (by decide) rfl fl_RX10_59 (u + 4) (okL_r hu (o := 3) (c := 4) 3 rfl 0 rfl) ?_
  refine k_getR G kc5 (dc d_Sn_requireDecree 3 rfl) (okL_lt hu (o := 4) 4 rfl) (okL_k hu (o := 4) 4 rfl) 0 (by decide) rfl fl_RX10_135 (u + 5) (okL_r hu (o := 4) (c := 5) 4 rfl 0 rfl) ?_
  refine k_iload_n G (dc d_Sn_requireDecree 4 rfl) 1 rfl rfl ?_
  obtain ⟨x2, e1, h⟩ := kOk_b h
  refine k_cVI G (dc d_Sn_requireDecree 5 rfl) kc0 (okL_lt hu (o := 5) 5 rfl) (okL_k hu (o := 5) 5 rfl) mi_De_has mv_De_has rfl ml_RX10_286 (c_De_has (gst G) (okL_sub hu 5 (by decide +kernel)) e1) rfl rfl ⟨rfl, rfl⟩ rfl ⟨rfl, rfl⟩ ⟨rfl, rfl⟩ ?_
  refine k_if_ne G (dc d_Sn_requireDecree 6 rfl) (tgt := 28) rfl (fun c3 => ?_) (fun c3 => ?_)
  · replace h := kOk_n c3 h
    exact (kOk_s h) _ _ _ _ rfl rfl (dc d_Sn_requireDecree 12 rfl)
  · replace h := kOk_p c3 h
    exact (kOk_none h).elim
theorem c_Sn_requireDecree {l : Launch} {B : KB} {L : KLay} {M : KMem} {u : Nat} {p0 : Int32} (hst : l.stackTraces = false) (hu : okL L u srT) (e : m_Sn_requireDecree u p0 M = some ()) : CtrN l B yX10_requireDecree cX10_requireDecree 2 none rm_Sn_requireDecree [.ref (B.1 + u), .int p0] L M none L M :=
  mk_V rfl hst rfl (fun X hl G _ R => b_Sn_requireDecree G hu ⟨_, e, R⟩)
def I_Sn_decreeOf : List (Nat × Instr × Nat) := [(0, .aload_n 0, 1), (1, .iload_n 1, 1), (2, .invokevirtual 130, 3), (5, .iload_n 2, 1), (6, .ifCond .lt 8, 3), (9, .iload_n 2, 1), (10, .iconst 4, 1), (11, .if_icmp .le 13, 3), (14, .new 33, 3), (17, .dup, 1), (18, .ldc 133, 2), (20, .invokespecial 37, 3), (23, .athrow, 1), (24, .aload_n 0, 1), (25, .getfield 19, 3), (28, .getfield 59, 3), (31, .getfield 135, 3), (34, .iload_n 1, 1), (35, .iload_n 2, 1), (36, .invokevirtual 139, 3), (39, .ireturn, 1)]
set_option maxRecDepth 100000 in
theorem d_Sn_decreeOf : decA cX10_decreeOf I_Sn_decreeOf = true := by decide +kernel
abbrev rm_Sn_decreeOf : Room := ({ frames := 7, cells := 0, slots := 0, locals := 113 } : Room)
def m_Sn_decreeOf (u : Nat) (p0 : Int32) (p1 : Int32) (M : KMem) : Option Int32 :=
 Option.bind (m_Sn_requireDecree u p0 M) fun _ =>
 if p1 < 0 then
 (none)
 else
 (if p1 ≤ 4 then
 (Option.bind (m_De_number (u + 5) p0 p1 M) fun x5 =>
 some x5)
 else
 (none))
set_option maxHeartbeats 4000000 in
set_option maxRecDepth 100000 in
theorem b_Sn_decreeOf {X : KX} {B : KB} {L : KLay} {M : KMem} {u : Nat} {p0 : Int32} {p1 : Int32} (G : Good X B RX10 cX10_decreeOf 3 rm_Sn_decreeOf) (hu : okL L u srT) (h : kOk (m_Sn_decreeOf u p0 p1 M) (fun r => RI X B L 3 cX10_decreeOf .int rm_Sn_decreeOf r M)) : KK X B L 3 0 0 M 0 [(0, .ref (B.1 + u)), (1, .int p0), (2, .int p1)] [] := by
  unfold m_Sn_decreeOf at h
  refine k_aload_n G (dc d_Sn_decreeOf 0 rfl) 0 rfl rfl ?_
  refine k_iload_n G (dc d_Sn_decreeOf 1 rfl) 1 rfl rfl ?_
  obtain ⟨_, e1, h⟩ := kOk_b h
  refine k_cVV G (dc d_Sn_decreeOf 2 rfl) kc7 (okL_lt hu (o := 0) 0 rfl) (okL_k hu (o := 0) 0 rfl) mi_SR_requireDecree mv_SR_requireDecree rfl ml_RX10_130 (c_Sn_requireDecree (gst G) hu e1) rfl rfl ⟨rfl, rfl⟩ rfl ⟨rfl, rfl⟩ ⟨rfl, rfl⟩ ?_
  refine k_iload_n G (dc d_Sn_decreeOf 3 rfl) 2 rfl rfl ?_
  refine k_if_lt G (dc d_Sn_decreeOf 4 rfl) (tgt := 14) rfl (fun c2 => ?_) (fun c2 => ?_)
  · replace h := kOk_p c2 h
    exact (kOk_none h).elim
  · replace h := kOk_n c2 h
    refine k_iload_n G (dc d_Sn_decreeOf 5 rfl) 2 rfl rfl ?_
    refine k_iconst G (dc d_Sn_decreeOf 6 rfl) cI_4 ?_
    refine k_icmp_le G (dc d_Sn_decreeOf 7 rfl) (tgt := 24) rfl (fun c3 => ?_) (fun c3 => ?_)
    · replace h := kOk_p c3 h
      refine k_aload_n G (dc d_Sn_decreeOf 13 rfl) 0 rfl rfl ?_
      refine k_getR G kc7 (dc d_Sn_decreeOf 14 rfl) (okL_lt hu (o := 0) 0 rfl) (okL_k hu (o := 0) 0 rfl) 1 (by decide) rfl fl_RX10_19 (u + 3) (okL_r hu (o := 0) (c := 3) 0 rfl 1 rfl) ?_
      refine k_getR G kc6 (dc d_Sn_decreeOf 15 rfl) (okL_lt hu (o := 3) 3 rfl) (okL_k hu (o := 3) 3 rfl) 0 (by decide) rfl fl_RX10_59 (u + 4) (okL_r hu (o := 3) (c := 4) 3 rfl 0 rfl) ?_
      refine k_getR G kc5 (dc d_Sn_decreeOf 16 rfl) (okL_lt hu (o := 4) 4 rfl) (okL_k hu (o := 4) 4 rfl) 0 (by decide) rfl fl_RX10_135 (u + 5) (okL_r hu (o := 4) (c := 5) 4 rfl 0 rfl) ?_
      refine k_iload_n G (dc d_Sn_decreeOf 17 rfl) 1 rfl rfl ?_
      refine k_iload_n G (dc d_Sn_decreeOf 18 rfl) 2 rfl rfl ?_
      obtain ⟨x5, e4, h⟩ := kOk_b h
      refine k_cVI G (dc d_Sn_decreeOf 19 rfl) kc0 (okL_lt hu (o := 5) 5 rfl) (okL_k hu (o := 5) 5 rfl) mi_De_number mv_De_number rfl ml_RX10_139 (c_De_number (gst G) (okL_sub hu 5 (by decide +kernel)) e4) rfl rfl ⟨rfl, rfl⟩ rfl ⟨rfl, rfl⟩ ⟨rfl, rfl⟩ ?_
      exact (kOk_s h) _ _ _ _ rfl rfl rfl (dc d_Sn_decreeOf 20 rfl)
    · replace h := kOk_n c3 h
      exact (kOk_none h).elim
theorem c_Sn_decreeOf {l : Launch} {B : KB} {L : KLay} {M : KMem} {u : Nat} {p0 : Int32} {p1 : Int32} (hst : l.stackTraces = false) (hu : okL L u srT) {r : Int32} (e : m_Sn_decreeOf u p0 p1 M = some r) : CtrN l B yX10_decreeOf cX10_decreeOf 3 (some .int) rm_Sn_decreeOf [.ref (B.1 + u), .int p0, .int p1] L M (some (.int r)) L M :=
  mk_I rfl hst rfl (fun X hl G _ R => b_Sn_decreeOf G hu ⟨_, e, R⟩)
def I_Sn_requireGuild : List (Nat × Instr × Nat) := [(0, .iload_n 0, 1), (1, .ifCond .lt 8, 3), (4, .iload_n 0, 1), (5, .iconst 4, 1), (6, .if_icmp .lt 14, 3), (9, .new 281, 3), (12, .dup, 1), (13, .ldc_w 291, 3), (16, .invokespecial 285, 3), (19, .athrow, 1), (20, .return_, 1)]
set_option maxRecDepth 100000 in
theorem d_Sn_requireGuild : decA cX10_requireGuild I_Sn_requireGuild = true := by decide +kernel
abbrev rm_Sn_requireGuild : Room := ({ frames := 6, cells := 0, slots := 0, locals := 92 } : Room)
def m_Sn_requireGuild (p0 : Int32) : Option Unit :=
 if p0 < 0 then
 (none)
 else
 (if p0 < 4 then
 (some ())
 else
 (none))
set_option maxHeartbeats 4000000 in
set_option maxRecDepth 100000 in
theorem b_Sn_requireGuild {X : KX} {B : KB} {L : KLay} {M : KMem} {p0 : Int32} (G : Good X B RX10 cX10_requireGuild 1 rm_Sn_requireGuild)  (h : kOk (m_Sn_requireGuild p0) (fun r => RV X B L 1 cX10_requireGuild rm_Sn_requireGuild M)) : KK X B L 1 0 0 M 0 [(0, .int p0)] [] := by
  unfold m_Sn_requireGuild at h
  refine k_iload_n G (dc d_Sn_requireGuild 0 rfl) 0 rfl rfl ?_
  refine k_if_lt G (dc d_Sn_requireGuild 1 rfl) (tgt := 9) rfl (fun c1 => ?_) (fun c1 => ?_)
  · replace h := kOk_p c1 h
    exact (kOk_none h).elim
  · replace h := kOk_n c1 h
    refine k_iload_n G (dc d_Sn_requireGuild 2 rfl) 0 rfl rfl ?_
    refine k_iconst G (dc d_Sn_requireGuild 3 rfl) cI_4 ?_
    refine k_icmp_lt G (dc d_Sn_requireGuild 4 rfl) (tgt := 20) rfl (fun c2 => ?_) (fun c2 => ?_)
    · replace h := kOk_p c2 h
      exact (kOk_s h) _ _ _ _ rfl rfl (dc d_Sn_requireGuild 10 rfl)
    · replace h := kOk_n c2 h
      exact (kOk_none h).elim
theorem c_Sn_requireGuild {l : Launch} {B : KB} {L : KLay} {M : KMem} {p0 : Int32} (hst : l.stackTraces = false)  (e : m_Sn_requireGuild p0 = some ()) : CtrN l B yX10_requireGuild cX10_requireGuild 1 none rm_Sn_requireGuild [.int p0] L M none L M :=
  mk_V rfl hst rfl (fun X hl G _ R => b_Sn_requireGuild G  ⟨_, e, R⟩)
def I_Sn_guildOf : List (Nat × Instr × Nat) := [(0, .iload_n 1, 1), (1, .invokestatic 143, 3), (4, .iload_n 2, 1), (5, .ifCond .lt 8, 3), (8, .iload_n 2, 1), (9, .iconst 3, 1), (10, .if_icmp .le 13, 3), (13, .new 33, 3), (16, .dup, 1), (17, .ldc 146, 2), (19, .invokespecial 37, 3), (22, .athrow, 1), (23, .aload_n 0, 1), (24, .getfield 19, 3), (27, .iload_n 1, 1), (28, .iload_n 2, 1), (29, .invokevirtual 148, 3), (32, .ireturn, 1)]
set_option maxRecDepth 100000 in
theorem d_Sn_guildOf : decA cX10_guildOf I_Sn_guildOf = true := by decide +kernel
abbrev rm_Sn_guildOf : Room := ({ frames := 7, cells := 0, slots := 0, locals := 112 } : Room)
def m_Sn_guildOf (u : Nat) (p0 : Int32) (p1 : Int32) (M : KMem) : Option Int32 :=
 Option.bind (m_Sn_requireGuild p0) fun _ =>
 if p1 < 0 then
 (none)
 else
 (if p1 ≤ 3 then
 (Option.bind (m_Tw_numberOfGuild (u + 3) p0 p1 M) fun x5 =>
 some x5)
 else
 (none))
set_option maxHeartbeats 4000000 in
set_option maxRecDepth 100000 in
theorem b_Sn_guildOf {X : KX} {B : KB} {L : KLay} {M : KMem} {u : Nat} {p0 : Int32} {p1 : Int32} (G : Good X B RX10 cX10_guildOf 3 rm_Sn_guildOf) (hu : okL L u srT) (h : kOk (m_Sn_guildOf u p0 p1 M) (fun r => RI X B L 3 cX10_guildOf .int rm_Sn_guildOf r M)) : KK X B L 3 0 0 M 0 [(0, .ref (B.1 + u)), (1, .int p0), (2, .int p1)] [] := by
  unfold m_Sn_guildOf at h
  refine k_iload_n G (dc d_Sn_guildOf 0 rfl) 1 rfl rfl ?_
  obtain ⟨_, e1, h⟩ := kOk_b h
  refine k_cSV G (dc d_Sn_guildOf 1 rfl) mi_SR_requireGuild ms_SR_requireGuild ml_RX10_143 (c_Sn_requireGuild (gst G)  e1) rfl rfl ⟨rfl, rfl⟩ rfl ⟨rfl, rfl⟩ ⟨rfl, rfl⟩ ?_
  refine k_iload_n G (dc d_Sn_guildOf 2 rfl) 2 rfl rfl ?_
  refine k_if_lt G (dc d_Sn_guildOf 3 rfl) (tgt := 13) rfl (fun c2 => ?_) (fun c2 => ?_)
  · replace h := kOk_p c2 h
    exact (kOk_none h).elim
  · replace h := kOk_n c2 h
    refine k_iload_n G (dc d_Sn_guildOf 4 rfl) 2 rfl rfl ?_
    refine k_iconst G (dc d_Sn_guildOf 5 rfl) cI_3 ?_
    refine k_icmp_le G (dc d_Sn_guildOf 6 rfl) (tgt := 23) rfl (fun c3 => ?_) (fun c3 => ?_)
    · replace h := kOk_p c3 h
      refine k_aload_n G (dc d_Sn_guildOf 12 rfl) 0 rfl rfl ?_
      refine k_getR G kc7 (dc d_Sn_guildOf 13 rfl) (okL_lt hu (o := 0) 0 rfl) (okL_k hu (o := 0) 0 rfl) 1 (by decide) rfl fl_RX10_19 (u + 3) (okL_r hu (o := 0) (c := 3) 0 rfl 1 rfl) ?_
      refine k_iload_n G (dc d_Sn_guildOf 14 rfl) 1 rfl rfl ?_
      refine k_iload_n G (dc d_Sn_guildOf 15 rfl) 2 rfl rfl ?_
      obtain ⟨x5, e4, h⟩ := kOk_b h
      refine k_cVI G (dc d_Sn_guildOf 16 rfl) kc6 (okL_lt hu (o := 3) 3 rfl) (okL_k hu (o := 3) 3 rfl) mi_Tw_numberOfGuild mv_Tw_numberOfGuild rfl ml_RX10_148 (c_Tw_numberOfGuild (gst G) (okL_sub hu 3 (by decide +kernel)) e4) rfl rfl ⟨rfl, rfl⟩ rfl ⟨rfl, rfl⟩ ⟨rfl, rfl⟩ ?_
      exact (kOk_s h) _ _ _ _ rfl rfl rfl (dc d_Sn_guildOf 17 rfl)
    · replace h := kOk_n c3 h
      exact (kOk_none h).elim
theorem c_Sn_guildOf {l : Launch} {B : KB} {L : KLay} {M : KMem} {u : Nat} {p0 : Int32} {p1 : Int32} (hst : l.stackTraces = false) (hu : okL L u srT) {r : Int32} (e : m_Sn_guildOf u p0 p1 M = some r) : CtrN l B yX10_guildOf cX10_guildOf 3 (some .int) rm_Sn_guildOf [.ref (B.1 + u), .int p0, .int p1] L M (some (.int r)) L M :=
  mk_I rfl hst rfl (fun X hl G _ R => b_Sn_guildOf G hu ⟨_, e, R⟩)
def I_Sn_right : List (Nat × Instr × Nat) := [(0, .aload_n 0, 1), (1, .iload_n 1, 1), (2, .invokevirtual 122, 3), (5, .iload_n 2, 1), (6, .ifCond .eq 18, 3), (9, .iload_n 2, 1), (10, .iconst 1, 1), (11, .if_icmp .eq 13, 3), (14, .new 33, 3), (17, .dup, 1), (18, .ldc 151, 2), (20, .invokespecial 37, 3), (23, .athrow, 1), (24, .aload_n 0, 1), (25, .getfield 19, 3), (28, .iload_n 1, 1), (29, .iload_n 2, 1), (30, .iconst 1, 1), (31, .if_icmp .ne 7, 3), (34, .iconst 1, 1), (35, .goto 4, 3), (38, .iconst 0, 1), (39, .invokevirtual 153, 3), (42, .ireturn, 1)]
set_option maxRecDepth 100000 in
theorem d_Sn_right : decA cX10_right I_Sn_right = true := by decide +kernel
abbrev rm_Sn_right : Room := ({ frames := 7, cells := 0, slots := 0, locals := 168 } : Room)
def m_Sn_right (u : Nat) (p0 : Int32) (p1 : Int32) (M : KMem) : Option (Int32 × KMem) :=
 Option.bind (m_Sn_requireSign u p0 M) fun _ =>
 if p1 = 0 then
 (Option.bind (α := Int32) (if p1 = 1 then
 (some 1)
 else
 (some 0)) fun t3 =>
 Option.bind (m_Tw_spelled (u + 3) p0 t3 M) fun (x6, M7) =>
 some (x6, M7))
 else
 (if p1 = 1 then
 (Option.bind (α := Int32) (if p1 = 1 then
 (some 1)
 else
 (some 0)) fun t10 =>
 Option.bind (m_Tw_spelled (u + 3) p0 t10 M) fun (x13, M14) =>
 some (x13, M14))
 else
 (none))
set_option maxHeartbeats 4000000 in
set_option maxRecDepth 100000 in
theorem b_Sn_right {X : KX} {B : KB} {L : KLay} {M : KMem} {u : Nat} {p0 : Int32} {p1 : Int32} (G : Good X B RX10 cX10_right 3 rm_Sn_right) (hu : okL L u srT) (h : kOk (m_Sn_right u p0 p1 M) (fun r => RI X B L 3 cX10_right .int rm_Sn_right r.1 r.2)) : KK X B L 3 0 0 M 0 [(0, .ref (B.1 + u)), (1, .int p0), (2, .int p1)] [] := by
  unfold m_Sn_right at h
  refine k_aload_n G (dc d_Sn_right 0 rfl) 0 rfl rfl ?_
  refine k_iload_n G (dc d_Sn_right 1 rfl) 1 rfl rfl ?_
  obtain ⟨_, e1, h⟩ := kOk_b h
  refine k_cVV G (dc d_Sn_right 2 rfl) kc7 (okL_lt hu (o := 0) 0 rfl) (okL_k hu (o := 0) 0 rfl) mi_SR_requireSign mv_SR_requireSign rfl ml_RX10_122 (c_Sn_requireSign (gst G) hu e1) rfl rfl ⟨rfl, rfl⟩ rfl ⟨rfl, rfl⟩ ⟨rfl, rfl⟩ ?_
  refine k_iload_n G (dc d_Sn_right 3 rfl) 2 rfl rfl ?_
  refine k_if_eq G (dc d_Sn_right 4 rfl) (tgt := 24) rfl (fun c2 => ?_) (fun c2 => ?_)
  · replace h := kOk_p c2 h
    refine k_aload_n G (dc d_Sn_right 13 rfl) 0 rfl rfl ?_
    refine k_getR G kc7 (dc d_Sn_right 14 rfl) (okL_lt hu (o := 0) 0 rfl) (okL_k hu (o := 0) 0 rfl) 1 (by decide) rfl fl_RX10_19 (u + 3) (okL_r hu (o := 0) (c := 3) 0 rfl 1 rfl) ?_
    refine k_iload_n G (dc d_Sn_right 15 rfl) 1 rfl rfl ?_
    refine k_iload_n G (dc d_Sn_right 16 rfl) 2 rfl rfl ?_
    refine k_iconst G (dc d_Sn_right 17 rfl) cI_1 ?_
    refine kJ h (fun r4 => KK X B L 3 0 0 M 39 [] [.int r4, .int p0, .ref (B.1 + (u + 3))]) (fun r4 h => ?_) (fun h => ?_)
    · obtain ⟨t3, rfl⟩ : ∃ z, z = r4 := ⟨_, rfl⟩
      show KK X B L 3 0 0 M 39 [] [.int t3, .int p0, .ref (B.1 + (u + 3))]
      obtain ⟨⟨x6, M7⟩, e5, h⟩ := kOk_b h
      refine k_cVI G (dc d_Sn_right 22 rfl) kc6 (okL_lt hu (o := 3) 3 rfl) (okL_k hu (o := 3) 3 rfl) mi_Tw_spelled mv_Tw_spelled rfl ml_RX10_153 (c_Tw_spelled (gst G) (okL_sub hu 3 (by decide +kernel)) e5) rfl rfl ⟨rfl, rfl⟩ rfl ⟨rfl, rfl⟩ ⟨rfl, rfl⟩ ?_
      exact (kOk_s h) _ _ _ _ rfl rfl rfl (dc d_Sn_right 23 rfl)
    · refine k_icmp_ne G (dc d_Sn_right 18 rfl) (tgt := 38) rfl (fun c8 => ?_) (fun c8 => ?_)
      · replace h := kOk_n c8 h
        refine k_iconst G (dc d_Sn_right 21 rfl) cI_0 ?_
        refine k_sub [] rfl ?_
        have h9 := kOk_s h
        exact h9
      · replace h := kOk_p c8 h
        refine k_iconst G (dc d_Sn_right 19 rfl) cI_1 ?_
        refine k_goto G (dc d_Sn_right 20 rfl) (tgt := 39) rfl ?_
        refine k_sub [] rfl ?_
        have h9 := kOk_s h
        exact h9
  · replace h := kOk_n c2 h
    refine k_iload_n G (dc d_Sn_right 5 rfl) 2 rfl rfl ?_
    refine k_iconst G (dc d_Sn_right 6 rfl) cI_1 ?_
    refine k_icmp_eq G (dc d_Sn_right 7 rfl) (tgt := 24) rfl (fun c9 => ?_) (fun c9 => ?_)
    · replace h := kOk_p c9 h
      refine k_aload_n G (dc d_Sn_right 13 rfl) 0 rfl rfl ?_
      refine k_getR G kc7 (dc d_Sn_right 14 rfl) (okL_lt hu (o := 0) 0 rfl) (okL_k hu (o := 0) 0 rfl) 1 (by decide) rfl fl_RX10_19 (u + 3) (okL_r hu (o := 0) (c := 3) 0 rfl 1 rfl) ?_
      refine k_iload_n G (dc d_Sn_right 15 rfl) 1 rfl rfl ?_
      refine k_iload_n G (dc d_Sn_right 16 rfl) 2 rfl rfl ?_
      refine k_iconst G (dc d_Sn_right 17 rfl) cI_1 ?_
      refine kJ h (fun r11 => KK X B L 3 0 0 M 39 [] [.int r11, .int p0, .ref (B.1 + (u + 3))]) (fun r11 h => ?_) (fun h => ?_)
      · obtain ⟨t10, rfl⟩ : ∃ z, z = r11 := ⟨_, rfl⟩
        show KK X B L 3 0 0 M 39 [] [.int t10, .int p0, .ref (B.1 + (u + 3))]
        obtain ⟨⟨x13, M14⟩, e12, h⟩ := kOk_b h
        refine k_cVI G (dc d_Sn_right 22 rfl) kc6 (okL_lt hu (o := 3) 3 rfl) (okL_k hu (o := 3) 3 rfl) mi_Tw_spelled mv_Tw_spelled rfl ml_RX10_153 (c_Tw_spelled (gst G) (okL_sub hu 3 (by decide +kernel)) e12) rfl rfl ⟨rfl, rfl⟩ rfl ⟨rfl, rfl⟩ ⟨rfl, rfl⟩ ?_
        exact (kOk_s h) _ _ _ _ rfl rfl rfl (dc d_Sn_right 23 rfl)
      · refine k_icmp_ne G (dc d_Sn_right 18 rfl) (tgt := 38) rfl (fun c15 => ?_) (fun c15 => ?_)
        · replace h := kOk_n c15 h
          refine k_iconst G (dc d_Sn_right 21 rfl) cI_0 ?_
          refine k_sub [] rfl ?_
          have h9 := kOk_s h
          exact h9
        · replace h := kOk_p c15 h
          refine k_iconst G (dc d_Sn_right 19 rfl) cI_1 ?_
          refine k_goto G (dc d_Sn_right 20 rfl) (tgt := 39) rfl ?_
          refine k_sub [] rfl ?_
          have h9 := kOk_s h
          exact h9
    · replace h := kOk_n c9 h
      exact (kOk_none h).elim
theorem c_Sn_right {l : Launch} {B : KB} {L : KLay} {M : KMem} {u : Nat} {p0 : Int32} {p1 : Int32} (hst : l.stackTraces = false) (hu : okL L u srT) {r : Int32} {M' : KMem} (e : m_Sn_right u p0 p1 M = some (r, M')) : CtrN l B yX10_right cX10_right 3 (some .int) rm_Sn_right [.ref (B.1 + u), .int p0, .int p1] L M (some (.int r)) L M' :=
  mk_I rfl hst rfl (fun X hl G _ R => b_Sn_right G hu ⟨_, e, R⟩)
def I_Sn_apart : List (Nat × Instr × Nat) := [(0, .aload_n 0, 1), (1, .iload_n 1, 1), (2, .invokevirtual 122, 3), (5, .aload_n 0, 1), (6, .iload_n 2, 1), (7, .invokevirtual 122, 3), (10, .aload_n 0, 1), (11, .getfield 19, 3), (14, .iload_n 1, 1), (15, .iload_n 2, 1), (16, .invokevirtual 213, 3), (19, .ireturn, 1)]
set_option maxRecDepth 100000 in
theorem d_Sn_apart : decA cX10_apart I_Sn_apart = true := by decide +kernel
abbrev rm_Sn_apart : Room := ({ frames := 7, cells := 0, slots := 0, locals := 113 } : Room)
def m_Sn_apart (u : Nat) (p0 : Int32) (p1 : Int32) (M : KMem) : Option (Int32 × KMem) :=
 Option.bind (m_Sn_requireSign u p0 M) fun _ =>
 Option.bind (m_Sn_requireSign u p1 M) fun _ =>
 Option.bind (m_Tw_spellingsApart (u + 3) p0 p1 M) fun (x4, M5) =>
 some (x4, M5)
set_option maxHeartbeats 4000000 in
set_option maxRecDepth 100000 in
theorem b_Sn_apart {X : KX} {B : KB} {L : KLay} {M : KMem} {u : Nat} {p0 : Int32} {p1 : Int32} (G : Good X B RX10 cX10_apart 3 rm_Sn_apart) (hu : okL L u srT) (h : kOk (m_Sn_apart u p0 p1 M) (fun r => RI X B L 3 cX10_apart .int rm_Sn_apart r.1 r.2)) : KK X B L 3 0 0 M 0 [(0, .ref (B.1 + u)), (1, .int p0), (2, .int p1)] [] := by
  unfold m_Sn_apart at h
  refine k_aload_n G (dc d_Sn_apart 0 rfl) 0 rfl rfl ?_
  refine k_iload_n G (dc d_Sn_apart 1 rfl) 1 rfl rfl ?_
  obtain ⟨_, e1, h⟩ := kOk_b h
  refine k_cVV G (dc d_Sn_apart 2 rfl) kc7 (okL_lt hu (o := 0) 0 rfl) (okL_k hu (o := 0) 0 rfl) mi_SR_requireSign mv_SR_requireSign rfl ml_RX10_122 (c_Sn_requireSign (gst G) hu e1) rfl rfl ⟨rfl, rfl⟩ rfl ⟨rfl, rfl⟩ ⟨rfl, rfl⟩ ?_
  refine k_aload_n G (dc d_Sn_apart 3 rfl) 0 rfl rfl ?_
  refine k_iload_n G (dc d_Sn_apart 4 rfl) 2 rfl rfl ?_
  obtain ⟨_, e2, h⟩ := kOk_b h
  refine k_cVV G (dc d_Sn_apart 5 rfl) kc7 (okL_lt hu (o := 0) 0 rfl) (okL_k hu (o := 0) 0 rfl) mi_SR_requireSign mv_SR_requireSign rfl ml_RX10_122 (c_Sn_requireSign (gst G) hu e2) rfl rfl ⟨rfl, rfl⟩ rfl ⟨rfl, rfl⟩ ⟨rfl, rfl⟩ ?_
  refine k_aload_n G (dc d_Sn_apart 6 rfl) 0 rfl rfl ?_
  refine k_getR G kc7 (dc d_Sn_apart 7 rfl) (okL_lt hu (o := 0) 0 rfl) (okL_k hu (o := 0) 0 rfl) 1 (by decide) rfl fl_RX10_19 (u + 3) (okL_r hu (o := 0) (c := 3) 0 rfl 1 rfl) ?_
  refine k_iload_n G (dc d_Sn_apart 8 rfl) 1 rfl rfl ?_
  refine k_iload_n G (dc d_Sn_apart 9 rfl) 2 rfl rfl ?_
  obtain ⟨⟨x4, M5⟩, e3, h⟩ := kOk_b h
  refine k_cVI G (dc d_Sn_apart 10 rfl) kc6 (okL_lt hu (o := 3) 3 rfl) (okL_k hu (o := 3) 3 rfl) mi_Tw_spellingsApart mv_Tw_spellingsApart rfl ml_RX10_213 (c_Tw_spellingsApart (gst G) (okL_sub hu 3 (by decide +kernel)) e3) rfl rfl ⟨rfl, rfl⟩ rfl ⟨rfl, rfl⟩ ⟨rfl, rfl⟩ ?_
  exact (kOk_s h) _ _ _ _ rfl rfl rfl (dc d_Sn_apart 11 rfl)
theorem c_Sn_apart {l : Launch} {B : KB} {L : KLay} {M : KMem} {u : Nat} {p0 : Int32} {p1 : Int32} (hst : l.stackTraces = false) (hu : okL L u srT) {r : Int32} {M' : KMem} (e : m_Sn_apart u p0 p1 M = some (r, M')) : CtrN l B yX10_apart cX10_apart 3 (some .int) rm_Sn_apart [.ref (B.1 + u), .int p0, .int p1] L M (some (.int r)) L M' :=
  mk_I rfl hst rfl (fun X hl G _ R => b_Sn_apart G hu ⟨_, e, R⟩)
def I_Sn_payable : List (Nat × Instr × Nat) := [(0, .iload_n 1, 1), (1, .ifCond .lt 10, 3), (4, .iload_n 1, 1), (5, .sipush 999, 3), (8, .if_icmp .le 13, 3), (11, .new 33, 3), (14, .dup, 1), (15, .ldc 216, 2), (17, .invokespecial 37, 3), (20, .athrow, 1), (21, .aload_n 0, 1), (22, .getfield 19, 3), (25, .iload_n 1, 1), (26, .invokevirtual 218, 3), (29, .ireturn, 1)]
set_option maxRecDepth 100000 in
theorem d_Sn_payable : decA cX10_payable I_Sn_payable = true := by decide +kernel
abbrev rm_Sn_payable : Room := ({ frames := 6, cells := 0, slots := 0, locals := 120 } : Room)
def m_Sn_payable (u : Nat) (p0 : Int32) (M : KMem) : Option (Int32 × KMem) :=
 if p0 < 0 then
 (none)
 else
 (if p0 ≤ 999 then
 (Option.bind (m_Tw_signsPaidBy (u + 3) p0 M) fun (x4, M5) =>
 some (x4, M5))
 else
 (none))
set_option maxHeartbeats 4000000 in
set_option maxRecDepth 100000 in
theorem b_Sn_payable {X : KX} {B : KB} {L : KLay} {M : KMem} {u : Nat} {p0 : Int32} (G : Good X B RX10 cX10_payable 2 rm_Sn_payable) (hu : okL L u srT) (h : kOk (m_Sn_payable u p0 M) (fun r => RI X B L 2 cX10_payable .int rm_Sn_payable r.1 r.2)) : KK X B L 2 0 0 M 0 [(0, .ref (B.1 + u)), (1, .int p0)] [] := by
  unfold m_Sn_payable at h
  refine k_iload_n G (dc d_Sn_payable 0 rfl) 1 rfl rfl ?_
  refine k_if_lt G (dc d_Sn_payable 1 rfl) (tgt := 11) rfl (fun c1 => ?_) (fun c1 => ?_)
  · replace h := kOk_p c1 h
    exact (kOk_none h).elim
  · replace h := kOk_n c1 h
    refine k_iload_n G (dc d_Sn_payable 2 rfl) 1 rfl rfl ?_
    refine k_sipush G (dc d_Sn_payable 3 rfl) cS_999 ?_
    refine k_icmp_le G (dc d_Sn_payable 4 rfl) (tgt := 21) rfl (fun c2 => ?_) (fun c2 => ?_)
    · replace h := kOk_p c2 h
      refine k_aload_n G (dc d_Sn_payable 10 rfl) 0 rfl rfl ?_
      refine k_getR G kc7 (dc d_Sn_payable 11 rfl) (okL_lt hu (o := 0) 0 rfl) (okL_k hu (o := 0) 0 rfl) 1 (by decide) rfl fl_RX10_19 (u + 3) (okL_r hu (o := 0) (c := 3) 0 rfl 1 rfl) ?_
      refine k_iload_n G (dc d_Sn_payable 12 rfl) 1 rfl rfl ?_
      obtain ⟨⟨x4, M5⟩, e3, h⟩ := kOk_b h
      refine k_cVI G (dc d_Sn_payable 13 rfl) kc6 (okL_lt hu (o := 3) 3 rfl) (okL_k hu (o := 3) 3 rfl) mi_Tw_signsPaidBy mv_Tw_signsPaidBy rfl ml_RX10_218 (c_Tw_signsPaidBy (gst G) (okL_sub hu 3 (by decide +kernel)) e3) rfl rfl ⟨rfl, rfl⟩ rfl ⟨rfl, rfl⟩ ⟨rfl, rfl⟩ ?_
      exact (kOk_s h) _ _ _ _ rfl rfl rfl (dc d_Sn_payable 14 rfl)
    · replace h := kOk_n c2 h
      exact (kOk_none h).elim
theorem c_Sn_payable {l : Launch} {B : KB} {L : KLay} {M : KMem} {u : Nat} {p0 : Int32} (hst : l.stackTraces = false) (hu : okL L u srT) {r : Int32} {M' : KMem} (e : m_Sn_payable u p0 M = some (r, M')) : CtrN l B yX10_payable cX10_payable 2 (some .int) rm_Sn_payable [.ref (B.1 + u), .int p0] L M (some (.int r)) L M' :=
  mk_I rfl hst rfl (fun X hl G _ R => b_Sn_payable G hu ⟨_, e, R⟩)
def I_Sn_requireDecreeArguments : List (Nat × Instr × Nat) := [(0, .iload_n 0, 1), (1, .iload_n 1, 1), (2, .iload_n 2, 1), (3, .iload_n 3, 1), (4, .invokestatic 297, 3), (7, .ifCond .ne 14, 3), (10, .new 33, 3), (13, .dup, 1), (14, .ldc_w 289, 3), (17, .invokespecial 37, 3), (20, .athrow, 1), (21, .return_, 1)]
set_option maxRecDepth 100000 in
theorem d_Sn_requireDecreeArguments : decA cX10_requireDecreeArguments I_Sn_requireDecreeArguments = true := by decide +kernel
abbrev rm_Sn_requireDecreeArguments : Room := ({ frames := 6, cells := 0, slots := 0, locals := 92 } : Room)
def m_Sn_requireDecreeArguments (p0 : Int32) (p1 : Int32) (p2 : Int32) (p3 : Int32) : Option Unit :=
 Option.bind (m_De_canBe p0 p1 p2 p3) fun x2 =>
 if x2 = 0 then
 (none)
 else
 (some ())
set_option maxHeartbeats 4000000 in
set_option maxRecDepth 100000 in
theorem b_Sn_requireDecreeArguments {X : KX} {B : KB} {L : KLay} {M : KMem} {p0 : Int32} {p1 : Int32} {p2 : Int32} {p3 : Int32} (G : Good X B RX10 cX10_requireDecreeArguments 4 rm_Sn_requireDecreeArguments)  (h : kOk (m_Sn_requireDecreeArguments p0 p1 p2 p3) (fun r => RV X B L 4 cX10_requireDecreeArguments rm_Sn_requireDecreeArguments M)) : KK X B L 4 0 0 M 0 [(0, .int p0), (1, .int p1), (2, .int p2), (3, .int p3)] [] := by
  unfold m_Sn_requireDecreeArguments at h
  refine k_iload_n G (dc d_Sn_requireDecreeArguments 0 rfl) 0 rfl rfl ?_
  refine k_iload_n G (dc d_Sn_requireDecreeArguments 1 rfl) 1 rfl rfl ?_
  refine k_iload_n G (dc d_Sn_requireDecreeArguments 2 rfl) 2 rfl rfl ?_
  refine k_iload_n G (dc d_Sn_requireDecreeArguments 3 rfl) 3 rfl rfl ?_
  obtain ⟨x2, e1, h⟩ := kOk_b h
  refine k_cSI G (dc d_Sn_requireDecreeArguments 4 rfl) mi_De_canBe ms_De_canBe ml_RX10_297 (c_De_canBe (gst G)  e1) rfl rfl ⟨rfl, rfl⟩ rfl ⟨rfl, rfl⟩ ⟨rfl, rfl⟩ ?_
  refine k_if_ne G (dc d_Sn_requireDecreeArguments 5 rfl) (tgt := 21) rfl (fun c3 => ?_) (fun c3 => ?_)
  · replace h := kOk_n c3 h
    exact (kOk_s h) _ _ _ _ rfl rfl (dc d_Sn_requireDecreeArguments 11 rfl)
  · replace h := kOk_p c3 h
    exact (kOk_none h).elim
theorem c_Sn_requireDecreeArguments {l : Launch} {B : KB} {L : KLay} {M : KMem} {p0 : Int32} {p1 : Int32} {p2 : Int32} {p3 : Int32} (hst : l.stackTraces = false)  (e : m_Sn_requireDecreeArguments p0 p1 p2 p3 = some ()) : CtrN l B yX10_requireDecreeArguments cX10_requireDecreeArguments 4 none rm_Sn_requireDecreeArguments [.int p0, .int p1, .int p2, .int p3] L M none L M :=
  mk_V rfl hst rfl (fun X hl G _ R => b_Sn_requireDecreeArguments G  ⟨_, e, R⟩)
def I_Sn_why : List (Nat × Instr × Nat) := [(0, .iload_n 1, 1), (1, .iload_n 2, 1), (2, .iload_n 3, 1), (3, .iload 4, 2), (5, .invokestatic 184, 3), (8, .aload_n 0, 1), (9, .getfield 19, 3), (12, .iload_n 1, 1), (13, .iload_n 2, 1), (14, .iload_n 3, 1), (15, .iload 4, 2), (17, .invokevirtual 210, 3), (20, .ireturn, 1)]
set_option maxRecDepth 100000 in
theorem d_Sn_why : decA cX10_why I_Sn_why = true := by decide +kernel
abbrev rm_Sn_why : Room := ({ frames := 7, cells := 0, slots := 0, locals := 115 } : Room)
def m_Sn_why (u : Nat) (p0 : Int32) (p1 : Int32) (p2 : Int32) (p3 : Int32) (M : KMem) : Option (Int32 × KMem) :=
 Option.bind (m_Sn_requireDecreeArguments p0 p1 p2 p3) fun _ =>
 Option.bind (m_Tw_reasonAgainstDecree (u + 3) p0 p1 p2 p3 M) fun (x3, M4) =>
 some (x3, M4)
set_option maxHeartbeats 4000000 in
set_option maxRecDepth 100000 in
theorem b_Sn_why {X : KX} {B : KB} {L : KLay} {M : KMem} {u : Nat} {p0 : Int32} {p1 : Int32} {p2 : Int32} {p3 : Int32} (G : Good X B RX10 cX10_why 5 rm_Sn_why) (hu : okL L u srT) (h : kOk (m_Sn_why u p0 p1 p2 p3 M) (fun r => RI X B L 5 cX10_why .int rm_Sn_why r.1 r.2)) : KK X B L 5 0 0 M 0 [(0, .ref (B.1 + u)), (1, .int p0), (2, .int p1), (3, .int p2), (4, .int p3)] [] := by
  unfold m_Sn_why at h
  refine k_iload_n G (dc d_Sn_why 0 rfl) 1 rfl rfl ?_
  refine k_iload_n G (dc d_Sn_why 1 rfl) 2 rfl rfl ?_
  refine k_iload_n G (dc d_Sn_why 2 rfl) 3 rfl rfl ?_
  refine k_iload G (dc d_Sn_why 3 rfl) 4 rfl ?_
  obtain ⟨_, e1, h⟩ := kOk_b h
  refine k_cSV G (dc d_Sn_why 4 rfl) mi_SR_requireDecreeArguments ms_SR_requireDecreeArguments ml_RX10_184 (c_Sn_requireDecreeArguments (gst G)  e1) rfl rfl ⟨rfl, rfl⟩ rfl ⟨rfl, rfl⟩ ⟨rfl, rfl⟩ ?_
  refine k_aload_n G (dc d_Sn_why 5 rfl) 0 rfl rfl ?_
  refine k_getR G kc7 (dc d_Sn_why 6 rfl) (okL_lt hu (o := 0) 0 rfl) (okL_k hu (o := 0) 0 rfl) 1 (by decide) rfl fl_RX10_19 (u + 3) (okL_r hu (o := 0) (c := 3) 0 rfl 1 rfl) ?_
  refine k_iload_n G (dc d_Sn_why 7 rfl) 1 rfl rfl ?_
  refine k_iload_n G (dc d_Sn_why 8 rfl) 2 rfl rfl ?_
  refine k_iload_n G (dc d_Sn_why 9 rfl) 3 rfl rfl ?_
  refine k_iload G (dc d_Sn_why 10 rfl) 4 rfl ?_
  obtain ⟨⟨x3, M4⟩, e2, h⟩ := kOk_b h
  refine k_cVI G (dc d_Sn_why 11 rfl) kc6 (okL_lt hu (o := 3) 3 rfl) (okL_k hu (o := 3) 3 rfl) mi_Tw_reasonAgainstDecree mv_Tw_reasonAgainstDecree rfl ml_RX10_210 (c_Tw_reasonAgainstDecree (gst G) (okL_sub hu 3 (by decide +kernel)) e2) rfl rfl ⟨rfl, rfl⟩ rfl ⟨rfl, rfl⟩ ⟨rfl, rfl⟩ ?_
  exact (kOk_s h) _ _ _ _ rfl rfl rfl (dc d_Sn_why 12 rfl)
theorem c_Sn_why {l : Launch} {B : KB} {L : KLay} {M : KMem} {u : Nat} {p0 : Int32} {p1 : Int32} {p2 : Int32} {p3 : Int32} (hst : l.stackTraces = false) (hu : okL L u srT) {r : Int32} {M' : KMem} (e : m_Sn_why u p0 p1 p2 p3 M = some (r, M')) : CtrN l B yX10_why cX10_why 5 (some .int) rm_Sn_why [.ref (B.1 + u), .int p0, .int p1, .int p2, .int p3] L M (some (.int r)) L M' :=
  mk_I rfl hst rfl (fun X hl G _ R => b_Sn_why G hu ⟨_, e, R⟩)
def I_Sn_worthIn : List (Nat × Instr × Nat) := [(0, .aload_n 0, 1), (1, .iload_n 1, 1), (2, .invokevirtual 122, 3), (5, .aload_n 0, 1), (6, .getfield 19, 3), (9, .iload_n 1, 1), (10, .invokevirtual 221, 3), (13, .ireturn, 1)]
set_option maxRecDepth 100000 in
theorem d_Sn_worthIn : decA cX10_worthIn I_Sn_worthIn = true := by decide +kernel
abbrev rm_Sn_worthIn : Room := ({ frames := 7, cells := 0, slots := 0, locals := 139 } : Room)
def m_Sn_worthIn (u : Nat) (p0 : Int32) (M : KMem) : Option (Int32 × KMem) :=
 Option.bind (m_Sn_requireSign u p0 M) fun _ =>
 Option.bind (m_Tw_monthsTillFinesAreMore (u + 3) p0 M) fun (x3, M4) =>
 some (x3, M4)
set_option maxHeartbeats 4000000 in
set_option maxRecDepth 100000 in
theorem b_Sn_worthIn {X : KX} {B : KB} {L : KLay} {M : KMem} {u : Nat} {p0 : Int32} (G : Good X B RX10 cX10_worthIn 2 rm_Sn_worthIn) (hu : okL L u srT) (h : kOk (m_Sn_worthIn u p0 M) (fun r => RI X B L 2 cX10_worthIn .int rm_Sn_worthIn r.1 r.2)) : KK X B L 2 0 0 M 0 [(0, .ref (B.1 + u)), (1, .int p0)] [] := by
  unfold m_Sn_worthIn at h
  refine k_aload_n G (dc d_Sn_worthIn 0 rfl) 0 rfl rfl ?_
  refine k_iload_n G (dc d_Sn_worthIn 1 rfl) 1 rfl rfl ?_
  obtain ⟨_, e1, h⟩ := kOk_b h
  refine k_cVV G (dc d_Sn_worthIn 2 rfl) kc7 (okL_lt hu (o := 0) 0 rfl) (okL_k hu (o := 0) 0 rfl) mi_SR_requireSign mv_SR_requireSign rfl ml_RX10_122 (c_Sn_requireSign (gst G) hu e1) rfl rfl ⟨rfl, rfl⟩ rfl ⟨rfl, rfl⟩ ⟨rfl, rfl⟩ ?_
  refine k_aload_n G (dc d_Sn_worthIn 3 rfl) 0 rfl rfl ?_
  refine k_getR G kc7 (dc d_Sn_worthIn 4 rfl) (okL_lt hu (o := 0) 0 rfl) (okL_k hu (o := 0) 0 rfl) 1 (by decide) rfl fl_RX10_19 (u + 3) (okL_r hu (o := 0) (c := 3) 0 rfl 1 rfl) ?_
  refine k_iload_n G (dc d_Sn_worthIn 5 rfl) 1 rfl rfl ?_
  obtain ⟨⟨x3, M4⟩, e2, h⟩ := kOk_b h
  refine k_cVI G (dc d_Sn_worthIn 6 rfl) kc6 (okL_lt hu (o := 3) 3 rfl) (okL_k hu (o := 3) 3 rfl) mi_Tw_monthsTillFinesAreMore mv_Tw_monthsTillFinesAreMore rfl ml_RX10_221 (c_Tw_monthsTillFinesAreMore (gst G) (okL_sub hu 3 (by decide +kernel)) e2) rfl rfl ⟨rfl, rfl⟩ rfl ⟨rfl, rfl⟩ ⟨rfl, rfl⟩ ?_
  exact (kOk_s h) _ _ _ _ rfl rfl rfl (dc d_Sn_worthIn 7 rfl)
theorem c_Sn_worthIn {l : Launch} {B : KB} {L : KLay} {M : KMem} {u : Nat} {p0 : Int32} (hst : l.stackTraces = false) (hu : okL L u srT) {r : Int32} {M' : KMem} (e : m_Sn_worthIn u p0 M = some (r, M')) : CtrN l B yX10_worthIn cX10_worthIn 2 (some .int) rm_Sn_worthIn [.ref (B.1 + u), .int p0] L M (some (.int r)) L M' :=
  mk_I rfl hst rfl (fun X hl G _ R => b_Sn_worthIn G hu ⟨_, e, R⟩)
def I_Sn_months : List (Nat × Instr × Nat) := [(0, .iload_n 1, 1), (1, .iconst 1, 1), (2, .if_icmp .lt 9, 3), (5, .iload_n 1, 1), (6, .bipush 60, 2), (8, .if_icmp .le 13, 3), (11, .new 33, 3), (14, .dup, 1), (15, .ldc 193, 2), (17, .invokespecial 37, 3), (20, .athrow, 1), (21, .aload_n 0, 1), (22, .getfield 29, 3), (25, .aload_n 0, 1), (26, .getfield 19, 3), (29, .getfield 59, 3), (32, .invokevirtual 177, 3), (35, .aload_n 0, 1), (36, .getfield 19, 3), (39, .iload_n 1, 1), (40, .invokevirtual 111, 3), (43, .ireturn, 1)]
set_option maxRecDepth 100000 in
theorem d_Sn_months : decA cX10_months I_Sn_months = true := by decide +kernel
abbrev rm_Sn_months : Room := ({ frames := 6, cells := 0, slots := 0, locals := 124 } : Room)
def m_Sn_months (u : Nat) (p0 : Int32) (M : KMem) : Option (Int32 × KMem) :=
 if p0 < 1 then
 (none)
 else
 (if p0 ≤ 60 then
 (Option.bind (m_Me_remember (u + 39) (u + 4) M) fun M4 =>
 Option.bind (m_Tw_passMonths (u + 3) p0 M4) fun (x6, M7) =>
 some (x6, M7))
 else
 (none))
set_option maxHeartbeats 4000000 in
set_option maxRecDepth 100000 in
theorem b_Sn_months {X : KX} {B : KB} {L : KLay} {M : KMem} {u : Nat} {p0 : Int32} (G : Good X B RX10 cX10_months 2 rm_Sn_months) (hx : B.2.2.2 = false) (hu : okL L u srT) (h : kOk (m_Sn_months u p0 M) (fun r => RI X B L 2 cX10_months .int rm_Sn_months r.1 r.2)) : KK X B L 2 0 0 M 0 [(0, .ref (B.1 + u)), (1, .int p0)] [] := by
  unfold m_Sn_months at h
  refine k_iload_n G (dc d_Sn_months 0 rfl) 1 rfl rfl ?_
  refine k_iconst G (dc d_Sn_months 1 rfl) cI_1 ?_
  refine k_icmp_lt G (dc d_Sn_months 2 rfl) (tgt := 11) rfl (fun c1 => ?_) (fun c1 => ?_)
  · replace h := kOk_p c1 h
    exact (kOk_none h).elim
  · replace h := kOk_n c1 h
    refine k_iload_n G (dc d_Sn_months 3 rfl) 1 rfl rfl ?_
    refine k_bipush G (dc d_Sn_months 4 rfl) cB_60 ?_
    refine k_icmp_le G (dc d_Sn_months 5 rfl) (tgt := 21) rfl (fun c2 => ?_) (fun c2 => ?_)
    · replace h := kOk_p c2 h
      refine k_aload_n G (dc d_Sn_months 11 rfl) 0 rfl rfl ?_
      refine k_getR G kc7 (dc d_Sn_months 12 rfl) (okL_lt hu (o := 0) 0 rfl) (okL_k hu (o := 0) 0 rfl) 3 (by decide) rfl fl_RX10_29 (u + 39) (okL_r hu (o := 0) (c := 39) 0 rfl 3 rfl) ?_
      refine k_aload_n G (dc d_Sn_months 13 rfl) 0 rfl rfl ?_
      refine k_getR G kc7 (dc d_Sn_months 14 rfl) (okL_lt hu (o := 0) 0 rfl) (okL_k hu (o := 0) 0 rfl) 1 (by decide) rfl fl_RX10_19 (u + 3) (okL_r hu (o := 0) (c := 3) 0 rfl 1 rfl) ?_
      refine k_getR G kc6 (dc d_Sn_months 15 rfl) (okL_lt hu (o := 3) 3 rfl) (okL_k hu (o := 3) 3 rfl) 0 (by decide) rfl fl_RX10_59 (u + 4) (okL_r hu (o := 3) (c := 4) 3 rfl 0 rfl) ?_
      obtain ⟨M4, e3, h⟩ := kOk_b h
      refine k_cVV G (dc d_Sn_months 16 rfl) kc2 (okL_lt hu (o := 39) 39 rfl) (okL_k hu (o := 39) 39 rfl) mi_Me_remember mv_Me_remember rfl ml_RX10_177 (c_Me_remember (gst G) hx (okL_sub hu 39 (by decide +kernel)) (okL_sub hu 4 (by decide +kernel)) e3) rfl rfl ⟨rfl, rfl⟩ rfl ⟨rfl, rfl⟩ ⟨rfl, rfl⟩ ?_
      refine k_aload_n G (dc d_Sn_months 17 rfl) 0 rfl rfl ?_
      refine k_getR G kc7 (dc d_Sn_months 18 rfl) (okL_lt hu (o := 0) 0 rfl) (okL_k hu (o := 0) 0 rfl) 1 (by decide) rfl fl_RX10_19 (u + 3) (okL_r hu (o := 0) (c := 3) 0 rfl 1 rfl) ?_
      refine k_iload_n G (dc d_Sn_months 19 rfl) 1 rfl rfl ?_
      obtain ⟨⟨x6, M7⟩, e5, h⟩ := kOk_b h
      refine k_cVI G (dc d_Sn_months 20 rfl) kc6 (okL_lt hu (o := 3) 3 rfl) (okL_k hu (o := 3) 3 rfl) mi_Tw_passMonths mv_Tw_passMonths rfl ml_RX10_111 (c_Tw_passMonths (gst G) (okL_sub hu 3 (by decide +kernel)) e5) rfl rfl ⟨rfl, rfl⟩ rfl ⟨rfl, rfl⟩ ⟨rfl, rfl⟩ ?_
      exact (kOk_s h) _ _ _ _ rfl rfl rfl (dc d_Sn_months 21 rfl)
    · replace h := kOk_n c2 h
      exact (kOk_none h).elim
theorem c_Sn_months {l : Launch} {B : KB} {L : KLay} {M : KMem} {u : Nat} {p0 : Int32} (hst : l.stackTraces = false) (hx : B.2.2.2 = false) (hu : okL L u srT) {r : Int32} {M' : KMem} (e : m_Sn_months u p0 M = some (r, M')) : CtrN l B yX10_months cX10_months 2 (some .int) rm_Sn_months [.ref (B.1 + u), .int p0] L M (some (.int r)) L M' :=
  mk_I rfl hst rfl (fun X hl G _ R => b_Sn_months G hx hu ⟨_, e, R⟩)
def I_Sn_undo : List (Nat × Instr × Nat) := [(0, .aload_n 0, 1), (1, .getfield 29, 3), (4, .getfield 202, 3), (7, .ifCond .ne 13, 3), (10, .new 44, 3), (13, .dup, 1), (14, .ldc 205, 2), (16, .invokespecial 48, 3), (19, .athrow, 1), (20, .aload_n 0, 1), (21, .getfield 29, 3), (24, .aload_n 0, 1), (25, .getfield 19, 3), (28, .getfield 59, 3), (31, .invokevirtual 207, 3), (34, .aload_n 0, 1), (35, .getfield 29, 3), (38, .getfield 202, 3), (41, .ireturn, 1)]
set_option maxRecDepth 100000 in
theorem d_Sn_undo : decA cX10_undo I_Sn_undo = true := by decide +kernel
abbrev rm_Sn_undo : Room := ({ frames := 6, cells := 0, slots := 0, locals := 124 } : Room)
def m_Sn_undo (u : Nat) (M : KMem) : Option (Int32 × KMem) :=
 if (M (u + 39) 2) = 0 then
 (none)
 else
 (Option.bind (m_Me_takeBack (u + 39) (u + 4) M) fun M3 =>
 some (M3 (u + 39) 2, M3))
set_option maxHeartbeats 4000000 in
set_option maxRecDepth 100000 in
theorem b_Sn_undo {X : KX} {B : KB} {L : KLay} {M : KMem} {u : Nat} (G : Good X B RX10 cX10_undo 1 rm_Sn_undo) (hx : B.2.2.2 = false) (hu : okL L u srT) (h : kOk (m_Sn_undo u M) (fun r => RI X B L 1 cX10_undo .int rm_Sn_undo r.1 r.2)) : KK X B L 1 0 0 M 0 [(0, .ref (B.1 + u))] [] := by
  unfold m_Sn_undo at h
  refine k_aload_n G (dc d_Sn_undo 0 rfl) 0 rfl rfl ?_
  refine k_getR G kc7 (dc d_Sn_undo 1 rfl) (okL_lt hu (o := 0) 0 rfl) (okL_k hu (o := 0) 0 rfl) 3 (by decide) rfl fl_RX10_29 (u + 39) (okL_r hu (o := 0) (c := 39) 0 rfl 3 rfl) ?_
  refine k_getIN G kc2 (dc d_Sn_undo 2 rfl) (okL_lt hu (o := 39) 39 rfl) (okL_k hu (o := 39) 39 rfl) 2 (by decide) rfl fl_RX10_202 ?_
  refine k_if_ne G (dc d_Sn_undo 3 rfl) (tgt := 20) rfl (fun c1 => ?_) (fun c1 => ?_)
  · replace h := kOk_n c1 h
    refine k_aload_n G (dc d_Sn_undo 9 rfl) 0 rfl rfl ?_
    refine k_getR G kc7 (dc d_Sn_undo 10 rfl) (okL_lt hu (o := 0) 0 rfl) (okL_k hu (o := 0) 0 rfl) 3 (by decide) rfl fl_RX10_29 (u + 39) (okL_r hu (o := 0) (c := 39) 0 rfl 3 rfl) ?_
    refine k_aload_n G (dc d_Sn_undo 11 rfl) 0 rfl rfl ?_
    refine k_getR G kc7 (dc d_Sn_undo 12 rfl) (okL_lt hu (o := 0) 0 rfl) (okL_k hu (o := 0) 0 rfl) 1 (by decide) rfl fl_RX10_19 (u + 3) (okL_r hu (o := 0) (c := 3) 0 rfl 1 rfl) ?_
    refine k_getR G kc6 (dc d_Sn_undo 13 rfl) (okL_lt hu (o := 3) 3 rfl) (okL_k hu (o := 3) 3 rfl) 0 (by decide) rfl fl_RX10_59 (u + 4) (okL_r hu (o := 3) (c := 4) 3 rfl 0 rfl) ?_
    obtain ⟨M3, e2, h⟩ := kOk_b h
    refine k_cVV G (dc d_Sn_undo 14 rfl) kc2 (okL_lt hu (o := 39) 39 rfl) (okL_k hu (o := 39) 39 rfl) mi_Me_takeBack mv_Me_takeBack rfl ml_RX10_207 (c_Me_takeBack (gst G) hx (okL_sub hu 39 (by decide +kernel)) (okL_sub hu 4 (by decide +kernel)) e2) rfl rfl ⟨rfl, rfl⟩ rfl ⟨rfl, rfl⟩ ⟨rfl, rfl⟩ ?_
    refine k_aload_n G (dc d_Sn_undo 15 rfl) 0 rfl rfl ?_
    refine k_getR G kc7 (dc d_Sn_undo 16 rfl) (okL_lt hu (o := 0) 0 rfl) (okL_k hu (o := 0) 0 rfl) 3 (by decide) rfl fl_RX10_29 (u + 39) (okL_r hu (o := 0) (c := 39) 0 rfl 3 rfl) ?_
    refine k_getIN G kc2 (dc d_Sn_undo 17 rfl) (okL_lt hu (o := 39) 39 rfl) (okL_k hu (o := 39) 39 rfl) 2 (by decide) rfl fl_RX10_202 ?_
    exact (kOk_s h) _ _ _ _ rfl rfl rfl (dc d_Sn_undo 18 rfl)
  · replace h := kOk_p c1 h
    exact (kOk_none h).elim
theorem c_Sn_undo {l : Launch} {B : KB} {L : KLay} {M : KMem} {u : Nat} (hst : l.stackTraces = false) (hx : B.2.2.2 = false) (hu : okL L u srT) {r : Int32} {M' : KMem} (e : m_Sn_undo u M = some (r, M')) : CtrN l B yX10_undo cX10_undo 1 (some .int) rm_Sn_undo [.ref (B.1 + u)] L M (some (.int r)) L M' :=
  mk_I rfl hst rfl (fun X hl G _ R => b_Sn_undo G hx hu ⟨_, e, R⟩)
def I_Sn_paint : List (Nat × Instr × Nat) := [(0, .aload_n 0, 1), (1, .iload_n 1, 1), (2, .invokevirtual 122, 3), (5, .aload_n 0, 1), (6, .getfield 29, 3), (9, .aload_n 0, 1), (10, .getfield 19, 3), (13, .getfield 59, 3), (16, .invokevirtual 177, 3), (19, .aload_n 0, 1), (20, .getfield 19, 3), (23, .iload_n 1, 1), (24, .invokevirtual 108, 3), (27, .ireturn, 1)]
set_option maxRecDepth 100000 in
theorem d_Sn_paint : decA cX10_paint I_Sn_paint = true := by decide +kernel
abbrev rm_Sn_paint : Room := ({ frames := 7, cells := 0, slots := 0, locals := 137 } : Room)
def m_Sn_paint (u : Nat) (p0 : Int32) (M : KMem) : Option (Int32 × KMem) :=
 Option.bind (m_Sn_requireSign u p0 M) fun _ =>
 Option.bind (m_Me_remember (u + 39) (u + 4) M) fun M3 =>
 Option.bind (m_Tw_repaint (u + 3) p0 M3) fun (x5, M6) =>
 some (x5, M6)
set_option maxHeartbeats 4000000 in
set_option maxRecDepth 100000 in
theorem b_Sn_paint {X : KX} {B : KB} {L : KLay} {M : KMem} {u : Nat} {p0 : Int32} (G : Good X B RX10 cX10_paint 2 rm_Sn_paint) (hx : B.2.2.2 = false) (hu : okL L u srT) (h : kOk (m_Sn_paint u p0 M) (fun r => RI X B L 2 cX10_paint .int rm_Sn_paint r.1 r.2)) : KK X B L 2 0 0 M 0 [(0, .ref (B.1 + u)), (1, .int p0)] [] := by
  unfold m_Sn_paint at h
  refine k_aload_n G (dc d_Sn_paint 0 rfl) 0 rfl rfl ?_
  refine k_iload_n G (dc d_Sn_paint 1 rfl) 1 rfl rfl ?_
  obtain ⟨_, e1, h⟩ := kOk_b h
  refine k_cVV G (dc d_Sn_paint 2 rfl) kc7 (okL_lt hu (o := 0) 0 rfl) (okL_k hu (o := 0) 0 rfl) mi_SR_requireSign mv_SR_requireSign rfl ml_RX10_122 (c_Sn_requireSign (gst G) hu e1) rfl rfl ⟨rfl, rfl⟩ rfl ⟨rfl, rfl⟩ ⟨rfl, rfl⟩ ?_
  refine k_aload_n G (dc d_Sn_paint 3 rfl) 0 rfl rfl ?_
  refine k_getR G kc7 (dc d_Sn_paint 4 rfl) (okL_lt hu (o := 0) 0 rfl) (okL_k hu (o := 0) 0 rfl) 3 (by decide) rfl fl_RX10_29 (u + 39) (okL_r hu (o := 0) (c := 39) 0 rfl 3 rfl) ?_
  refine k_aload_n G (dc d_Sn_paint 5 rfl) 0 rfl rfl ?_
  refine k_getR G kc7 (dc d_Sn_paint 6 rfl) (okL_lt hu (o := 0) 0 rfl) (okL_k hu (o := 0) 0 rfl) 1 (by decide) rfl fl_RX10_19 (u + 3) (okL_r hu (o := 0) (c := 3) 0 rfl 1 rfl) ?_
  refine k_getR G kc6 (dc d_Sn_paint 7 rfl) (okL_lt hu (o := 3) 3 rfl) (okL_k hu (o := 3) 3 rfl) 0 (by decide) rfl fl_RX10_59 (u + 4) (okL_r hu (o := 3) (c := 4) 3 rfl 0 rfl) ?_
  obtain ⟨M3, e2, h⟩ := kOk_b h
  refine k_cVV G (dc d_Sn_paint 8 rfl) kc2 (okL_lt hu (o := 39) 39 rfl) (okL_k hu (o := 39) 39 rfl) mi_Me_remember mv_Me_remember rfl ml_RX10_177 (c_Me_remember (gst G) hx (okL_sub hu 39 (by decide +kernel)) (okL_sub hu 4 (by decide +kernel)) e2) rfl rfl ⟨rfl, rfl⟩ rfl ⟨rfl, rfl⟩ ⟨rfl, rfl⟩ ?_
  refine k_aload_n G (dc d_Sn_paint 9 rfl) 0 rfl rfl ?_
  refine k_getR G kc7 (dc d_Sn_paint 10 rfl) (okL_lt hu (o := 0) 0 rfl) (okL_k hu (o := 0) 0 rfl) 1 (by decide) rfl fl_RX10_19 (u + 3) (okL_r hu (o := 0) (c := 3) 0 rfl 1 rfl) ?_
  refine k_iload_n G (dc d_Sn_paint 11 rfl) 1 rfl rfl ?_
  obtain ⟨⟨x5, M6⟩, e4, h⟩ := kOk_b h
  refine k_cVI G (dc d_Sn_paint 12 rfl) kc6 (okL_lt hu (o := 3) 3 rfl) (okL_k hu (o := 3) 3 rfl) mi_Tw_repaint mv_Tw_repaint rfl ml_RX10_108 (c_Tw_repaint (gst G) (okL_sub hu 3 (by decide +kernel)) e4) rfl rfl ⟨rfl, rfl⟩ rfl ⟨rfl, rfl⟩ ⟨rfl, rfl⟩ ?_
  exact (kOk_s h) _ _ _ _ rfl rfl rfl (dc d_Sn_paint 13 rfl)
theorem c_Sn_paint {l : Launch} {B : KB} {L : KLay} {M : KMem} {u : Nat} {p0 : Int32} (hst : l.stackTraces = false) (hx : B.2.2.2 = false) (hu : okL L u srT) {r : Int32} {M' : KMem} (e : m_Sn_paint u p0 M = some (r, M')) : CtrN l B yX10_paint cX10_paint 2 (some .int) rm_Sn_paint [.ref (B.1 + u), .int p0] L M (some (.int r)) L M' :=
  mk_I rfl hst rfl (fun X hl G _ R => b_Sn_paint G hx hu ⟨_, e, R⟩)
