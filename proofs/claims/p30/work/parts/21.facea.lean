/-! laid by wip/p30/g30.py: SR_about, SR_requireSign, SR_signOf, SR_requireDecree, SR_decreeOf, SR_requireGuild, SR_guildOf, SR_right, SR_requireSetting, SR_setting, SR_sign, SR_requireDecreeArguments, SR_decree, SR_revoke, SR_paint, SR_months, SR_amnesty, SR_set, SR_undo, SR_why -/
def I_SR_about : List (Nat × Instr × Nat) := [(0, .iload_n 1, 1), (1, .ifCond .lt 9, 3), (4, .iload_n 1, 1), (5, .bipush 11, 2), (7, .if_icmp .le 13, 3), (10, .new 33, 3), (13, .dup, 1), (14, .ldc 117, 2), (16, .invokespecial 37, 3), (19, .athrow, 1), (20, .aload_n 0, 1), (21, .getfield 19, 3), (24, .iload_n 1, 1), (25, .invokevirtual 119, 3), (28, .ireturn, 1)]
set_option maxRecDepth 100000 in
theorem d_SR_about : decA cX10_about I_SR_about = true := by decide +kernel
abbrev rm_SR_about : Room := ({ frames := 7, cells := 1, slots := 6, locals := 158 } : Room)
def m_SR_about (u : Nat) (p0 : Int32) (M : KMem) : Option ((String ⊕ Int32) × KMem) :=
 if p0 < 0 then
 (some (.inl "java/lang/IllegalArgumentException", M))
 else
 (if p0 ≤ 11 then
 (Option.bind (m_Tw_numberOfTown (u + 3) p0 M) fun (x4, M5) =>
 some (.inr x4, M5))
 else
 (some (.inl "java/lang/IllegalArgumentException", M)))
set_option maxHeartbeats 4000000 in
set_option maxRecDepth 100000 in
theorem b_SR_about {X : KX} {B : KB} {L : KLay} {M : KMem} {u : Nat} {p0 : Int32} (G : Good X B RX10 cX10_about 2 rm_SR_about) (hx : B.2.2.2 = false) (hu : okL L u srT) (h : kOk (m_SR_about u p0 M) (fun r => RXI X B L 2 RX10 cX10_about .int rm_SR_about r.1 r.2)) : KK X B L 2 0 0 M 0 [(0, .ref (B.1 + u)), (1, .int p0)] [] := by
  unfold m_SR_about at h
  refine k_iload_n G (dc d_SR_about 0 rfl) 1 rfl rfl ?_
  refine k_if_lt G (dc d_SR_about 1 rfl) (tgt := 10) rfl (fun c1 => ?_) (fun c1 => ?_)
  · replace h := kOk_p c1 h
    exact ((kOk_s h).2 _ rfl).2.1 _ _ _ _ _ 33 117 37 "no such number of the reform" ["java/lang/RuntimeException", "java/lang/Exception"] ts_RX10_33_37 sr_RX10_117 (dc d_SR_about 5 rfl) (dc d_SR_about 6 rfl) (dc d_SR_about 7 rfl) (dc d_SR_about 8 rfl) (dc d_SR_about 9 rfl) rfl rfl rfl rfl
  · replace h := kOk_n c1 h
    refine k_iload_n G (dc d_SR_about 2 rfl) 1 rfl rfl ?_
    refine k_bipush G (dc d_SR_about 3 rfl) cB_11 ?_
    refine k_icmp_le G (dc d_SR_about 4 rfl) (tgt := 20) rfl (fun c2 => ?_) (fun c2 => ?_)
    · replace h := kOk_p c2 h
      refine k_aload_n G (dc d_SR_about 10 rfl) 0 rfl rfl ?_
      refine k_getR G kc7 (dc d_SR_about 11 rfl) (okL_lt hu (o := 0) 0 rfl) (okL_k hu (o := 0) 0 rfl) 1 (by decide) rfl fl_RX10_19 (u + 3) (okL_r hu (o := 0) (c := 3) 0 rfl 1 rfl) ?_
      refine k_iload_n G (dc d_SR_about 12 rfl) 1 rfl rfl ?_
      obtain ⟨⟨x4, M5⟩, e3, h⟩ := kOk_b h
      refine k_cVI G (dc d_SR_about 13 rfl) kc6 (okL_lt hu (o := 3) 3 rfl) (okL_k hu (o := 3) 3 rfl) mi_Tw_numberOfTown mv_Tw_numberOfTown rfl ml_RX10_119 (c_Tw_numberOfTown (gst G) (okL_sub hu 3 (by decide +kernel)) e3) rfl rfl ⟨rfl, rfl⟩ rfl ⟨rfl, rfl⟩ ⟨rfl, rfl⟩ ?_
      exact ((kOk_s h).1 _ rfl) _ _ _ _ rfl rfl rfl (dc d_SR_about 14 rfl)
    · replace h := kOk_n c2 h
      exact ((kOk_s h).2 _ rfl).2.1 _ _ _ _ _ 33 117 37 "no such number of the reform" ["java/lang/RuntimeException", "java/lang/Exception"] ts_RX10_33_37 sr_RX10_117 (dc d_SR_about 5 rfl) (dc d_SR_about 6 rfl) (dc d_SR_about 7 rfl) (dc d_SR_about 8 rfl) (dc d_SR_about 9 rfl) rfl rfl rfl rfl
theorem c_SR_about {l : Launch} {B : KB} {L : KLay} {M : KMem} {u : Nat} {p0 : Int32} (hst : l.stackTraces = false) (hx : B.2.2.2 = false) (hu : okL L u srT) {r : String ⊕ Int32} {M' : KMem} (e : m_SR_about u p0 M = some (r, M')) : CtrX l B yX10_about cX10_about 2 (some .int) rm_SR_about [.ref (B.1 + u), .int p0] L M (rI r) M' :=
  mkXI hx rfl hst rfl (fun X hl G R => b_SR_about G hx hu ⟨_, e, R⟩)
def I_SR_requireSign : List (Nat × Instr × Nat) := [(0, .aload_n 0, 1), (1, .getfield 19, 3), (4, .iload_n 1, 1), (5, .invokevirtual 278, 3), (8, .ifCond .ne 14, 3), (11, .new 281, 3), (14, .dup, 1), (15, .ldc_w 283, 3), (18, .invokespecial 285, 3), (21, .athrow, 1), (22, .return_, 1)]
set_option maxRecDepth 100000 in
theorem d_SR_requireSign : decA cX10_requireSign I_SR_requireSign = true := by decide +kernel
abbrev rm_SR_requireSign : Room := ({ frames := 6, cells := 1, slots := 6, locals := 92 } : Room)
def m_SR_requireSign (u : Nat) (p0 : Int32) (M : KMem) : Option (Option String) :=
 Option.bind (m_Tw_hasSign (u + 3) p0 M) fun x2 =>
 if x2 = 0 then
 (some (some "java/lang/IndexOutOfBoundsException"))
 else
 (some none)
set_option maxHeartbeats 4000000 in
set_option maxRecDepth 100000 in
theorem b_SR_requireSign {X : KX} {B : KB} {L : KLay} {M : KMem} {u : Nat} {p0 : Int32} (G : Good X B RX10 cX10_requireSign 2 rm_SR_requireSign) (hx : B.2.2.2 = false) (hu : okL L u srT) (h : kOk (m_SR_requireSign u p0 M) (fun r => RXV X B L 2 RX10 cX10_requireSign rm_SR_requireSign r M)) : KK X B L 2 0 0 M 0 [(0, .ref (B.1 + u)), (1, .int p0)] [] := by
  unfold m_SR_requireSign at h
  refine k_aload_n G (dc d_SR_requireSign 0 rfl) 0 rfl rfl ?_
  refine k_getR G kc7 (dc d_SR_requireSign 1 rfl) (okL_lt hu (o := 0) 0 rfl) (okL_k hu (o := 0) 0 rfl) 1 (by decide) rfl fl_RX10_19 (u + 3) (okL_r hu (o := 0) (c := 3) 0 rfl 1 rfl) ?_
  refine k_iload_n G (dc d_SR_requireSign 2 rfl) 1 rfl rfl ?_
  obtain ⟨x2, e1, h⟩ := kOk_b h
  refine k_cVI G (dc d_SR_requireSign 3 rfl) kc6 (okL_lt hu (o := 3) 3 rfl) (okL_k hu (o := 3) 3 rfl) mi_Tw_hasSign mv_Tw_hasSign rfl ml_RX10_278 (c_Tw_hasSign (gst G) (okL_sub hu 3 (by decide +kernel)) e1) rfl rfl ⟨rfl, rfl⟩ rfl ⟨rfl, rfl⟩ ⟨rfl, rfl⟩ ?_
  refine k_if_ne G (dc d_SR_requireSign 4 rfl) (tgt := 22) rfl (fun c3 => ?_) (fun c3 => ?_)
  · replace h := kOk_n c3 h
    exact ((kOk_s h).1 rfl) _ _ _ _ rfl rfl (dc d_SR_requireSign 10 rfl)
  · replace h := kOk_p c3 h
    exact ((kOk_s h).2 _ rfl).2.2 _ _ _ _ _ 281 283 285 "no such sign" ["java/lang/RuntimeException", "java/lang/Exception"] ts_RX10_281_285 sr_RX10_283 (dc d_SR_requireSign 5 rfl) (dc d_SR_requireSign 6 rfl) (dc d_SR_requireSign 7 rfl) (dc d_SR_requireSign 8 rfl) (dc d_SR_requireSign 9 rfl) rfl rfl rfl rfl
theorem c_SR_requireSign {l : Launch} {B : KB} {L : KLay} {M : KMem} {u : Nat} {p0 : Int32} (hst : l.stackTraces = false) (hx : B.2.2.2 = false) (hu : okL L u srT) {r : Option String} (e : m_SR_requireSign u p0 M = some r) : CtrX l B yX10_requireSign cX10_requireSign 2 none rm_SR_requireSign [.ref (B.1 + u), .int p0] L M (rV r) M :=
  mkXV hx rfl hst rfl (fun X hl G R => b_SR_requireSign G hx hu ⟨_, e, R⟩)
def I_SR_signOf : List (Nat × Instr × Nat) := [(0, .aload_n 0, 1), (1, .iload_n 1, 1), (2, .invokevirtual 122, 3), (5, .iload_n 2, 1), (6, .ifCond .lt 9, 3), (9, .iload_n 2, 1), (10, .bipush 7, 2), (12, .if_icmp .le 13, 3), (15, .new 33, 3), (18, .dup, 1), (19, .ldc 125, 2), (21, .invokespecial 37, 3), (24, .athrow, 1), (25, .aload_n 0, 1), (26, .getfield 19, 3), (29, .iload_n 1, 1), (30, .iload_n 2, 1), (31, .invokevirtual 127, 3), (34, .ireturn, 1)]
set_option maxRecDepth 100000 in
theorem d_SR_signOf : decA cX10_signOf I_SR_signOf = true := by decide +kernel
abbrev rm_SR_signOf : Room := ({ frames := 7, cells := 2, slots := 12, locals := 137 } : Room)
def m_SR_signOf (u : Nat) (p0 : Int32) (p1 : Int32) (M : KMem) : Option ((String ⊕ Int32) × KMem) :=
 Option.bind (m_SR_requireSign u p0 M) fun r2 => match r2 with
 | some E3 => some (.inl E3, M)
 | none =>
 (if p1 < 0 then
 (some (.inl "java/lang/IllegalArgumentException", M))
 else
 (if p1 ≤ 7 then
 (Option.bind (m_Tw_numberOfSign (u + 3) p0 p1 M) fun (x7, M8) =>
 some (.inr x7, M8))
 else
 (some (.inl "java/lang/IllegalArgumentException", M))))
set_option maxHeartbeats 4000000 in
set_option maxRecDepth 100000 in
theorem b_SR_signOf {X : KX} {B : KB} {L : KLay} {M : KMem} {u : Nat} {p0 : Int32} {p1 : Int32} (G : Good X B RX10 cX10_signOf 3 rm_SR_signOf) (hx : B.2.2.2 = false) (hu : okL L u srT) (h : kOk (m_SR_signOf u p0 p1 M) (fun r => RXI X B L 3 RX10 cX10_signOf .int rm_SR_signOf r.1 r.2)) : KK X B L 3 0 0 M 0 [(0, .ref (B.1 + u)), (1, .int p0), (2, .int p1)] [] := by
  unfold m_SR_signOf at h
  refine k_aload_n G (dc d_SR_signOf 0 rfl) 0 rfl rfl ?_
  refine k_iload_n G (dc d_SR_signOf 1 rfl) 1 rfl rfl ?_
  obtain ⟨r2, e1, h⟩ := kOk_b h
  refine k_callVX G (dc d_SR_signOf 2 rfl) kc7 (okL_lt hu (o := 0) 0 rfl) (okL_k hu (o := 0) 0 rfl) mi_SR_requireSign mv_SR_requireSign rfl ml_RX10_122 (c_SR_requireSign (gst G) hx hu e1) rfl rfl ⟨rfl, rfl⟩ rfl ⟨rfl, rfl⟩ (fun v9 h9 => ?_) (fun E9 h9 => ?_)
  · obtain ⟨rfl, rfl⟩ := rV_inr h9
    show KK X B L 3 1 6 M 5 [(0, .ref (B.1 + u)), (1, .int p0), (2, .int p1)] []
    refine k_iload_n G (dc d_SR_signOf 3 rfl) 2 rfl rfl ?_
    refine k_if_lt G (dc d_SR_signOf 4 rfl) (tgt := 15) rfl (fun c4 => ?_) (fun c4 => ?_)
    · replace h := kOk_p c4 h
      exact ((kOk_s h).2 _ rfl).2.1 _ _ _ _ _ 33 125 37 "no such number of a sign" ["java/lang/RuntimeException", "java/lang/Exception"] ts_RX10_33_37 sr_RX10_125 (dc d_SR_signOf 8 rfl) (dc d_SR_signOf 9 rfl) (dc d_SR_signOf 10 rfl) (dc d_SR_signOf 11 rfl) (dc d_SR_signOf 12 rfl) rfl rfl rfl rfl
    · replace h := kOk_n c4 h
      refine k_iload_n G (dc d_SR_signOf 5 rfl) 2 rfl rfl ?_
      refine k_bipush G (dc d_SR_signOf 6 rfl) cB_7 ?_
      refine k_icmp_le G (dc d_SR_signOf 7 rfl) (tgt := 25) rfl (fun c5 => ?_) (fun c5 => ?_)
      · replace h := kOk_p c5 h
        refine k_aload_n G (dc d_SR_signOf 13 rfl) 0 rfl rfl ?_
        refine k_getR G kc7 (dc d_SR_signOf 14 rfl) (okL_lt hu (o := 0) 0 rfl) (okL_k hu (o := 0) 0 rfl) 1 (by decide) rfl fl_RX10_19 (u + 3) (okL_r hu (o := 0) (c := 3) 0 rfl 1 rfl) ?_
        refine k_iload_n G (dc d_SR_signOf 15 rfl) 1 rfl rfl ?_
        refine k_iload_n G (dc d_SR_signOf 16 rfl) 2 rfl rfl ?_
        obtain ⟨⟨x7, M8⟩, e6, h⟩ := kOk_b h
        refine k_cVI G (dc d_SR_signOf 17 rfl) kc6 (okL_lt hu (o := 3) 3 rfl) (okL_k hu (o := 3) 3 rfl) mi_Tw_numberOfSign mv_Tw_numberOfSign rfl ml_RX10_127 (c_Tw_numberOfSign (gst G) (okL_sub hu 3 (by decide +kernel)) e6) rfl rfl ⟨rfl, rfl⟩ rfl ⟨rfl, rfl⟩ ⟨rfl, rfl⟩ ?_
        exact ((kOk_s h).1 _ rfl) _ _ _ _ rfl rfl rfl (dc d_SR_signOf 18 rfl)
      · replace h := kOk_n c5 h
        exact ((kOk_s h).2 _ rfl).2.1 _ _ _ _ _ 33 125 37 "no such number of a sign" ["java/lang/RuntimeException", "java/lang/Exception"] ts_RX10_33_37 sr_RX10_125 (dc d_SR_signOf 8 rfl) (dc d_SR_signOf 9 rfl) (dc d_SR_signOf 10 rfl) (dc d_SR_signOf 11 rfl) (dc d_SR_signOf 12 rfl) rfl rfl rfl rfl
  · obtain rfl := rV_inl h9
    exact ((kOk_s h).2 _ rfl).1 _ _ _ _ _ rfl rfl
theorem c_SR_signOf {l : Launch} {B : KB} {L : KLay} {M : KMem} {u : Nat} {p0 : Int32} {p1 : Int32} (hst : l.stackTraces = false) (hx : B.2.2.2 = false) (hu : okL L u srT) {r : String ⊕ Int32} {M' : KMem} (e : m_SR_signOf u p0 p1 M = some (r, M')) : CtrX l B yX10_signOf cX10_signOf 3 (some .int) rm_SR_signOf [.ref (B.1 + u), .int p0, .int p1] L M (rI r) M' :=
  mkXI hx rfl hst rfl (fun X hl G R => b_SR_signOf G hx hu ⟨_, e, R⟩)
def I_SR_requireDecree : List (Nat × Instr × Nat) := [(0, .aload_n 0, 1), (1, .getfield 19, 3), (4, .getfield 59, 3), (7, .getfield 135, 3), (10, .iload_n 1, 1), (11, .invokevirtual 286, 3), (14, .ifCond .ne 14, 3), (17, .new 281, 3), (20, .dup, 1), (21, .ldc_w 289, 3), (24, .invokespecial 285, 3), (27, .athrow, 1), (28, .return_, 1)]
set_option maxRecDepth 100000 in
theorem d_SR_requireDecree : decA cX10_requireDecree I_SR_requireDecree = true := by decide +kernel
abbrev rm_SR_requireDecree : Room := ({ frames := 6, cells := 1, slots := 6, locals := 92 } : Room)
def m_SR_requireDecree (u : Nat) (p0 : Int32) (M : KMem) : Option (Option String) :=
 Option.bind (m_De_has (u + 5) p0 M) fun x2 =>
 if x2 = 0 then
 (some (some "java/lang/IndexOutOfBoundsException"))
 else
 (some none)
set_option maxHeartbeats 4000000 in
set_option maxRecDepth 100000 in
theorem b_SR_requireDecree {X : KX} {B : KB} {L : KLay} {M : KMem} {u : Nat} {p0 : Int32} (G : Good X B RX10 cX10_requireDecree 2 rm_SR_requireDecree) (hx : B.2.2.2 = false) (hu : okL L u srT) (h : kOk (m_SR_requireDecree u p0 M) (fun r => RXV X B L 2 RX10 cX10_requireDecree rm_SR_requireDecree r M)) : KK X B L 2 0 0 M 0 [(0, .ref (B.1 + u)), (1, .int p0)] [] := by
  unfold m_SR_requireDecree at h
  refine k_aload_n G (dc d_SR_requireDecree 0 rfl) 0 rfl rfl ?_
  refine k_getR G kc7 (dc d_SR_requireDecree 1 rfl) (okL_lt hu (o := 0) 0 rfl) (okL_k hu (o := 0) 0 rfl) 1 (by decide) rfl fl_RX10_19 (u + 3) (okL_r hu (o := 0) (c := 3) 0 rfl 1 rfl) ?_
  refine k_getR G kc6 (dc d_SR_requireDecree 2 rfl) (okL_lt hu (o := 3) 3 rfl) (okL_k hu (o := 3) 3 rfl) 0 (by decide) rfl fl_RX10_59 (u + 4) (okL_r hu (o := 3) (c := 4) 3 rfl 0 rfl) ?_
  refine k_getR G kc5 (dc d_SR_requireDecree 3 rfl) (okL_lt hu (o := 4) 4 rfl) (okL_k hu (o := 4) 4 rfl) 0 (by decide) rfl fl_RX10_135 (u + 5) (okL_r hu (o := 4) (c := 5) 4 rfl 0 rfl) ?_
  refine k_iload_n G (dc d_SR_requireDecree 4 rfl) 1 rfl rfl ?_
  obtain ⟨x2, e1, h⟩ := kOk_b h
  refine k_cVI G (dc d_SR_requireDecree 5 rfl) kc0 (okL_lt hu (o := 5) 5 rfl) (okL_k hu (o := 5) 5 rfl) mi_De_has mv_De_has rfl ml_RX10_286 (c_De_has (gst G) (okL_sub hu 5 (by decide +kernel)) e1) rfl rfl ⟨rfl, rfl⟩ rfl ⟨rfl, rfl⟩ ⟨rfl, rfl⟩ ?_
  refine k_if_ne G (dc d_SR_requireDecree 6 rfl) (tgt := 28) rfl (fun c3 => ?_) (fun c3 => ?_)
  · replace h := kOk_n c3 h
    exact ((kOk_s h).1 rfl) _ _ _ _ rfl rfl (dc d_SR_requireDecree 12 rfl)
  · replace h := kOk_p c3 h
    exact ((kOk_s h).2 _ rfl).2.2 _ _ _ _ _ 281 289 285 "no such decree" ["java/lang/RuntimeException", "java/lang/Exception"] ts_RX10_281_285 sr_RX10_289 (dc d_SR_requireDecree 7 rfl) (dc d_SR_requireDecree 8 rfl) (dc d_SR_requireDecree 9 rfl) (dc d_SR_requireDecree 10 rfl) (dc d_SR_requireDecree 11 rfl) rfl rfl rfl rfl
theorem c_SR_requireDecree {l : Launch} {B : KB} {L : KLay} {M : KMem} {u : Nat} {p0 : Int32} (hst : l.stackTraces = false) (hx : B.2.2.2 = false) (hu : okL L u srT) {r : Option String} (e : m_SR_requireDecree u p0 M = some r) : CtrX l B yX10_requireDecree cX10_requireDecree 2 none rm_SR_requireDecree [.ref (B.1 + u), .int p0] L M (rV r) M :=
  mkXV hx rfl hst rfl (fun X hl G R => b_SR_requireDecree G hx hu ⟨_, e, R⟩)
def I_SR_decreeOf : List (Nat × Instr × Nat) := [(0, .aload_n 0, 1), (1, .iload_n 1, 1), (2, .invokevirtual 130, 3), (5, .iload_n 2, 1), (6, .ifCond .lt 8, 3), (9, .iload_n 2, 1), (10, .iconst 4, 1), (11, .if_icmp .le 13, 3), (14, .new 33, 3), (17, .dup, 1), (18, .ldc 133, 2), (20, .invokespecial 37, 3), (23, .athrow, 1), (24, .aload_n 0, 1), (25, .getfield 19, 3), (28, .getfield 59, 3), (31, .getfield 135, 3), (34, .iload_n 1, 1), (35, .iload_n 2, 1), (36, .invokevirtual 139, 3), (39, .ireturn, 1)]
set_option maxRecDepth 100000 in
theorem d_SR_decreeOf : decA cX10_decreeOf I_SR_decreeOf = true := by decide +kernel
abbrev rm_SR_decreeOf : Room := ({ frames := 7, cells := 2, slots := 12, locals := 113 } : Room)
def m_SR_decreeOf (u : Nat) (p0 : Int32) (p1 : Int32) (M : KMem) : Option (String ⊕ Int32) :=
 Option.bind (m_SR_requireDecree u p0 M) fun r2 => match r2 with
 | some E3 => some (.inl E3)
 | none =>
 (if p1 < 0 then
 (some (.inl "java/lang/IllegalArgumentException"))
 else
 (if p1 ≤ 4 then
 (Option.bind (m_De_number (u + 5) p0 p1 M) fun x7 =>
 some (.inr x7))
 else
 (some (.inl "java/lang/IllegalArgumentException"))))
set_option maxHeartbeats 4000000 in
set_option maxRecDepth 100000 in
theorem b_SR_decreeOf {X : KX} {B : KB} {L : KLay} {M : KMem} {u : Nat} {p0 : Int32} {p1 : Int32} (G : Good X B RX10 cX10_decreeOf 3 rm_SR_decreeOf) (hx : B.2.2.2 = false) (hu : okL L u srT) (h : kOk (m_SR_decreeOf u p0 p1 M) (fun r => RXI X B L 3 RX10 cX10_decreeOf .int rm_SR_decreeOf r M)) : KK X B L 3 0 0 M 0 [(0, .ref (B.1 + u)), (1, .int p0), (2, .int p1)] [] := by
  unfold m_SR_decreeOf at h
  refine k_aload_n G (dc d_SR_decreeOf 0 rfl) 0 rfl rfl ?_
  refine k_iload_n G (dc d_SR_decreeOf 1 rfl) 1 rfl rfl ?_
  obtain ⟨r2, e1, h⟩ := kOk_b h
  refine k_callVX G (dc d_SR_decreeOf 2 rfl) kc7 (okL_lt hu (o := 0) 0 rfl) (okL_k hu (o := 0) 0 rfl) mi_SR_requireDecree mv_SR_requireDecree rfl ml_RX10_130 (c_SR_requireDecree (gst G) hx hu e1) rfl rfl ⟨rfl, rfl⟩ rfl ⟨rfl, rfl⟩ (fun v9 h9 => ?_) (fun E9 h9 => ?_)
  · obtain ⟨rfl, rfl⟩ := rV_inr h9
    show KK X B L 3 1 6 M 5 [(0, .ref (B.1 + u)), (1, .int p0), (2, .int p1)] []
    refine k_iload_n G (dc d_SR_decreeOf 3 rfl) 2 rfl rfl ?_
    refine k_if_lt G (dc d_SR_decreeOf 4 rfl) (tgt := 14) rfl (fun c4 => ?_) (fun c4 => ?_)
    · replace h := kOk_p c4 h
      exact ((kOk_s h).2 _ rfl).2.1 _ _ _ _ _ 33 133 37 "no such number of a decree" ["java/lang/RuntimeException", "java/lang/Exception"] ts_RX10_33_37 sr_RX10_133 (dc d_SR_decreeOf 8 rfl) (dc d_SR_decreeOf 9 rfl) (dc d_SR_decreeOf 10 rfl) (dc d_SR_decreeOf 11 rfl) (dc d_SR_decreeOf 12 rfl) rfl rfl rfl rfl
    · replace h := kOk_n c4 h
      refine k_iload_n G (dc d_SR_decreeOf 5 rfl) 2 rfl rfl ?_
      refine k_iconst G (dc d_SR_decreeOf 6 rfl) cI_4 ?_
      refine k_icmp_le G (dc d_SR_decreeOf 7 rfl) (tgt := 24) rfl (fun c5 => ?_) (fun c5 => ?_)
      · replace h := kOk_p c5 h
        refine k_aload_n G (dc d_SR_decreeOf 13 rfl) 0 rfl rfl ?_
        refine k_getR G kc7 (dc d_SR_decreeOf 14 rfl) (okL_lt hu (o := 0) 0 rfl) (okL_k hu (o := 0) 0 rfl) 1 (by decide) rfl fl_RX10_19 (u + 3) (okL_r hu (o := 0) (c := 3) 0 rfl 1 rfl) ?_
        refine k_getR G kc6 (dc d_SR_decreeOf 15 rfl) (okL_lt hu (o := 3) 3 rfl) (okL_k hu (o := 3) 3 rfl) 0 (by decide) rfl fl_RX10_59 (u + 4) (okL_r hu (o := 3) (c := 4) 3 rfl 0 rfl) ?_
        refine k_getR G kc5 (dc d_SR_decreeOf 16 rfl) (okL_lt hu (o := 4) 4 rfl) (okL_k hu (o := 4) 4 rfl) 0 (by decide) rfl fl_RX10_135 (u + 5) (okL_r hu (o := 4) (c := 5) 4 rfl 0 rfl) ?_
        refine k_iload_n G (dc d_SR_decreeOf 17 rfl) 1 rfl rfl ?_
        refine k_iload_n G (dc d_SR_decreeOf 18 rfl) 2 rfl rfl ?_
        obtain ⟨x7, e6, h⟩ := kOk_b h
        refine k_cVI G (dc d_SR_decreeOf 19 rfl) kc0 (okL_lt hu (o := 5) 5 rfl) (okL_k hu (o := 5) 5 rfl) mi_De_number mv_De_number rfl ml_RX10_139 (c_De_number (gst G) (okL_sub hu 5 (by decide +kernel)) e6) rfl rfl ⟨rfl, rfl⟩ rfl ⟨rfl, rfl⟩ ⟨rfl, rfl⟩ ?_
        exact ((kOk_s h).1 _ rfl) _ _ _ _ rfl rfl rfl (dc d_SR_decreeOf 20 rfl)
      · replace h := kOk_n c5 h
        exact ((kOk_s h).2 _ rfl).2.1 _ _ _ _ _ 33 133 37 "no such number of a decree" ["java/lang/RuntimeException", "java/lang/Exception"] ts_RX10_33_37 sr_RX10_133 (dc d_SR_decreeOf 8 rfl) (dc d_SR_decreeOf 9 rfl) (dc d_SR_decreeOf 10 rfl) (dc d_SR_decreeOf 11 rfl) (dc d_SR_decreeOf 12 rfl) rfl rfl rfl rfl
  · obtain rfl := rV_inl h9
    exact ((kOk_s h).2 _ rfl).1 _ _ _ _ _ rfl rfl
theorem c_SR_decreeOf {l : Launch} {B : KB} {L : KLay} {M : KMem} {u : Nat} {p0 : Int32} {p1 : Int32} (hst : l.stackTraces = false) (hx : B.2.2.2 = false) (hu : okL L u srT) {r : String ⊕ Int32} (e : m_SR_decreeOf u p0 p1 M = some r) : CtrX l B yX10_decreeOf cX10_decreeOf 3 (some .int) rm_SR_decreeOf [.ref (B.1 + u), .int p0, .int p1] L M (rI r) M :=
  mkXI hx rfl hst rfl (fun X hl G R => b_SR_decreeOf G hx hu ⟨_, e, R⟩)
def I_SR_requireGuild : List (Nat × Instr × Nat) := [(0, .iload_n 0, 1), (1, .ifCond .lt 8, 3), (4, .iload_n 0, 1), (5, .iconst 4, 1), (6, .if_icmp .lt 14, 3), (9, .new 281, 3), (12, .dup, 1), (13, .ldc_w 291, 3), (16, .invokespecial 285, 3), (19, .athrow, 1), (20, .return_, 1)]
set_option maxRecDepth 100000 in
theorem d_SR_requireGuild : decA cX10_requireGuild I_SR_requireGuild = true := by decide +kernel
abbrev rm_SR_requireGuild : Room := ({ frames := 6, cells := 1, slots := 6, locals := 92 } : Room)
def m_SR_requireGuild (p0 : Int32) : Option (Option String) :=
 if p0 < 0 then
 (some (some "java/lang/IndexOutOfBoundsException"))
 else
 (if p0 < 4 then
 (some none)
 else
 (some (some "java/lang/IndexOutOfBoundsException")))
set_option maxHeartbeats 4000000 in
set_option maxRecDepth 100000 in
theorem b_SR_requireGuild {X : KX} {B : KB} {L : KLay} {M : KMem} {p0 : Int32} (G : Good X B RX10 cX10_requireGuild 1 rm_SR_requireGuild) (hx : B.2.2.2 = false)  (h : kOk (m_SR_requireGuild p0) (fun r => RXV X B L 1 RX10 cX10_requireGuild rm_SR_requireGuild r M)) : KK X B L 1 0 0 M 0 [(0, .int p0)] [] := by
  unfold m_SR_requireGuild at h
  refine k_iload_n G (dc d_SR_requireGuild 0 rfl) 0 rfl rfl ?_
  refine k_if_lt G (dc d_SR_requireGuild 1 rfl) (tgt := 9) rfl (fun c1 => ?_) (fun c1 => ?_)
  · replace h := kOk_p c1 h
    exact ((kOk_s h).2 _ rfl).2.2 _ _ _ _ _ 281 291 285 "no such guild" ["java/lang/RuntimeException", "java/lang/Exception"] ts_RX10_281_285 sr_RX10_291 (dc d_SR_requireGuild 5 rfl) (dc d_SR_requireGuild 6 rfl) (dc d_SR_requireGuild 7 rfl) (dc d_SR_requireGuild 8 rfl) (dc d_SR_requireGuild 9 rfl) rfl rfl rfl rfl
  · replace h := kOk_n c1 h
    refine k_iload_n G (dc d_SR_requireGuild 2 rfl) 0 rfl rfl ?_
    refine k_iconst G (dc d_SR_requireGuild 3 rfl) cI_4 ?_
    refine k_icmp_lt G (dc d_SR_requireGuild 4 rfl) (tgt := 20) rfl (fun c2 => ?_) (fun c2 => ?_)
    · replace h := kOk_p c2 h
      exact ((kOk_s h).1 rfl) _ _ _ _ rfl rfl (dc d_SR_requireGuild 10 rfl)
    · replace h := kOk_n c2 h
      exact ((kOk_s h).2 _ rfl).2.2 _ _ _ _ _ 281 291 285 "no such guild" ["java/lang/RuntimeException", "java/lang/Exception"] ts_RX10_281_285 sr_RX10_291 (dc d_SR_requireGuild 5 rfl) (dc d_SR_requireGuild 6 rfl) (dc d_SR_requireGuild 7 rfl) (dc d_SR_requireGuild 8 rfl) (dc d_SR_requireGuild 9 rfl) rfl rfl rfl rfl
theorem c_SR_requireGuild {l : Launch} {B : KB} {L : KLay} {M : KMem} {p0 : Int32} (hst : l.stackTraces = false) (hx : B.2.2.2 = false)  {r : Option String} (e : m_SR_requireGuild p0 = some r) : CtrX l B yX10_requireGuild cX10_requireGuild 1 none rm_SR_requireGuild [.int p0] L M (rV r) M :=
  mkXV hx rfl hst rfl (fun X hl G R => b_SR_requireGuild G hx  ⟨_, e, R⟩)
def I_SR_guildOf : List (Nat × Instr × Nat) := [(0, .iload_n 1, 1), (1, .invokestatic 143, 3), (4, .iload_n 2, 1), (5, .ifCond .lt 8, 3), (8, .iload_n 2, 1), (9, .iconst 3, 1), (10, .if_icmp .le 13, 3), (13, .new 33, 3), (16, .dup, 1), (17, .ldc 146, 2), (19, .invokespecial 37, 3), (22, .athrow, 1), (23, .aload_n 0, 1), (24, .getfield 19, 3), (27, .iload_n 1, 1), (28, .iload_n 2, 1), (29, .invokevirtual 148, 3), (32, .ireturn, 1)]
set_option maxRecDepth 100000 in
theorem d_SR_guildOf : decA cX10_guildOf I_SR_guildOf = true := by decide +kernel
abbrev rm_SR_guildOf : Room := ({ frames := 7, cells := 2, slots := 12, locals := 112 } : Room)
def m_SR_guildOf (u : Nat) (p0 : Int32) (p1 : Int32) (M : KMem) : Option (String ⊕ Int32) :=
 Option.bind (m_SR_requireGuild p0) fun r2 => match r2 with
 | some E3 => some (.inl E3)
 | none =>
 (if p1 < 0 then
 (some (.inl "java/lang/IllegalArgumentException"))
 else
 (if p1 ≤ 3 then
 (Option.bind (m_Tw_numberOfGuild (u + 3) p0 p1 M) fun x7 =>
 some (.inr x7))
 else
 (some (.inl "java/lang/IllegalArgumentException"))))
set_option maxHeartbeats 4000000 in
set_option maxRecDepth 100000 in
theorem b_SR_guildOf {X : KX} {B : KB} {L : KLay} {M : KMem} {u : Nat} {p0 : Int32} {p1 : Int32} (G : Good X B RX10 cX10_guildOf 3 rm_SR_guildOf) (hx : B.2.2.2 = false) (hu : okL L u srT) (h : kOk (m_SR_guildOf u p0 p1 M) (fun r => RXI X B L 3 RX10 cX10_guildOf .int rm_SR_guildOf r M)) : KK X B L 3 0 0 M 0 [(0, .ref (B.1 + u)), (1, .int p0), (2, .int p1)] [] := by
  unfold m_SR_guildOf at h
  refine k_iload_n G (dc d_SR_guildOf 0 rfl) 1 rfl rfl ?_
  obtain ⟨r2, e1, h⟩ := kOk_b h
  refine k_callSX G (dc d_SR_guildOf 1 rfl) mi_SR_requireGuild ms_SR_requireGuild ml_RX10_143 (c_SR_requireGuild (gst G) hx  e1) rfl rfl ⟨rfl, rfl⟩ rfl ⟨rfl, rfl⟩ (fun v9 h9 => ?_) (fun E9 h9 => ?_)
  · obtain ⟨rfl, rfl⟩ := rV_inr h9
    show KK X B L 3 1 6 M 4 [(0, .ref (B.1 + u)), (1, .int p0), (2, .int p1)] []
    refine k_iload_n G (dc d_SR_guildOf 2 rfl) 2 rfl rfl ?_
    refine k_if_lt G (dc d_SR_guildOf 3 rfl) (tgt := 13) rfl (fun c4 => ?_) (fun c4 => ?_)
    · replace h := kOk_p c4 h
      exact ((kOk_s h).2 _ rfl).2.1 _ _ _ _ _ 33 146 37 "no such number of a guild" ["java/lang/RuntimeException", "java/lang/Exception"] ts_RX10_33_37 sr_RX10_146 (dc d_SR_guildOf 7 rfl) (dc d_SR_guildOf 8 rfl) (dc d_SR_guildOf 9 rfl) (dc d_SR_guildOf 10 rfl) (dc d_SR_guildOf 11 rfl) rfl rfl rfl rfl
    · replace h := kOk_n c4 h
      refine k_iload_n G (dc d_SR_guildOf 4 rfl) 2 rfl rfl ?_
      refine k_iconst G (dc d_SR_guildOf 5 rfl) cI_3 ?_
      refine k_icmp_le G (dc d_SR_guildOf 6 rfl) (tgt := 23) rfl (fun c5 => ?_) (fun c5 => ?_)
      · replace h := kOk_p c5 h
        refine k_aload_n G (dc d_SR_guildOf 12 rfl) 0 rfl rfl ?_
        refine k_getR G kc7 (dc d_SR_guildOf 13 rfl) (okL_lt hu (o := 0) 0 rfl) (okL_k hu (o := 0) 0 rfl) 1 (by decide) rfl fl_RX10_19 (u + 3) (okL_r hu (o := 0) (c := 3) 0 rfl 1 rfl) ?_
        refine k_iload_n G (dc d_SR_guildOf 14 rfl) 1 rfl rfl ?_
        refine k_iload_n G (dc d_SR_guildOf 15 rfl) 2 rfl rfl ?_
        obtain ⟨x7, e6, h⟩ := kOk_b h
        refine k_cVI G (dc d_SR_guildOf 16 rfl) kc6 (okL_lt hu (o := 3) 3 rfl) (okL_k hu (o := 3) 3 rfl) mi_Tw_numberOfGuild mv_Tw_numberOfGuild rfl ml_RX10_148 (c_Tw_numberOfGuild (gst G) (okL_sub hu 3 (by decide +kernel)) e6) rfl rfl ⟨rfl, rfl⟩ rfl ⟨rfl, rfl⟩ ⟨rfl, rfl⟩ ?_
        exact ((kOk_s h).1 _ rfl) _ _ _ _ rfl rfl rfl (dc d_SR_guildOf 17 rfl)
      · replace h := kOk_n c5 h
        exact ((kOk_s h).2 _ rfl).2.1 _ _ _ _ _ 33 146 37 "no such number of a guild" ["java/lang/RuntimeException", "java/lang/Exception"] ts_RX10_33_37 sr_RX10_146 (dc d_SR_guildOf 7 rfl) (dc d_SR_guildOf 8 rfl) (dc d_SR_guildOf 9 rfl) (dc d_SR_guildOf 10 rfl) (dc d_SR_guildOf 11 rfl) rfl rfl rfl rfl
  · obtain rfl := rV_inl h9
    exact ((kOk_s h).2 _ rfl).1 _ _ _ _ _ rfl rfl
theorem c_SR_guildOf {l : Launch} {B : KB} {L : KLay} {M : KMem} {u : Nat} {p0 : Int32} {p1 : Int32} (hst : l.stackTraces = false) (hx : B.2.2.2 = false) (hu : okL L u srT) {r : String ⊕ Int32} (e : m_SR_guildOf u p0 p1 M = some r) : CtrX l B yX10_guildOf cX10_guildOf 3 (some .int) rm_SR_guildOf [.ref (B.1 + u), .int p0, .int p1] L M (rI r) M :=
  mkXI hx rfl hst rfl (fun X hl G R => b_SR_guildOf G hx hu ⟨_, e, R⟩)
def I_SR_right : List (Nat × Instr × Nat) := [(0, .aload_n 0, 1), (1, .iload_n 1, 1), (2, .invokevirtual 122, 3), (5, .iload_n 2, 1), (6, .ifCond .eq 18, 3), (9, .iload_n 2, 1), (10, .iconst 1, 1), (11, .if_icmp .eq 13, 3), (14, .new 33, 3), (17, .dup, 1), (18, .ldc 151, 2), (20, .invokespecial 37, 3), (23, .athrow, 1), (24, .aload_n 0, 1), (25, .getfield 19, 3), (28, .iload_n 1, 1), (29, .iload_n 2, 1), (30, .iconst 1, 1), (31, .if_icmp .ne 7, 3), (34, .iconst 1, 1), (35, .goto 4, 3), (38, .iconst 0, 1), (39, .invokevirtual 153, 3), (42, .ireturn, 1)]
set_option maxRecDepth 100000 in
theorem d_SR_right : decA cX10_right I_SR_right = true := by decide +kernel
abbrev rm_SR_right : Room := ({ frames := 7, cells := 2, slots := 12, locals := 168 } : Room)
def m_SR_right (u : Nat) (p0 : Int32) (p1 : Int32) (M : KMem) : Option ((String ⊕ Int32) × KMem) :=
 Option.bind (m_SR_requireSign u p0 M) fun r2 => match r2 with
 | some E3 => some (.inl E3, M)
 | none =>
 (if p1 = 0 then
 (Option.bind (α := Int32) (if p1 = 1 then
 (some 1)
 else
 (some 0)) fun t5 =>
 Option.bind (m_Tw_spelled (u + 3) p0 t5 M) fun (x8, M9) =>
 some (.inr x8, M9))
 else
 (if p1 = 1 then
 (Option.bind (α := Int32) (if p1 = 1 then
 (some 1)
 else
 (some 0)) fun t12 =>
 Option.bind (m_Tw_spelled (u + 3) p0 t12 M) fun (x15, M16) =>
 some (.inr x15, M16))
 else
 (some (.inl "java/lang/IllegalArgumentException", M))))
set_option maxHeartbeats 4000000 in
set_option maxRecDepth 100000 in
theorem b_SR_right {X : KX} {B : KB} {L : KLay} {M : KMem} {u : Nat} {p0 : Int32} {p1 : Int32} (G : Good X B RX10 cX10_right 3 rm_SR_right) (hx : B.2.2.2 = false) (hu : okL L u srT) (h : kOk (m_SR_right u p0 p1 M) (fun r => RXI X B L 3 RX10 cX10_right .int rm_SR_right r.1 r.2)) : KK X B L 3 0 0 M 0 [(0, .ref (B.1 + u)), (1, .int p0), (2, .int p1)] [] := by
  unfold m_SR_right at h
  refine k_aload_n G (dc d_SR_right 0 rfl) 0 rfl rfl ?_
  refine k_iload_n G (dc d_SR_right 1 rfl) 1 rfl rfl ?_
  obtain ⟨r2, e1, h⟩ := kOk_b h
  refine k_callVX G (dc d_SR_right 2 rfl) kc7 (okL_lt hu (o := 0) 0 rfl) (okL_k hu (o := 0) 0 rfl) mi_SR_requireSign mv_SR_requireSign rfl ml_RX10_122 (c_SR_requireSign (gst G) hx hu e1) rfl rfl ⟨rfl, rfl⟩ rfl ⟨rfl, rfl⟩ (fun v9 h9 => ?_) (fun E9 h9 => ?_)
  · obtain ⟨rfl, rfl⟩ := rV_inr h9
    show KK X B L 3 1 6 M 5 [(0, .ref (B.1 + u)), (1, .int p0), (2, .int p1)] []
    refine k_iload_n G (dc d_SR_right 3 rfl) 2 rfl rfl ?_
    refine k_if_eq G (dc d_SR_right 4 rfl) (tgt := 24) rfl (fun c4 => ?_) (fun c4 => ?_)
    · replace h := kOk_p c4 h
      refine k_aload_n G (dc d_SR_right 13 rfl) 0 rfl rfl ?_
      refine k_getR G kc7 (dc d_SR_right 14 rfl) (okL_lt hu (o := 0) 0 rfl) (okL_k hu (o := 0) 0 rfl) 1 (by decide) rfl fl_RX10_19 (u + 3) (okL_r hu (o := 0) (c := 3) 0 rfl 1 rfl) ?_
      refine k_iload_n G (dc d_SR_right 15 rfl) 1 rfl rfl ?_
      refine k_iload_n G (dc d_SR_right 16 rfl) 2 rfl rfl ?_
      refine k_iconst G (dc d_SR_right 17 rfl) cI_1 ?_
      refine kJ h (fun r6 => KK X B L 3 1 6 M 39 [] [.int r6, .int p0, .ref (B.1 + (u + 3))]) (fun r6 h => ?_) (fun h => ?_)
      · obtain ⟨t5, rfl⟩ : ∃ z, z = r6 := ⟨_, rfl⟩
        show KK X B L 3 1 6 M 39 [] [.int t5, .int p0, .ref (B.1 + (u + 3))]
        obtain ⟨⟨x8, M9⟩, e7, h⟩ := kOk_b h
        refine k_cVI G (dc d_SR_right 22 rfl) kc6 (okL_lt hu (o := 3) 3 rfl) (okL_k hu (o := 3) 3 rfl) mi_Tw_spelled mv_Tw_spelled rfl ml_RX10_153 (c_Tw_spelled (gst G) (okL_sub hu 3 (by decide +kernel)) e7) rfl rfl ⟨rfl, rfl⟩ rfl ⟨rfl, rfl⟩ ⟨rfl, rfl⟩ ?_
        exact ((kOk_s h).1 _ rfl) _ _ _ _ rfl rfl rfl (dc d_SR_right 23 rfl)
      · refine k_icmp_ne G (dc d_SR_right 18 rfl) (tgt := 38) rfl (fun c10 => ?_) (fun c10 => ?_)
        · replace h := kOk_n c10 h
          refine k_iconst G (dc d_SR_right 21 rfl) cI_0 ?_
          refine k_sub [] rfl ?_
          have h9 := kOk_s h
          exact h9
        · replace h := kOk_p c10 h
          refine k_iconst G (dc d_SR_right 19 rfl) cI_1 ?_
          refine k_goto G (dc d_SR_right 20 rfl) (tgt := 39) rfl ?_
          refine k_sub [] rfl ?_
          have h9 := kOk_s h
          exact h9
    · replace h := kOk_n c4 h
      refine k_iload_n G (dc d_SR_right 5 rfl) 2 rfl rfl ?_
      refine k_iconst G (dc d_SR_right 6 rfl) cI_1 ?_
      refine k_icmp_eq G (dc d_SR_right 7 rfl) (tgt := 24) rfl (fun c11 => ?_) (fun c11 => ?_)
      · replace h := kOk_p c11 h
        refine k_aload_n G (dc d_SR_right 13 rfl) 0 rfl rfl ?_
        refine k_getR G kc7 (dc d_SR_right 14 rfl) (okL_lt hu (o := 0) 0 rfl) (okL_k hu (o := 0) 0 rfl) 1 (by decide) rfl fl_RX10_19 (u + 3) (okL_r hu (o := 0) (c := 3) 0 rfl 1 rfl) ?_
        refine k_iload_n G (dc d_SR_right 15 rfl) 1 rfl rfl ?_
        refine k_iload_n G (dc d_SR_right 16 rfl) 2 rfl rfl ?_
        refine k_iconst G (dc d_SR_right 17 rfl) cI_1 ?_
        refine kJ h (fun r13 => KK X B L 3 1 6 M 39 [] [.int r13, .int p0, .ref (B.1 + (u + 3))]) (fun r13 h => ?_) (fun h => ?_)
        · obtain ⟨t12, rfl⟩ : ∃ z, z = r13 := ⟨_, rfl⟩
          show KK X B L 3 1 6 M 39 [] [.int t12, .int p0, .ref (B.1 + (u + 3))]
          obtain ⟨⟨x15, M16⟩, e14, h⟩ := kOk_b h
          refine k_cVI G (dc d_SR_right 22 rfl) kc6 (okL_lt hu (o := 3) 3 rfl) (okL_k hu (o := 3) 3 rfl) mi_Tw_spelled mv_Tw_spelled rfl ml_RX10_153 (c_Tw_spelled (gst G) (okL_sub hu 3 (by decide +kernel)) e14) rfl rfl ⟨rfl, rfl⟩ rfl ⟨rfl, rfl⟩ ⟨rfl, rfl⟩ ?_
          exact ((kOk_s h).1 _ rfl) _ _ _ _ rfl rfl rfl (dc d_SR_right 23 rfl)
        · refine k_icmp_ne G (dc d_SR_right 18 rfl) (tgt := 38) rfl (fun c17 => ?_) (fun c17 => ?_)
          · replace h := kOk_n c17 h
            refine k_iconst G (dc d_SR_right 21 rfl) cI_0 ?_
            refine k_sub [] rfl ?_
            have h9 := kOk_s h
            exact h9
          · replace h := kOk_p c17 h
            refine k_iconst G (dc d_SR_right 19 rfl) cI_1 ?_
            refine k_goto G (dc d_SR_right 20 rfl) (tgt := 39) rfl ?_
            refine k_sub [] rfl ?_
            have h9 := kOk_s h
            exact h9
      · replace h := kOk_n c11 h
        exact ((kOk_s h).2 _ rfl).2.1 _ _ _ _ _ 33 151 37 "no such way" ["java/lang/RuntimeException", "java/lang/Exception"] ts_RX10_33_37 sr_RX10_151 (dc d_SR_right 8 rfl) (dc d_SR_right 9 rfl) (dc d_SR_right 10 rfl) (dc d_SR_right 11 rfl) (dc d_SR_right 12 rfl) rfl rfl rfl rfl
  · obtain rfl := rV_inl h9
    exact ((kOk_s h).2 _ rfl).1 _ _ _ _ _ rfl rfl
theorem c_SR_right {l : Launch} {B : KB} {L : KLay} {M : KMem} {u : Nat} {p0 : Int32} {p1 : Int32} (hst : l.stackTraces = false) (hx : B.2.2.2 = false) (hu : okL L u srT) {r : String ⊕ Int32} {M' : KMem} (e : m_SR_right u p0 p1 M = some (r, M')) : CtrX l B yX10_right cX10_right 3 (some .int) rm_SR_right [.ref (B.1 + u), .int p0, .int p1] L M (rI r) M' :=
  mkXI hx rfl hst rfl (fun X hl G R => b_SR_right G hx hu ⟨_, e, R⟩)
def I_SR_requireSetting : List (Nat × Instr × Nat) := [(0, .iload_n 0, 1), (1, .ifCond .lt 8, 3), (4, .iload_n 0, 1), (5, .iconst 2, 1), (6, .if_icmp .lt 14, 3), (9, .new 33, 3), (12, .dup, 1), (13, .ldc_w 295, 3), (16, .invokespecial 37, 3), (19, .athrow, 1), (20, .return_, 1)]
set_option maxRecDepth 100000 in
theorem d_SR_requireSetting : decA cX10_requireSetting I_SR_requireSetting = true := by decide +kernel
abbrev rm_SR_requireSetting : Room := ({ frames := 6, cells := 1, slots := 6, locals := 92 } : Room)
def m_SR_requireSetting (p0 : Int32) : Option (Option String) :=
 if p0 < 0 then
 (some (some "java/lang/IllegalArgumentException"))
 else
 (if p0 < 2 then
 (some none)
 else
 (some (some "java/lang/IllegalArgumentException")))
set_option maxHeartbeats 4000000 in
set_option maxRecDepth 100000 in
theorem b_SR_requireSetting {X : KX} {B : KB} {L : KLay} {M : KMem} {p0 : Int32} (G : Good X B RX10 cX10_requireSetting 1 rm_SR_requireSetting) (hx : B.2.2.2 = false)  (h : kOk (m_SR_requireSetting p0) (fun r => RXV X B L 1 RX10 cX10_requireSetting rm_SR_requireSetting r M)) : KK X B L 1 0 0 M 0 [(0, .int p0)] [] := by
  unfold m_SR_requireSetting at h
  refine k_iload_n G (dc d_SR_requireSetting 0 rfl) 0 rfl rfl ?_
  refine k_if_lt G (dc d_SR_requireSetting 1 rfl) (tgt := 9) rfl (fun c1 => ?_) (fun c1 => ?_)
  · replace h := kOk_p c1 h
    exact ((kOk_s h).2 _ rfl).2.2 _ _ _ _ _ 33 295 37 "no such setting" ["java/lang/RuntimeException", "java/lang/Exception"] ts_RX10_33_37 sr_RX10_295 (dc d_SR_requireSetting 5 rfl) (dc d_SR_requireSetting 6 rfl) (dc d_SR_requireSetting 7 rfl) (dc d_SR_requireSetting 8 rfl) (dc d_SR_requireSetting 9 rfl) rfl rfl rfl rfl
  · replace h := kOk_n c1 h
    refine k_iload_n G (dc d_SR_requireSetting 2 rfl) 0 rfl rfl ?_
    refine k_iconst G (dc d_SR_requireSetting 3 rfl) cI_2 ?_
    refine k_icmp_lt G (dc d_SR_requireSetting 4 rfl) (tgt := 20) rfl (fun c2 => ?_) (fun c2 => ?_)
    · replace h := kOk_p c2 h
      exact ((kOk_s h).1 rfl) _ _ _ _ rfl rfl (dc d_SR_requireSetting 10 rfl)
    · replace h := kOk_n c2 h
      exact ((kOk_s h).2 _ rfl).2.2 _ _ _ _ _ 33 295 37 "no such setting" ["java/lang/RuntimeException", "java/lang/Exception"] ts_RX10_33_37 sr_RX10_295 (dc d_SR_requireSetting 5 rfl) (dc d_SR_requireSetting 6 rfl) (dc d_SR_requireSetting 7 rfl) (dc d_SR_requireSetting 8 rfl) (dc d_SR_requireSetting 9 rfl) rfl rfl rfl rfl
theorem c_SR_requireSetting {l : Launch} {B : KB} {L : KLay} {M : KMem} {p0 : Int32} (hst : l.stackTraces = false) (hx : B.2.2.2 = false)  {r : Option String} (e : m_SR_requireSetting p0 = some r) : CtrX l B yX10_requireSetting cX10_requireSetting 1 none rm_SR_requireSetting [.int p0] L M (rV r) M :=
  mkXV hx rfl hst rfl (fun X hl G R => b_SR_requireSetting G hx  ⟨_, e, R⟩)
def I_SR_setting : List (Nat × Instr × Nat) := [(0, .iload_n 1, 1), (1, .invokestatic 157, 3), (4, .aload_n 0, 1), (5, .getfield 19, 3), (8, .getfield 59, 3), (11, .getfield 160, 3), (14, .iload_n 1, 1), (15, .iaload, 1), (16, .ireturn, 1)]
set_option maxRecDepth 100000 in
theorem d_SR_setting : decA cX10_setting I_SR_setting = true := by decide +kernel
abbrev rm_SR_setting : Room := ({ frames := 7, cells := 1, slots := 6, locals := 112 } : Room)
def m_SR_setting (u : Nat) (p0 : Int32) (M : KMem) : Option (String ⊕ Int32) :=
 Option.bind (m_SR_requireSetting p0) fun r2 => match r2 with
 | some E3 => some (.inl E3)
 | none =>
 (Option.bind (rdI M (u + 15) 2 p0) fun x5 =>
 some (.inr x5))
set_option maxHeartbeats 4000000 in
set_option maxRecDepth 100000 in
theorem b_SR_setting {X : KX} {B : KB} {L : KLay} {M : KMem} {u : Nat} {p0 : Int32} (G : Good X B RX10 cX10_setting 2 rm_SR_setting) (hx : B.2.2.2 = false) (hu : okL L u srT) (h : kOk (m_SR_setting u p0 M) (fun r => RXI X B L 2 RX10 cX10_setting .int rm_SR_setting r M)) : KK X B L 2 0 0 M 0 [(0, .ref (B.1 + u)), (1, .int p0)] [] := by
  unfold m_SR_setting at h
  refine k_iload_n G (dc d_SR_setting 0 rfl) 1 rfl rfl ?_
  obtain ⟨r2, e1, h⟩ := kOk_b h
  refine k_callSX G (dc d_SR_setting 1 rfl) mi_SR_requireSetting ms_SR_requireSetting ml_RX10_157 (c_SR_requireSetting (gst G) hx  e1) rfl rfl ⟨rfl, rfl⟩ rfl ⟨rfl, rfl⟩ (fun v9 h9 => ?_) (fun E9 h9 => ?_)
  · obtain ⟨rfl, rfl⟩ := rV_inr h9
    show KK X B L 2 1 6 M 4 [(0, .ref (B.1 + u)), (1, .int p0)] []
    refine k_aload_n G (dc d_SR_setting 2 rfl) 0 rfl rfl ?_
    refine k_getR G kc7 (dc d_SR_setting 3 rfl) (okL_lt hu (o := 0) 0 rfl) (okL_k hu (o := 0) 0 rfl) 1 (by decide) rfl fl_RX10_19 (u + 3) (okL_r hu (o := 0) (c := 3) 0 rfl 1 rfl) ?_
    refine k_getR G kc6 (dc d_SR_setting 4 rfl) (okL_lt hu (o := 3) 3 rfl) (okL_k hu (o := 3) 3 rfl) 0 (by decide) rfl fl_RX10_59 (u + 4) (okL_r hu (o := 3) (c := 4) 3 rfl 0 rfl) ?_
    refine k_getR G kc5 (dc d_SR_setting 5 rfl) (okL_lt hu (o := 4) 4 rfl) (okL_k hu (o := 4) 4 rfl) 10 (by decide) rfl fl_RX10_160 (u + 15) (okL_r hu (o := 4) (c := 15) 4 rfl 9 rfl) ?_
    refine k_iload_n G (dc d_SR_setting 6 rfl) 1 rfl rfl ?_
    obtain ⟨x5, e4, h⟩ := kOk_b h
    refine k_ild G (dc d_SR_setting 7 rfl) (okL_lt hu (o := 15) 15 rfl) (okL_k hu (o := 15) 15 rfl) (okL_n hu (o := 15) 15 rfl) e4 ?_
    exact ((kOk_s h).1 _ rfl) _ _ _ _ rfl rfl rfl (dc d_SR_setting 8 rfl)
  · obtain rfl := rV_inl h9
    exact ((kOk_s h).2 _ rfl).1 _ _ _ _ _ rfl rfl
theorem c_SR_setting {l : Launch} {B : KB} {L : KLay} {M : KMem} {u : Nat} {p0 : Int32} (hst : l.stackTraces = false) (hx : B.2.2.2 = false) (hu : okL L u srT) {r : String ⊕ Int32} (e : m_SR_setting u p0 M = some r) : CtrX l B yX10_setting cX10_setting 2 (some .int) rm_SR_setting [.ref (B.1 + u), .int p0] L M (rI r) M :=
  mkXI hx rfl hst rfl (fun X hl G R => b_SR_setting G hx hu ⟨_, e, R⟩)
def I_SR_sign : List (Nat × Instr × Nat) := [(0, .iload_n 1, 1), (1, .invokestatic 143, 3), (4, .iload_n 2, 1), (5, .invokestatic 164, 3), (8, .ifCond .ne 13, 3), (11, .new 33, 3), (14, .dup, 1), (15, .ldc 170, 2), (17, .invokespecial 37, 3), (20, .athrow, 1), (21, .aload_n 0, 1), (22, .getfield 19, 3), (25, .getfield 59, 3), (28, .getfield 172, 3), (31, .bipush 8, 2), (33, .if_icmp .lt 13, 3), (36, .new 44, 3), (39, .dup, 1), (40, .ldc 175, 2), (42, .invokespecial 48, 3), (45, .athrow, 1), (46, .aload_n 0, 1), (47, .getfield 29, 3), (50, .aload_n 0, 1), (51, .getfield 19, 3), (54, .getfield 59, 3), (57, .invokevirtual 177, 3), (60, .aload_n 0, 1), (61, .getfield 19, 3), (64, .aload_n 0, 1), (65, .getfield 19, 3), (68, .iload_n 1, 1), (69, .iload_n 2, 1), (70, .invokevirtual 96, 3), (73, .invokevirtual 181, 3), (76, .ireturn, 1)]
set_option maxRecDepth 100000 in
theorem d_SR_sign : decA cX10_sign I_SR_sign = true := by decide +kernel
abbrev rm_SR_sign : Room := ({ frames := 7, cells := 2, slots := 12, locals := 124 } : Room)
def m_SR_sign (u : Nat) (p0 : Int32) (p1 : Int32) (M : KMem) : Option ((String ⊕ Int32) × KMem) :=
 Option.bind (m_SR_requireGuild p0) fun r2 => match r2 with
 | some E3 => some (.inl E3, M)
 | none =>
 (Option.bind (m_Wo_isWord p1) fun x5 =>
 if x5 = 0 then
 (some (.inl "java/lang/IllegalArgumentException", M))
 else
 (if (M (u + 4) 1) < 8 then
 (Option.bind (m_Me_remember (u + 39) (u + 4) M) fun M9 =>
 Option.bind (m_Tw_bringSign (u + 3) p0 p1 M9) fun (x11, M12) =>
 Option.bind (m_Tw_counted (u + 3) x11 M12) fun (x14, M15) =>
 some (.inr x14, M15))
 else
 (some (.inl "java/lang/IllegalStateException", M))))
set_option maxHeartbeats 4000000 in
set_option maxRecDepth 100000 in
theorem b_SR_sign {X : KX} {B : KB} {L : KLay} {M : KMem} {u : Nat} {p0 : Int32} {p1 : Int32} (G : Good X B RX10 cX10_sign 3 rm_SR_sign) (hx : B.2.2.2 = false) (hu : okL L u srT) (h : kOk (m_SR_sign u p0 p1 M) (fun r => RXI X B L 3 RX10 cX10_sign .int rm_SR_sign r.1 r.2)) : KK X B L 3 0 0 M 0 [(0, .ref (B.1 + u)), (1, .int p0), (2, .int p1)] [] := by
  unfold m_SR_sign at h
  refine k_iload_n G (dc d_SR_sign 0 rfl) 1 rfl rfl ?_
  obtain ⟨r2, e1, h⟩ := kOk_b h
  refine k_callSX G (dc d_SR_sign 1 rfl) mi_SR_requireGuild ms_SR_requireGuild ml_RX10_143 (c_SR_requireGuild (gst G) hx  e1) rfl rfl ⟨rfl, rfl⟩ rfl ⟨rfl, rfl⟩ (fun v9 h9 => ?_) (fun E9 h9 => ?_)
  · obtain ⟨rfl, rfl⟩ := rV_inr h9
    show KK X B L 3 1 6 M 4 [(0, .ref (B.1 + u)), (1, .int p0), (2, .int p1)] []
    refine k_iload_n G (dc d_SR_sign 2 rfl) 2 rfl rfl ?_
    obtain ⟨x5, e4, h⟩ := kOk_b h
    refine k_cSI G (dc d_SR_sign 3 rfl) mi_Wo_isWord ms_Wo_isWord ml_RX10_164 (c_Wo_isWord (gst G)  e4) rfl rfl ⟨rfl, rfl⟩ rfl ⟨rfl, rfl⟩ ⟨rfl, rfl⟩ ?_
    refine k_if_ne G (dc d_SR_sign 4 rfl) (tgt := 21) rfl (fun c6 => ?_) (fun c6 => ?_)
    · replace h := kOk_n c6 h
      refine k_aload_n G (dc d_SR_sign 10 rfl) 0 rfl rfl ?_
      refine k_getR G kc7 (dc d_SR_sign 11 rfl) (okL_lt hu (o := 0) 0 rfl) (okL_k hu (o := 0) 0 rfl) 1 (by decide) rfl fl_RX10_19 (u + 3) (okL_r hu (o := 0) (c := 3) 0 rfl 1 rfl) ?_
      refine k_getR G kc6 (dc d_SR_sign 12 rfl) (okL_lt hu (o := 3) 3 rfl) (okL_k hu (o := 3) 3 rfl) 0 (by decide) rfl fl_RX10_59 (u + 4) (okL_r hu (o := 3) (c := 4) 3 rfl 0 rfl) ?_
      refine k_getI G kc5 (dc d_SR_sign 13 rfl) (okL_lt hu (o := 4) 4 rfl) (okL_k hu (o := 4) 4 rfl) 1 (by decide) rfl fl_RX10_172 ?_
      refine k_bipush G (dc d_SR_sign 14 rfl) cB_8 ?_
      refine k_icmp_lt G (dc d_SR_sign 15 rfl) (tgt := 46) rfl (fun c7 => ?_) (fun c7 => ?_)
      · replace h := kOk_p c7 h
        refine k_aload_n G (dc d_SR_sign 21 rfl) 0 rfl rfl ?_
        refine k_getR G kc7 (dc d_SR_sign 22 rfl) (okL_lt hu (o := 0) 0 rfl) (okL_k hu (o := 0) 0 rfl) 3 (by decide) rfl fl_RX10_29 (u + 39) (okL_r hu (o := 0) (c := 39) 0 rfl 3 rfl) ?_
        refine k_aload_n G (dc d_SR_sign 23 rfl) 0 rfl rfl ?_
        refine k_getR G kc7 (dc d_SR_sign 24 rfl) (okL_lt hu (o := 0) 0 rfl) (okL_k hu (o := 0) 0 rfl) 1 (by decide) rfl fl_RX10_19 (u + 3) (okL_r hu (o := 0) (c := 3) 0 rfl 1 rfl) ?_
        refine k_getR G kc6 (dc d_SR_sign 25 rfl) (okL_lt hu (o := 3) 3 rfl) (okL_k hu (o := 3) 3 rfl) 0 (by decide) rfl fl_RX10_59 (u + 4) (okL_r hu (o := 3) (c := 4) 3 rfl 0 rfl) ?_
        obtain ⟨M9, e8, h⟩ := kOk_b h
        refine k_cVV G (dc d_SR_sign 26 rfl) kc2 (okL_lt hu (o := 39) 39 rfl) (okL_k hu (o := 39) 39 rfl) mi_Me_remember mv_Me_remember rfl ml_RX10_177 (c_Me_remember (gst G) hx (okL_sub hu 39 (by decide +kernel)) (okL_sub hu 4 (by decide +kernel)) e8) rfl rfl ⟨rfl, rfl⟩ rfl ⟨rfl, rfl⟩ ⟨rfl, rfl⟩ ?_
        refine k_aload_n G (dc d_SR_sign 27 rfl) 0 rfl rfl ?_
        refine k_getR G kc7 (dc d_SR_sign 28 rfl) (okL_lt hu (o := 0) 0 rfl) (okL_k hu (o := 0) 0 rfl) 1 (by decide) rfl fl_RX10_19 (u + 3) (okL_r hu (o := 0) (c := 3) 0 rfl 1 rfl) ?_
        refine k_aload_n G (dc d_SR_sign 29 rfl) 0 rfl rfl ?_
        refine k_getR G kc7 (dc d_SR_sign 30 rfl) (okL_lt hu (o := 0) 0 rfl) (okL_k hu (o := 0) 0 rfl) 1 (by decide) rfl fl_RX10_19 (u + 3) (okL_r hu (o := 0) (c := 3) 0 rfl 1 rfl) ?_
        refine k_iload_n G (dc d_SR_sign 31 rfl) 1 rfl rfl ?_
        refine k_iload_n G (dc d_SR_sign 32 rfl) 2 rfl rfl ?_
        obtain ⟨⟨x11, M12⟩, e10, h⟩ := kOk_b h
        refine k_cVI G (dc d_SR_sign 33 rfl) kc6 (okL_lt hu (o := 3) 3 rfl) (okL_k hu (o := 3) 3 rfl) mi_Tw_bringSign mv_Tw_bringSign rfl ml_RX10_96 (c_Tw_bringSign (gst G) (okL_sub hu 3 (by decide +kernel)) e10) rfl rfl ⟨rfl, rfl⟩ rfl ⟨rfl, rfl⟩ ⟨rfl, rfl⟩ ?_
        obtain ⟨⟨x14, M15⟩, e13, h⟩ := kOk_b h
        refine k_cVI G (dc d_SR_sign 34 rfl) kc6 (okL_lt hu (o := 3) 3 rfl) (okL_k hu (o := 3) 3 rfl) mi_Tw_counted mv_Tw_counted rfl ml_RX10_181 (c_Tw_counted (gst G) (okL_sub hu 3 (by decide +kernel)) e13) rfl rfl ⟨rfl, rfl⟩ rfl ⟨rfl, rfl⟩ ⟨rfl, rfl⟩ ?_
        exact ((kOk_s h).1 _ rfl) _ _ _ _ rfl rfl rfl (dc d_SR_sign 35 rfl)
      · replace h := kOk_n c7 h
        exact ((kOk_s h).2 _ rfl).2.1 _ _ _ _ _ 44 175 48 "there are 8 signs" ["java/lang/RuntimeException", "java/lang/Exception"] ts_RX10_44_48 sr_RX10_175 (dc d_SR_sign 16 rfl) (dc d_SR_sign 17 rfl) (dc d_SR_sign 18 rfl) (dc d_SR_sign 19 rfl) (dc d_SR_sign 20 rfl) rfl rfl rfl rfl
    · replace h := kOk_p c6 h
      exact ((kOk_s h).2 _ rfl).2.1 _ _ _ _ _ 33 170 37 "no word" ["java/lang/RuntimeException", "java/lang/Exception"] ts_RX10_33_37 sr_RX10_170 (dc d_SR_sign 5 rfl) (dc d_SR_sign 6 rfl) (dc d_SR_sign 7 rfl) (dc d_SR_sign 8 rfl) (dc d_SR_sign 9 rfl) rfl rfl rfl rfl
  · obtain rfl := rV_inl h9
    exact ((kOk_s h).2 _ rfl).1 _ _ _ _ _ rfl rfl
theorem c_SR_sign {l : Launch} {B : KB} {L : KLay} {M : KMem} {u : Nat} {p0 : Int32} {p1 : Int32} (hst : l.stackTraces = false) (hx : B.2.2.2 = false) (hu : okL L u srT) {r : String ⊕ Int32} {M' : KMem} (e : m_SR_sign u p0 p1 M = some (r, M')) : CtrX l B yX10_sign cX10_sign 3 (some .int) rm_SR_sign [.ref (B.1 + u), .int p0, .int p1] L M (rI r) M' :=
  mkXI hx rfl hst rfl (fun X hl G R => b_SR_sign G hx hu ⟨_, e, R⟩)
def I_SR_requireDecreeArguments : List (Nat × Instr × Nat) := [(0, .iload_n 0, 1), (1, .iload_n 1, 1), (2, .iload_n 2, 1), (3, .iload_n 3, 1), (4, .invokestatic 297, 3), (7, .ifCond .ne 14, 3), (10, .new 33, 3), (13, .dup, 1), (14, .ldc_w 289, 3), (17, .invokespecial 37, 3), (20, .athrow, 1), (21, .return_, 1)]
set_option maxRecDepth 100000 in
theorem d_SR_requireDecreeArguments : decA cX10_requireDecreeArguments I_SR_requireDecreeArguments = true := by decide +kernel
abbrev rm_SR_requireDecreeArguments : Room := ({ frames := 6, cells := 1, slots := 6, locals := 92 } : Room)
def m_SR_requireDecreeArguments (p0 : Int32) (p1 : Int32) (p2 : Int32) (p3 : Int32) : Option (Option String) :=
 Option.bind (m_De_canBe p0 p1 p2 p3) fun x2 =>
 if x2 = 0 then
 (some (some "java/lang/IllegalArgumentException"))
 else
 (some none)
set_option maxHeartbeats 4000000 in
set_option maxRecDepth 100000 in
theorem b_SR_requireDecreeArguments {X : KX} {B : KB} {L : KLay} {M : KMem} {p0 : Int32} {p1 : Int32} {p2 : Int32} {p3 : Int32} (G : Good X B RX10 cX10_requireDecreeArguments 4 rm_SR_requireDecreeArguments) (hx : B.2.2.2 = false)  (h : kOk (m_SR_requireDecreeArguments p0 p1 p2 p3) (fun r => RXV X B L 4 RX10 cX10_requireDecreeArguments rm_SR_requireDecreeArguments r M)) : KK X B L 4 0 0 M 0 [(0, .int p0), (1, .int p1), (2, .int p2), (3, .int p3)] [] := by
  unfold m_SR_requireDecreeArguments at h
  refine k_iload_n G (dc d_SR_requireDecreeArguments 0 rfl) 0 rfl rfl ?_
  refine k_iload_n G (dc d_SR_requireDecreeArguments 1 rfl) 1 rfl rfl ?_
  refine k_iload_n G (dc d_SR_requireDecreeArguments 2 rfl) 2 rfl rfl ?_
  refine k_iload_n G (dc d_SR_requireDecreeArguments 3 rfl) 3 rfl rfl ?_
  obtain ⟨x2, e1, h⟩ := kOk_b h
  refine k_cSI G (dc d_SR_requireDecreeArguments 4 rfl) mi_De_canBe ms_De_canBe ml_RX10_297 (c_De_canBe (gst G)  e1) rfl rfl ⟨rfl, rfl⟩ rfl ⟨rfl, rfl⟩ ⟨rfl, rfl⟩ ?_
  refine k_if_ne G (dc d_SR_requireDecreeArguments 5 rfl) (tgt := 21) rfl (fun c3 => ?_) (fun c3 => ?_)
  · replace h := kOk_n c3 h
    exact ((kOk_s h).1 rfl) _ _ _ _ rfl rfl (dc d_SR_requireDecreeArguments 11 rfl)
  · replace h := kOk_p c3 h
    exact ((kOk_s h).2 _ rfl).2.2 _ _ _ _ _ 33 289 37 "no such decree" ["java/lang/RuntimeException", "java/lang/Exception"] ts_RX10_33_37 sr_RX10_289 (dc d_SR_requireDecreeArguments 6 rfl) (dc d_SR_requireDecreeArguments 7 rfl) (dc d_SR_requireDecreeArguments 8 rfl) (dc d_SR_requireDecreeArguments 9 rfl) (dc d_SR_requireDecreeArguments 10 rfl) rfl rfl rfl rfl
theorem c_SR_requireDecreeArguments {l : Launch} {B : KB} {L : KLay} {M : KMem} {p0 : Int32} {p1 : Int32} {p2 : Int32} {p3 : Int32} (hst : l.stackTraces = false) (hx : B.2.2.2 = false)  {r : Option String} (e : m_SR_requireDecreeArguments p0 p1 p2 p3 = some r) : CtrX l B yX10_requireDecreeArguments cX10_requireDecreeArguments 4 none rm_SR_requireDecreeArguments [.int p0, .int p1, .int p2, .int p3] L M (rV r) M :=
  mkXV hx rfl hst rfl (fun X hl G R => b_SR_requireDecreeArguments G hx  ⟨_, e, R⟩)
def I_SR_decree : List (Nat × Instr × Nat) := [(0, .iload_n 1, 1), (1, .iload_n 2, 1), (2, .iload_n 3, 1), (3, .iload 4, 2), (5, .invokestatic 184, 3), (8, .aload_n 0, 1), (9, .getfield 19, 3), (12, .getfield 59, 3), (15, .getfield 135, 3), (18, .invokevirtual 188, 3), (21, .ifCond .eq 13, 3), (24, .new 44, 3), (27, .dup, 1), (28, .ldc 191, 2), (30, .invokespecial 48, 3), (33, .athrow, 1), (34, .aload_n 0, 1), (35, .getfield 29, 3), (38, .aload_n 0, 1), (39, .getfield 19, 3), (42, .getfield 59, 3), (45, .invokevirtual 177, 3), (48, .aload_n 0, 1), (49, .getfield 19, 3), (52, .aload_n 0, 1), (53, .getfield 19, 3), (56, .iload_n 1, 1), (57, .iload_n 2, 1), (58, .iload_n 3, 1), (59, .iload 4, 2), (61, .invokevirtual 100, 3), (64, .invokevirtual 181, 3), (67, .ireturn, 1)]
set_option maxRecDepth 100000 in
theorem d_SR_decree : decA cX10_decree I_SR_decree = true := by decide +kernel
abbrev rm_SR_decree : Room := ({ frames := 7, cells := 2, slots := 12, locals := 124 } : Room)
def m_SR_decree (u : Nat) (p0 : Int32) (p1 : Int32) (p2 : Int32) (p3 : Int32) (M : KMem) : Option ((String ⊕ Int32) × KMem) :=
 Option.bind (m_SR_requireDecreeArguments p0 p1 p2 p3) fun r2 => match r2 with
 | some E3 => some (.inl E3, M)
 | none =>
 (Option.bind (m_De_areFull (u + 5) M) fun x5 =>
 if x5 = 0 then
 (Option.bind (m_Me_remember (u + 39) (u + 4) M) fun M8 =>
 Option.bind (m_Tw_giveDecree (u + 3) p0 p1 p2 p3 M8) fun (x10, M11) =>
 Option.bind (m_Tw_counted (u + 3) x10 M11) fun (x13, M14) =>
 some (.inr x13, M14))
 else
 (some (.inl "java/lang/IllegalStateException", M)))
set_option maxHeartbeats 4000000 in
set_option maxRecDepth 100000 in
theorem b_SR_decree {X : KX} {B : KB} {L : KLay} {M : KMem} {u : Nat} {p0 : Int32} {p1 : Int32} {p2 : Int32} {p3 : Int32} (G : Good X B RX10 cX10_decree 5 rm_SR_decree) (hx : B.2.2.2 = false) (hu : okL L u srT) (h : kOk (m_SR_decree u p0 p1 p2 p3 M) (fun r => RXI X B L 5 RX10 cX10_decree .int rm_SR_decree r.1 r.2)) : KK X B L 5 0 0 M 0 [(0, .ref (B.1 + u)), (1, .int p0), (2, .int p1), (3, .int p2), (4, .int p3)] [] := by
  unfold m_SR_decree at h
  refine k_iload_n G (dc d_SR_decree 0 rfl) 1 rfl rfl ?_
  refine k_iload_n G (dc d_SR_decree 1 rfl) 2 rfl rfl ?_
  refine k_iload_n G (dc d_SR_decree 2 rfl) 3 rfl rfl ?_
  refine k_iload G (dc d_SR_decree 3 rfl) 4 rfl ?_
  obtain ⟨r2, e1, h⟩ := kOk_b h
  refine k_callSX G (dc d_SR_decree 4 rfl) mi_SR_requireDecreeArguments ms_SR_requireDecreeArguments ml_RX10_184 (c_SR_requireDecreeArguments (gst G) hx  e1) rfl rfl ⟨rfl, rfl⟩ rfl ⟨rfl, rfl⟩ (fun v9 h9 => ?_) (fun E9 h9 => ?_)
  · obtain ⟨rfl, rfl⟩ := rV_inr h9
    show KK X B L 5 1 6 M 8 [(0, .ref (B.1 + u)), (1, .int p0), (2, .int p1), (3, .int p2), (4, .int p3)] []
    refine k_aload_n G (dc d_SR_decree 5 rfl) 0 rfl rfl ?_
    refine k_getR G kc7 (dc d_SR_decree 6 rfl) (okL_lt hu (o := 0) 0 rfl) (okL_k hu (o := 0) 0 rfl) 1 (by decide) rfl fl_RX10_19 (u + 3) (okL_r hu (o := 0) (c := 3) 0 rfl 1 rfl) ?_
    refine k_getR G kc6 (dc d_SR_decree 7 rfl) (okL_lt hu (o := 3) 3 rfl) (okL_k hu (o := 3) 3 rfl) 0 (by decide) rfl fl_RX10_59 (u + 4) (okL_r hu (o := 3) (c := 4) 3 rfl 0 rfl) ?_
    refine k_getR G kc5 (dc d_SR_decree 8 rfl) (okL_lt hu (o := 4) 4 rfl) (okL_k hu (o := 4) 4 rfl) 0 (by decide) rfl fl_RX10_135 (u + 5) (okL_r hu (o := 4) (c := 5) 4 rfl 0 rfl) ?_
    obtain ⟨x5, e4, h⟩ := kOk_b h
    refine k_cVI G (dc d_SR_decree 9 rfl) kc0 (okL_lt hu (o := 5) 5 rfl) (okL_k hu (o := 5) 5 rfl) mi_De_areFull mv_De_areFull rfl ml_RX10_188 (c_De_areFull (gst G) (okL_sub hu 5 (by decide +kernel)) e4) rfl rfl ⟨rfl, rfl⟩ rfl ⟨rfl, rfl⟩ ⟨rfl, rfl⟩ ?_
    refine k_if_eq G (dc d_SR_decree 10 rfl) (tgt := 34) rfl (fun c6 => ?_) (fun c6 => ?_)
    · replace h := kOk_p c6 h
      refine k_aload_n G (dc d_SR_decree 16 rfl) 0 rfl rfl ?_
      refine k_getR G kc7 (dc d_SR_decree 17 rfl) (okL_lt hu (o := 0) 0 rfl) (okL_k hu (o := 0) 0 rfl) 3 (by decide) rfl fl_RX10_29 (u + 39) (okL_r hu (o := 0) (c := 39) 0 rfl 3 rfl) ?_
      refine k_aload_n G (dc d_SR_decree 18 rfl) 0 rfl rfl ?_
      refine k_getR G kc7 (dc d_SR_decree 19 rfl) (okL_lt hu (o := 0) 0 rfl) (okL_k hu (o := 0) 0 rfl) 1 (by decide) rfl fl_RX10_19 (u + 3) (okL_r hu (o := 0) (c := 3) 0 rfl 1 rfl) ?_
      refine k_getR G kc6 (dc d_SR_decree 20 rfl) (okL_lt hu (o := 3) 3 rfl) (okL_k hu (o := 3) 3 rfl) 0 (by decide) rfl fl_RX10_59 (u + 4) (okL_r hu (o := 3) (c := 4) 3 rfl 0 rfl) ?_
      obtain ⟨M8, e7, h⟩ := kOk_b h
      refine k_cVV G (dc d_SR_decree 21 rfl) kc2 (okL_lt hu (o := 39) 39 rfl) (okL_k hu (o := 39) 39 rfl) mi_Me_remember mv_Me_remember rfl ml_RX10_177 (c_Me_remember (gst G) hx (okL_sub hu 39 (by decide +kernel)) (okL_sub hu 4 (by decide +kernel)) e7) rfl rfl ⟨rfl, rfl⟩ rfl ⟨rfl, rfl⟩ ⟨rfl, rfl⟩ ?_
      refine k_aload_n G (dc d_SR_decree 22 rfl) 0 rfl rfl ?_
      refine k_getR G kc7 (dc d_SR_decree 23 rfl) (okL_lt hu (o := 0) 0 rfl) (okL_k hu (o := 0) 0 rfl) 1 (by decide) rfl fl_RX10_19 (u + 3) (okL_r hu (o := 0) (c := 3) 0 rfl 1 rfl) ?_
      refine k_aload_n G (dc d_SR_decree 24 rfl) 0 rfl rfl ?_
      refine k_getR G kc7 (dc d_SR_decree 25 rfl) (okL_lt hu (o := 0) 0 rfl) (okL_k hu (o := 0) 0 rfl) 1 (by decide) rfl fl_RX10_19 (u + 3) (okL_r hu (o := 0) (c := 3) 0 rfl 1 rfl) ?_
      refine k_iload_n G (dc d_SR_decree 26 rfl) 1 rfl rfl ?_
      refine k_iload_n G (dc d_SR_decree 27 rfl) 2 rfl rfl ?_
      refine k_iload_n G (dc d_SR_decree 28 rfl) 3 rfl rfl ?_
      refine k_iload G (dc d_SR_decree 29 rfl) 4 rfl ?_
      obtain ⟨⟨x10, M11⟩, e9, h⟩ := kOk_b h
      refine k_cVI G (dc d_SR_decree 30 rfl) kc6 (okL_lt hu (o := 3) 3 rfl) (okL_k hu (o := 3) 3 rfl) mi_Tw_giveDecree mv_Tw_giveDecree rfl ml_RX10_100 (c_Tw_giveDecree (gst G) hx (okL_sub hu 3 (by decide +kernel)) e9) rfl rfl ⟨rfl, rfl⟩ rfl ⟨rfl, rfl⟩ ⟨rfl, rfl⟩ ?_
      obtain ⟨⟨x13, M14⟩, e12, h⟩ := kOk_b h
      refine k_cVI G (dc d_SR_decree 31 rfl) kc6 (okL_lt hu (o := 3) 3 rfl) (okL_k hu (o := 3) 3 rfl) mi_Tw_counted mv_Tw_counted rfl ml_RX10_181 (c_Tw_counted (gst G) (okL_sub hu 3 (by decide +kernel)) e12) rfl rfl ⟨rfl, rfl⟩ rfl ⟨rfl, rfl⟩ ⟨rfl, rfl⟩ ?_
      exact ((kOk_s h).1 _ rfl) _ _ _ _ rfl rfl rfl (dc d_SR_decree 32 rfl)
    · replace h := kOk_n c6 h
      exact ((kOk_s h).2 _ rfl).2.1 _ _ _ _ _ 44 191 48 "10 decrees are in force" ["java/lang/RuntimeException", "java/lang/Exception"] ts_RX10_44_48 sr_RX10_191 (dc d_SR_decree 11 rfl) (dc d_SR_decree 12 rfl) (dc d_SR_decree 13 rfl) (dc d_SR_decree 14 rfl) (dc d_SR_decree 15 rfl) rfl rfl rfl rfl
  · obtain rfl := rV_inl h9
    exact ((kOk_s h).2 _ rfl).1 _ _ _ _ _ rfl rfl
theorem c_SR_decree {l : Launch} {B : KB} {L : KLay} {M : KMem} {u : Nat} {p0 : Int32} {p1 : Int32} {p2 : Int32} {p3 : Int32} (hst : l.stackTraces = false) (hx : B.2.2.2 = false) (hu : okL L u srT) {r : String ⊕ Int32} {M' : KMem} (e : m_SR_decree u p0 p1 p2 p3 M = some (r, M')) : CtrX l B yX10_decree cX10_decree 5 (some .int) rm_SR_decree [.ref (B.1 + u), .int p0, .int p1, .int p2, .int p3] L M (rI r) M' :=
  mkXI hx rfl hst rfl (fun X hl G R => b_SR_decree G hx hu ⟨_, e, R⟩)
def I_SR_revoke : List (Nat × Instr × Nat) := [(0, .aload_n 0, 1), (1, .iload_n 1, 1), (2, .invokevirtual 130, 3), (5, .aload_n 0, 1), (6, .getfield 29, 3), (9, .aload_n 0, 1), (10, .getfield 19, 3), (13, .getfield 59, 3), (16, .invokevirtual 177, 3), (19, .aload_n 0, 1), (20, .getfield 19, 3), (23, .aload_n 0, 1), (24, .getfield 19, 3), (27, .iload_n 1, 1), (28, .invokevirtual 104, 3), (31, .invokevirtual 181, 3), (34, .ireturn, 1)]
set_option maxRecDepth 100000 in
theorem d_SR_revoke : decA cX10_revoke I_SR_revoke = true := by decide +kernel
abbrev rm_SR_revoke : Room := ({ frames := 7, cells := 1, slots := 6, locals := 124 } : Room)
def m_SR_revoke (u : Nat) (p0 : Int32) (M : KMem) : Option ((String ⊕ Int32) × KMem) :=
 Option.bind (m_SR_requireDecree u p0 M) fun r2 => match r2 with
 | some E3 => some (.inl E3, M)
 | none =>
 (Option.bind (m_Me_remember (u + 39) (u + 4) M) fun M5 =>
 Option.bind (m_Tw_takeDecree (u + 3) p0 M5) fun (x7, M8) =>
 Option.bind (m_Tw_counted (u + 3) x7 M8) fun (x10, M11) =>
 some (.inr x10, M11))
set_option maxHeartbeats 4000000 in
set_option maxRecDepth 100000 in
theorem b_SR_revoke {X : KX} {B : KB} {L : KLay} {M : KMem} {u : Nat} {p0 : Int32} (G : Good X B RX10 cX10_revoke 2 rm_SR_revoke) (hx : B.2.2.2 = false) (hu : okL L u srT) (h : kOk (m_SR_revoke u p0 M) (fun r => RXI X B L 2 RX10 cX10_revoke .int rm_SR_revoke r.1 r.2)) : KK X B L 2 0 0 M 0 [(0, .ref (B.1 + u)), (1, .int p0)] [] := by
  unfold m_SR_revoke at h
  refine k_aload_n G (dc d_SR_revoke 0 rfl) 0 rfl rfl ?_
  refine k_iload_n G (dc d_SR_revoke 1 rfl) 1 rfl rfl ?_
  obtain ⟨r2, e1, h⟩ := kOk_b h
  refine k_callVX G (dc d_SR_revoke 2 rfl) kc7 (okL_lt hu (o := 0) 0 rfl) (okL_k hu (o := 0) 0 rfl) mi_SR_requireDecree mv_SR_requireDecree rfl ml_RX10_130 (c_SR_requireDecree (gst G) hx hu e1) rfl rfl ⟨rfl, rfl⟩ rfl ⟨rfl, rfl⟩ (fun v9 h9 => ?_) (fun E9 h9 => ?_)
  · obtain ⟨rfl, rfl⟩ := rV_inr h9
    show KK X B L 2 1 6 M 5 [(0, .ref (B.1 + u)), (1, .int p0)] []
    refine k_aload_n G (dc d_SR_revoke 3 rfl) 0 rfl rfl ?_
    refine k_getR G kc7 (dc d_SR_revoke 4 rfl) (okL_lt hu (o := 0) 0 rfl) (okL_k hu (o := 0) 0 rfl) 3 (by decide) rfl fl_RX10_29 (u + 39) (okL_r hu (o := 0) (c := 39) 0 rfl 3 rfl) ?_
    refine k_aload_n G (dc d_SR_revoke 5 rfl) 0 rfl rfl ?_
    refine k_getR G kc7 (dc d_SR_revoke 6 rfl) (okL_lt hu (o := 0) 0 rfl) (okL_k hu (o := 0) 0 rfl) 1 (by decide) rfl fl_RX10_19 (u + 3) (okL_r hu (o := 0) (c := 3) 0 rfl 1 rfl) ?_
    refine k_getR G kc6 (dc d_SR_revoke 7 rfl) (okL_lt hu (o := 3) 3 rfl) (okL_k hu (o := 3) 3 rfl) 0 (by decide) rfl fl_RX10_59 (u + 4) (okL_r hu (o := 3) (c := 4) 3 rfl 0 rfl) ?_
    obtain ⟨M5, e4, h⟩ := kOk_b h
    refine k_cVV G (dc d_SR_revoke 8 rfl) kc2 (okL_lt hu (o := 39) 39 rfl) (okL_k hu (o := 39) 39 rfl) mi_Me_remember mv_Me_remember rfl ml_RX10_177 (c_Me_remember (gst G) hx (okL_sub hu 39 (by decide +kernel)) (okL_sub hu 4 (by decide +kernel)) e4) rfl rfl ⟨rfl, rfl⟩ rfl ⟨rfl, rfl⟩ ⟨rfl, rfl⟩ ?_
    refine k_aload_n G (dc d_SR_revoke 9 rfl) 0 rfl rfl ?_
    refine k_getR G kc7 (dc d_SR_revoke 10 rfl) (okL_lt hu (o := 0) 0 rfl) (okL_k hu (o := 0) 0 rfl) 1 (by decide) rfl fl_RX10_19 (u + 3) (okL_r hu (o := 0) (c := 3) 0 rfl 1 rfl) ?_
    refine k_aload_n G (dc d_SR_revoke 11 rfl) 0 rfl rfl ?_
    refine k_getR G kc7 (dc d_SR_revoke 12 rfl) (okL_lt hu (o := 0) 0 rfl) (okL_k hu (o := 0) 0 rfl) 1 (by decide) rfl fl_RX10_19 (u + 3) (okL_r hu (o := 0) (c := 3) 0 rfl 1 rfl) ?_
    refine k_iload_n G (dc d_SR_revoke 13 rfl) 1 rfl rfl ?_
    obtain ⟨⟨x7, M8⟩, e6, h⟩ := kOk_b h
    refine k_cVI G (dc d_SR_revoke 14 rfl) kc6 (okL_lt hu (o := 3) 3 rfl) (okL_k hu (o := 3) 3 rfl) mi_Tw_takeDecree mv_Tw_takeDecree rfl ml_RX10_104 (c_Tw_takeDecree (gst G) hx (okL_sub hu 3 (by decide +kernel)) e6) rfl rfl ⟨rfl, rfl⟩ rfl ⟨rfl, rfl⟩ ⟨rfl, rfl⟩ ?_
    obtain ⟨⟨x10, M11⟩, e9, h⟩ := kOk_b h
    refine k_cVI G (dc d_SR_revoke 15 rfl) kc6 (okL_lt hu (o := 3) 3 rfl) (okL_k hu (o := 3) 3 rfl) mi_Tw_counted mv_Tw_counted rfl ml_RX10_181 (c_Tw_counted (gst G) (okL_sub hu 3 (by decide +kernel)) e9) rfl rfl ⟨rfl, rfl⟩ rfl ⟨rfl, rfl⟩ ⟨rfl, rfl⟩ ?_
    exact ((kOk_s h).1 _ rfl) _ _ _ _ rfl rfl rfl (dc d_SR_revoke 16 rfl)
  · obtain rfl := rV_inl h9
    exact ((kOk_s h).2 _ rfl).1 _ _ _ _ _ rfl rfl
theorem c_SR_revoke {l : Launch} {B : KB} {L : KLay} {M : KMem} {u : Nat} {p0 : Int32} (hst : l.stackTraces = false) (hx : B.2.2.2 = false) (hu : okL L u srT) {r : String ⊕ Int32} {M' : KMem} (e : m_SR_revoke u p0 M = some (r, M')) : CtrX l B yX10_revoke cX10_revoke 2 (some .int) rm_SR_revoke [.ref (B.1 + u), .int p0] L M (rI r) M' :=
  mkXI hx rfl hst rfl (fun X hl G R => b_SR_revoke G hx hu ⟨_, e, R⟩)
def I_SR_paint : List (Nat × Instr × Nat) := [(0, .aload_n 0, 1), (1, .iload_n 1, 1), (2, .invokevirtual 122, 3), (5, .aload_n 0, 1), (6, .getfield 29, 3), (9, .aload_n 0, 1), (10, .getfield 19, 3), (13, .getfield 59, 3), (16, .invokevirtual 177, 3), (19, .aload_n 0, 1), (20, .getfield 19, 3), (23, .iload_n 1, 1), (24, .invokevirtual 108, 3), (27, .ireturn, 1)]
set_option maxRecDepth 100000 in
theorem d_SR_paint : decA cX10_paint I_SR_paint = true := by decide +kernel
abbrev rm_SR_paint : Room := ({ frames := 7, cells := 1, slots := 6, locals := 137 } : Room)
def m_SR_paint (u : Nat) (p0 : Int32) (M : KMem) : Option ((String ⊕ Int32) × KMem) :=
 Option.bind (m_SR_requireSign u p0 M) fun r2 => match r2 with
 | some E3 => some (.inl E3, M)
 | none =>
 (Option.bind (m_Me_remember (u + 39) (u + 4) M) fun M5 =>
 Option.bind (m_Tw_repaint (u + 3) p0 M5) fun (x7, M8) =>
 some (.inr x7, M8))
set_option maxHeartbeats 4000000 in
set_option maxRecDepth 100000 in
theorem b_SR_paint {X : KX} {B : KB} {L : KLay} {M : KMem} {u : Nat} {p0 : Int32} (G : Good X B RX10 cX10_paint 2 rm_SR_paint) (hx : B.2.2.2 = false) (hu : okL L u srT) (h : kOk (m_SR_paint u p0 M) (fun r => RXI X B L 2 RX10 cX10_paint .int rm_SR_paint r.1 r.2)) : KK X B L 2 0 0 M 0 [(0, .ref (B.1 + u)), (1, .int p0)] [] := by
  unfold m_SR_paint at h
  refine k_aload_n G (dc d_SR_paint 0 rfl) 0 rfl rfl ?_
  refine k_iload_n G (dc d_SR_paint 1 rfl) 1 rfl rfl ?_
  obtain ⟨r2, e1, h⟩ := kOk_b h
  refine k_callVX G (dc d_SR_paint 2 rfl) kc7 (okL_lt hu (o := 0) 0 rfl) (okL_k hu (o := 0) 0 rfl) mi_SR_requireSign mv_SR_requireSign rfl ml_RX10_122 (c_SR_requireSign (gst G) hx hu e1) rfl rfl ⟨rfl, rfl⟩ rfl ⟨rfl, rfl⟩ (fun v9 h9 => ?_) (fun E9 h9 => ?_)
  · obtain ⟨rfl, rfl⟩ := rV_inr h9
    show KK X B L 2 1 6 M 5 [(0, .ref (B.1 + u)), (1, .int p0)] []
    refine k_aload_n G (dc d_SR_paint 3 rfl) 0 rfl rfl ?_
    refine k_getR G kc7 (dc d_SR_paint 4 rfl) (okL_lt hu (o := 0) 0 rfl) (okL_k hu (o := 0) 0 rfl) 3 (by decide) rfl fl_RX10_29 (u + 39) (okL_r hu (o := 0) (c := 39) 0 rfl 3 rfl) ?_
    refine k_aload_n G (dc d_SR_paint 5 rfl) 0 rfl rfl ?_
    refine k_getR G kc7 (dc d_SR_paint 6 rfl) (okL_lt hu (o := 0) 0 rfl) (okL_k hu (o := 0) 0 rfl) 1 (by decide) rfl fl_RX10_19 (u + 3) (okL_r hu (o := 0) (c := 3) 0 rfl 1 rfl) ?_
    refine k_getR G kc6 (dc d_SR_paint 7 rfl) (okL_lt hu (o := 3) 3 rfl) (okL_k hu (o := 3) 3 rfl) 0 (by decide) rfl fl_RX10_59 (u + 4) (okL_r hu (o := 3) (c := 4) 3 rfl 0 rfl) ?_
    obtain ⟨M5, e4, h⟩ := kOk_b h
    refine k_cVV G (dc d_SR_paint 8 rfl) kc2 (okL_lt hu (o := 39) 39 rfl) (okL_k hu (o := 39) 39 rfl) mi_Me_remember mv_Me_remember rfl ml_RX10_177 (c_Me_remember (gst G) hx (okL_sub hu 39 (by decide +kernel)) (okL_sub hu 4 (by decide +kernel)) e4) rfl rfl ⟨rfl, rfl⟩ rfl ⟨rfl, rfl⟩ ⟨rfl, rfl⟩ ?_
    refine k_aload_n G (dc d_SR_paint 9 rfl) 0 rfl rfl ?_
    refine k_getR G kc7 (dc d_SR_paint 10 rfl) (okL_lt hu (o := 0) 0 rfl) (okL_k hu (o := 0) 0 rfl) 1 (by decide) rfl fl_RX10_19 (u + 3) (okL_r hu (o := 0) (c := 3) 0 rfl 1 rfl) ?_
    refine k_iload_n G (dc d_SR_paint 11 rfl) 1 rfl rfl ?_
    obtain ⟨⟨x7, M8⟩, e6, h⟩ := kOk_b h
    refine k_cVI G (dc d_SR_paint 12 rfl) kc6 (okL_lt hu (o := 3) 3 rfl) (okL_k hu (o := 3) 3 rfl) mi_Tw_repaint mv_Tw_repaint rfl ml_RX10_108 (c_Tw_repaint (gst G) (okL_sub hu 3 (by decide +kernel)) e6) rfl rfl ⟨rfl, rfl⟩ rfl ⟨rfl, rfl⟩ ⟨rfl, rfl⟩ ?_
    exact ((kOk_s h).1 _ rfl) _ _ _ _ rfl rfl rfl (dc d_SR_paint 13 rfl)
  · obtain rfl := rV_inl h9
    exact ((kOk_s h).2 _ rfl).1 _ _ _ _ _ rfl rfl
theorem c_SR_paint {l : Launch} {B : KB} {L : KLay} {M : KMem} {u : Nat} {p0 : Int32} (hst : l.stackTraces = false) (hx : B.2.2.2 = false) (hu : okL L u srT) {r : String ⊕ Int32} {M' : KMem} (e : m_SR_paint u p0 M = some (r, M')) : CtrX l B yX10_paint cX10_paint 2 (some .int) rm_SR_paint [.ref (B.1 + u), .int p0] L M (rI r) M' :=
  mkXI hx rfl hst rfl (fun X hl G R => b_SR_paint G hx hu ⟨_, e, R⟩)
def I_SR_months : List (Nat × Instr × Nat) := [(0, .iload_n 1, 1), (1, .iconst 1, 1), (2, .if_icmp .lt 9, 3), (5, .iload_n 1, 1), (6, .bipush 60, 2), (8, .if_icmp .le 13, 3), (11, .new 33, 3), (14, .dup, 1), (15, .ldc 193, 2), (17, .invokespecial 37, 3), (20, .athrow, 1), (21, .aload_n 0, 1), (22, .getfield 29, 3), (25, .aload_n 0, 1), (26, .getfield 19, 3), (29, .getfield 59, 3), (32, .invokevirtual 177, 3), (35, .aload_n 0, 1), (36, .getfield 19, 3), (39, .iload_n 1, 1), (40, .invokevirtual 111, 3), (43, .ireturn, 1)]
set_option maxRecDepth 100000 in
theorem d_SR_months : decA cX10_months I_SR_months = true := by decide +kernel
abbrev rm_SR_months : Room := ({ frames := 6, cells := 1, slots := 6, locals := 124 } : Room)
def m_SR_months (u : Nat) (p0 : Int32) (M : KMem) : Option ((String ⊕ Int32) × KMem) :=
 if p0 < 1 then
 (some (.inl "java/lang/IllegalArgumentException", M))
 else
 (if p0 ≤ 60 then
 (Option.bind (m_Me_remember (u + 39) (u + 4) M) fun M4 =>
 Option.bind (m_Tw_passMonths (u + 3) p0 M4) fun (x6, M7) =>
 some (.inr x6, M7))
 else
 (some (.inl "java/lang/IllegalArgumentException", M)))
set_option maxHeartbeats 4000000 in
set_option maxRecDepth 100000 in
theorem b_SR_months {X : KX} {B : KB} {L : KLay} {M : KMem} {u : Nat} {p0 : Int32} (G : Good X B RX10 cX10_months 2 rm_SR_months) (hx : B.2.2.2 = false) (hu : okL L u srT) (h : kOk (m_SR_months u p0 M) (fun r => RXI X B L 2 RX10 cX10_months .int rm_SR_months r.1 r.2)) : KK X B L 2 0 0 M 0 [(0, .ref (B.1 + u)), (1, .int p0)] [] := by
  unfold m_SR_months at h
  refine k_iload_n G (dc d_SR_months 0 rfl) 1 rfl rfl ?_
  refine k_iconst G (dc d_SR_months 1 rfl) cI_1 ?_
  refine k_icmp_lt G (dc d_SR_months 2 rfl) (tgt := 11) rfl (fun c1 => ?_) (fun c1 => ?_)
  · replace h := kOk_p c1 h
    exact ((kOk_s h).2 _ rfl).2.1 _ _ _ _ _ 33 193 37 "no such number of months" ["java/lang/RuntimeException", "java/lang/Exception"] ts_RX10_33_37 sr_RX10_193 (dc d_SR_months 6 rfl) (dc d_SR_months 7 rfl) (dc d_SR_months 8 rfl) (dc d_SR_months 9 rfl) (dc d_SR_months 10 rfl) rfl rfl rfl rfl
  · replace h := kOk_n c1 h
    refine k_iload_n G (dc d_SR_months 3 rfl) 1 rfl rfl ?_
    refine k_bipush G (dc d_SR_months 4 rfl) cB_60 ?_
    refine k_icmp_le G (dc d_SR_months 5 rfl) (tgt := 21) rfl (fun c2 => ?_) (fun c2 => ?_)
    · replace h := kOk_p c2 h
      refine k_aload_n G (dc d_SR_months 11 rfl) 0 rfl rfl ?_
      refine k_getR G kc7 (dc d_SR_months 12 rfl) (okL_lt hu (o := 0) 0 rfl) (okL_k hu (o := 0) 0 rfl) 3 (by decide) rfl fl_RX10_29 (u + 39) (okL_r hu (o := 0) (c := 39) 0 rfl 3 rfl) ?_
      refine k_aload_n G (dc d_SR_months 13 rfl) 0 rfl rfl ?_
      refine k_getR G kc7 (dc d_SR_months 14 rfl) (okL_lt hu (o := 0) 0 rfl) (okL_k hu (o := 0) 0 rfl) 1 (by decide) rfl fl_RX10_19 (u + 3) (okL_r hu (o := 0) (c := 3) 0 rfl 1 rfl) ?_
      refine k_getR G kc6 (dc d_SR_months 15 rfl) (okL_lt hu (o := 3) 3 rfl) (okL_k hu (o := 3) 3 rfl) 0 (by decide) rfl fl_RX10_59 (u + 4) (okL_r hu (o := 3) (c := 4) 3 rfl 0 rfl) ?_
      obtain ⟨M4, e3, h⟩ := kOk_b h
      refine k_cVV G (dc d_SR_months 16 rfl) kc2 (okL_lt hu (o := 39) 39 rfl) (okL_k hu (o := 39) 39 rfl) mi_Me_remember mv_Me_remember rfl ml_RX10_177 (c_Me_remember (gst G) hx (okL_sub hu 39 (by decide +kernel)) (okL_sub hu 4 (by decide +kernel)) e3) rfl rfl ⟨rfl, rfl⟩ rfl ⟨rfl, rfl⟩ ⟨rfl, rfl⟩ ?_
      refine k_aload_n G (dc d_SR_months 17 rfl) 0 rfl rfl ?_
      refine k_getR G kc7 (dc d_SR_months 18 rfl) (okL_lt hu (o := 0) 0 rfl) (okL_k hu (o := 0) 0 rfl) 1 (by decide) rfl fl_RX10_19 (u + 3) (okL_r hu (o := 0) (c := 3) 0 rfl 1 rfl) ?_
      refine k_iload_n G (dc d_SR_months 19 rfl) 1 rfl rfl ?_
      obtain ⟨⟨x6, M7⟩, e5, h⟩ := kOk_b h
      refine k_cVI G (dc d_SR_months 20 rfl) kc6 (okL_lt hu (o := 3) 3 rfl) (okL_k hu (o := 3) 3 rfl) mi_Tw_passMonths mv_Tw_passMonths rfl ml_RX10_111 (c_Tw_passMonths (gst G) (okL_sub hu 3 (by decide +kernel)) e5) rfl rfl ⟨rfl, rfl⟩ rfl ⟨rfl, rfl⟩ ⟨rfl, rfl⟩ ?_
      exact ((kOk_s h).1 _ rfl) _ _ _ _ rfl rfl rfl (dc d_SR_months 21 rfl)
    · replace h := kOk_n c2 h
      exact ((kOk_s h).2 _ rfl).2.1 _ _ _ _ _ 33 193 37 "no such number of months" ["java/lang/RuntimeException", "java/lang/Exception"] ts_RX10_33_37 sr_RX10_193 (dc d_SR_months 6 rfl) (dc d_SR_months 7 rfl) (dc d_SR_months 8 rfl) (dc d_SR_months 9 rfl) (dc d_SR_months 10 rfl) rfl rfl rfl rfl
theorem c_SR_months {l : Launch} {B : KB} {L : KLay} {M : KMem} {u : Nat} {p0 : Int32} (hst : l.stackTraces = false) (hx : B.2.2.2 = false) (hu : okL L u srT) {r : String ⊕ Int32} {M' : KMem} (e : m_SR_months u p0 M = some (r, M')) : CtrX l B yX10_months cX10_months 2 (some .int) rm_SR_months [.ref (B.1 + u), .int p0] L M (rI r) M' :=
  mkXI hx rfl hst rfl (fun X hl G R => b_SR_months G hx hu ⟨_, e, R⟩)
def I_SR_amnesty : List (Nat × Instr × Nat) := [(0, .iload_n 1, 1), (1, .iconst 1, 1), (2, .if_icmp .lt 9, 3), (5, .iload_n 1, 1), (6, .bipush 9, 2), (8, .if_icmp .le 13, 3), (11, .new 33, 3), (14, .dup, 1), (15, .ldc 193, 2), (17, .invokespecial 37, 3), (20, .athrow, 1), (21, .aload_n 0, 1), (22, .getfield 19, 3), (25, .invokevirtual 195, 3), (28, .ifCond .ne 13, 3), (31, .new 44, 3), (34, .dup, 1), (35, .ldc 198, 2), (37, .invokespecial 48, 3), (40, .athrow, 1), (41, .aload_n 0, 1), (42, .getfield 29, 3), (45, .aload_n 0, 1), (46, .getfield 19, 3), (49, .getfield 59, 3), (52, .invokevirtual 177, 3), (55, .aload_n 0, 1), (56, .getfield 19, 3), (59, .iload_n 1, 1), (60, .invokevirtual 114, 3), (63, .ireturn, 1)]
set_option maxRecDepth 100000 in
theorem d_SR_amnesty : decA cX10_amnesty I_SR_amnesty = true := by decide +kernel
abbrev rm_SR_amnesty : Room := ({ frames := 6, cells := 1, slots := 6, locals := 124 } : Room)
def m_SR_amnesty (u : Nat) (p0 : Int32) (M : KMem) : Option ((String ⊕ Int32) × KMem) :=
 if p0 < 1 then
 (some (.inl "java/lang/IllegalArgumentException", M))
 else
 (if p0 ≤ 9 then
 (Option.bind (m_Tw_canForgive (u + 3) M) fun x4 =>
 if x4 = 0 then
 (some (.inl "java/lang/IllegalStateException", M))
 else
 (Option.bind (m_Me_remember (u + 39) (u + 4) M) fun M7 =>
 Option.bind (m_Tw_forgive (u + 3) p0 M7) fun (x9, M10) =>
 some (.inr x9, M10)))
 else
 (some (.inl "java/lang/IllegalArgumentException", M)))
set_option maxHeartbeats 4000000 in
set_option maxRecDepth 100000 in
theorem b_SR_amnesty {X : KX} {B : KB} {L : KLay} {M : KMem} {u : Nat} {p0 : Int32} (G : Good X B RX10 cX10_amnesty 2 rm_SR_amnesty) (hx : B.2.2.2 = false) (hu : okL L u srT) (h : kOk (m_SR_amnesty u p0 M) (fun r => RXI X B L 2 RX10 cX10_amnesty .int rm_SR_amnesty r.1 r.2)) : KK X B L 2 0 0 M 0 [(0, .ref (B.1 + u)), (1, .int p0)] [] := by
  unfold m_SR_amnesty at h
  refine k_iload_n G (dc d_SR_amnesty 0 rfl) 1 rfl rfl ?_
  refine k_iconst G (dc d_SR_amnesty 1 rfl) cI_1 ?_
  refine k_icmp_lt G (dc d_SR_amnesty 2 rfl) (tgt := 11) rfl (fun c1 => ?_) (fun c1 => ?_)
  · replace h := kOk_p c1 h
    exact ((kOk_s h).2 _ rfl).2.1 _ _ _ _ _ 33 193 37 "no such number of months" ["java/lang/RuntimeException", "java/lang/Exception"] ts_RX10_33_37 sr_RX10_193 (dc d_SR_amnesty 6 rfl) (dc d_SR_amnesty 7 rfl) (dc d_SR_amnesty 8 rfl) (dc d_SR_amnesty 9 rfl) (dc d_SR_amnesty 10 rfl) rfl rfl rfl rfl
  · replace h := kOk_n c1 h
    refine k_iload_n G (dc d_SR_amnesty 3 rfl) 1 rfl rfl ?_
    refine k_bipush G (dc d_SR_amnesty 4 rfl) cB_9 ?_
    refine k_icmp_le G (dc d_SR_amnesty 5 rfl) (tgt := 21) rfl (fun c2 => ?_) (fun c2 => ?_)
    · replace h := kOk_p c2 h
      refine k_aload_n G (dc d_SR_amnesty 11 rfl) 0 rfl rfl ?_
      refine k_getR G kc7 (dc d_SR_amnesty 12 rfl) (okL_lt hu (o := 0) 0 rfl) (okL_k hu (o := 0) 0 rfl) 1 (by decide) rfl fl_RX10_19 (u + 3) (okL_r hu (o := 0) (c := 3) 0 rfl 1 rfl) ?_
      obtain ⟨x4, e3, h⟩ := kOk_b h
      refine k_cVI G (dc d_SR_amnesty 13 rfl) kc6 (okL_lt hu (o := 3) 3 rfl) (okL_k hu (o := 3) 3 rfl) mi_Tw_canForgive mv_Tw_canForgive rfl ml_RX10_195 (c_Tw_canForgive (gst G) (okL_sub hu 3 (by decide +kernel)) e3) rfl rfl ⟨rfl, rfl⟩ rfl ⟨rfl, rfl⟩ ⟨rfl, rfl⟩ ?_
      refine k_if_ne G (dc d_SR_amnesty 14 rfl) (tgt := 41) rfl (fun c5 => ?_) (fun c5 => ?_)
      · replace h := kOk_n c5 h
        refine k_aload_n G (dc d_SR_amnesty 20 rfl) 0 rfl rfl ?_
        refine k_getR G kc7 (dc d_SR_amnesty 21 rfl) (okL_lt hu (o := 0) 0 rfl) (okL_k hu (o := 0) 0 rfl) 3 (by decide) rfl fl_RX10_29 (u + 39) (okL_r hu (o := 0) (c := 39) 0 rfl 3 rfl) ?_
        refine k_aload_n G (dc d_SR_amnesty 22 rfl) 0 rfl rfl ?_
        refine k_getR G kc7 (dc d_SR_amnesty 23 rfl) (okL_lt hu (o := 0) 0 rfl) (okL_k hu (o := 0) 0 rfl) 1 (by decide) rfl fl_RX10_19 (u + 3) (okL_r hu (o := 0) (c := 3) 0 rfl 1 rfl) ?_
        refine k_getR G kc6 (dc d_SR_amnesty 24 rfl) (okL_lt hu (o := 3) 3 rfl) (okL_k hu (o := 3) 3 rfl) 0 (by decide) rfl fl_RX10_59 (u + 4) (okL_r hu (o := 3) (c := 4) 3 rfl 0 rfl) ?_
        obtain ⟨M7, e6, h⟩ := kOk_b h
        refine k_cVV G (dc d_SR_amnesty 25 rfl) kc2 (okL_lt hu (o := 39) 39 rfl) (okL_k hu (o := 39) 39 rfl) mi_Me_remember mv_Me_remember rfl ml_RX10_177 (c_Me_remember (gst G) hx (okL_sub hu 39 (by decide +kernel)) (okL_sub hu 4 (by decide +kernel)) e6) rfl rfl ⟨rfl, rfl⟩ rfl ⟨rfl, rfl⟩ ⟨rfl, rfl⟩ ?_
        refine k_aload_n G (dc d_SR_amnesty 26 rfl) 0 rfl rfl ?_
        refine k_getR G kc7 (dc d_SR_amnesty 27 rfl) (okL_lt hu (o := 0) 0 rfl) (okL_k hu (o := 0) 0 rfl) 1 (by decide) rfl fl_RX10_19 (u + 3) (okL_r hu (o := 0) (c := 3) 0 rfl 1 rfl) ?_
        refine k_iload_n G (dc d_SR_amnesty 28 rfl) 1 rfl rfl ?_
        obtain ⟨⟨x9, M10⟩, e8, h⟩ := kOk_b h
        refine k_cVI G (dc d_SR_amnesty 29 rfl) kc6 (okL_lt hu (o := 3) 3 rfl) (okL_k hu (o := 3) 3 rfl) mi_Tw_forgive mv_Tw_forgive rfl ml_RX10_114 (c_Tw_forgive (gst G) (okL_sub hu 3 (by decide +kernel)) e8) rfl rfl ⟨rfl, rfl⟩ rfl ⟨rfl, rfl⟩ ⟨rfl, rfl⟩ ?_
        exact ((kOk_s h).1 _ rfl) _ _ _ _ rfl rfl rfl (dc d_SR_amnesty 30 rfl)
      · replace h := kOk_p c5 h
        exact ((kOk_s h).2 _ rfl).2.1 _ _ _ _ _ 44 198 48 "no amnesty can be given yet" ["java/lang/RuntimeException", "java/lang/Exception"] ts_RX10_44_48 sr_RX10_198 (dc d_SR_amnesty 15 rfl) (dc d_SR_amnesty 16 rfl) (dc d_SR_amnesty 17 rfl) (dc d_SR_amnesty 18 rfl) (dc d_SR_amnesty 19 rfl) rfl rfl rfl rfl
    · replace h := kOk_n c2 h
      exact ((kOk_s h).2 _ rfl).2.1 _ _ _ _ _ 33 193 37 "no such number of months" ["java/lang/RuntimeException", "java/lang/Exception"] ts_RX10_33_37 sr_RX10_193 (dc d_SR_amnesty 6 rfl) (dc d_SR_amnesty 7 rfl) (dc d_SR_amnesty 8 rfl) (dc d_SR_amnesty 9 rfl) (dc d_SR_amnesty 10 rfl) rfl rfl rfl rfl
theorem c_SR_amnesty {l : Launch} {B : KB} {L : KLay} {M : KMem} {u : Nat} {p0 : Int32} (hst : l.stackTraces = false) (hx : B.2.2.2 = false) (hu : okL L u srT) {r : String ⊕ Int32} {M' : KMem} (e : m_SR_amnesty u p0 M = some (r, M')) : CtrX l B yX10_amnesty cX10_amnesty 2 (some .int) rm_SR_amnesty [.ref (B.1 + u), .int p0] L M (rI r) M' :=
  mkXI hx rfl hst rfl (fun X hl G R => b_SR_amnesty G hx hu ⟨_, e, R⟩)
def I_SR_set : List (Nat × Instr × Nat) := [(0, .iload_n 1, 1), (1, .invokestatic 157, 3), (4, .iload_n 2, 1), (5, .ifCond .lt 9, 3), (8, .iload_n 2, 1), (9, .bipush 20, 2), (11, .if_icmp .le 13, 3), (14, .new 33, 3), (17, .dup, 1), (18, .ldc 200, 2), (20, .invokespecial 37, 3), (23, .athrow, 1), (24, .aload_n 0, 1), (25, .getfield 29, 3), (28, .aload_n 0, 1), (29, .getfield 19, 3), (32, .getfield 59, 3), (35, .invokevirtual 177, 3), (38, .aload_n 0, 1), (39, .getfield 19, 3), (42, .getfield 59, 3), (45, .getfield 160, 3), (48, .iload_n 1, 1), (49, .iaload, 1), (50, .istore_n 3, 1), (51, .aload_n 0, 1), (52, .getfield 19, 3), (55, .getfield 59, 3), (58, .getfield 160, 3), (61, .iload_n 1, 1), (62, .iload_n 2, 1), (63, .iastore, 1), (64, .iload_n 3, 1), (65, .ireturn, 1)]
set_option maxRecDepth 100000 in
theorem d_SR_set : decA cX10_set I_SR_set = true := by decide +kernel
abbrev rm_SR_set : Room := ({ frames := 7, cells := 2, slots := 12, locals := 124 } : Room)
def m_SR_set (u : Nat) (p0 : Int32) (p1 : Int32) (M : KMem) : Option ((String ⊕ Int32) × KMem) :=
 Option.bind (m_SR_requireSetting p0) fun r2 => match r2 with
 | some E3 => some (.inl E3, M)
 | none =>
 (if p1 < 0 then
 (some (.inl "java/lang/IllegalArgumentException", M))
 else
 (if p1 ≤ 20 then
 (Option.bind (m_Me_remember (u + 39) (u + 4) M) fun M7 =>
 Option.bind (rdI M7 (u + 15) 2 p0) fun x9 =>
 Option.bind (wrI M7 (u + 15) 2 p0 p1) fun M11 =>
 some (.inr x9, M11))
 else
 (some (.inl "java/lang/IllegalArgumentException", M))))
set_option maxHeartbeats 4000000 in
set_option maxRecDepth 100000 in
theorem b_SR_set {X : KX} {B : KB} {L : KLay} {M : KMem} {u : Nat} {p0 : Int32} {p1 : Int32} (G : Good X B RX10 cX10_set 4 rm_SR_set) (hx : B.2.2.2 = false) (hu : okL L u srT) (h : kOk (m_SR_set u p0 p1 M) (fun r => RXI X B L 4 RX10 cX10_set .int rm_SR_set r.1 r.2)) : KK X B L 4 0 0 M 0 [(0, .ref (B.1 + u)), (1, .int p0), (2, .int p1)] [] := by
  unfold m_SR_set at h
  refine k_iload_n G (dc d_SR_set 0 rfl) 1 rfl rfl ?_
  obtain ⟨r2, e1, h⟩ := kOk_b h
  refine k_callSX G (dc d_SR_set 1 rfl) mi_SR_requireSetting ms_SR_requireSetting ml_RX10_157 (c_SR_requireSetting (gst G) hx  e1) rfl rfl ⟨rfl, rfl⟩ rfl ⟨rfl, rfl⟩ (fun v9 h9 => ?_) (fun E9 h9 => ?_)
  · obtain ⟨rfl, rfl⟩ := rV_inr h9
    show KK X B L 4 1 6 M 4 [(0, .ref (B.1 + u)), (1, .int p0), (2, .int p1)] []
    refine k_iload_n G (dc d_SR_set 2 rfl) 2 rfl rfl ?_
    refine k_if_lt G (dc d_SR_set 3 rfl) (tgt := 14) rfl (fun c4 => ?_) (fun c4 => ?_)
    · replace h := kOk_p c4 h
      exact ((kOk_s h).2 _ rfl).2.1 _ _ _ _ _ 33 200 37 "no value of a setting" ["java/lang/RuntimeException", "java/lang/Exception"] ts_RX10_33_37 sr_RX10_200 (dc d_SR_set 7 rfl) (dc d_SR_set 8 rfl) (dc d_SR_set 9 rfl) (dc d_SR_set 10 rfl) (dc d_SR_set 11 rfl) rfl rfl rfl rfl
    · replace h := kOk_n c4 h
      refine k_iload_n G (dc d_SR_set 4 rfl) 2 rfl rfl ?_
      refine k_bipush G (dc d_SR_set 5 rfl) cB_20 ?_
      refine k_icmp_le G (dc d_SR_set 6 rfl) (tgt := 24) rfl (fun c5 => ?_) (fun c5 => ?_)
      · replace h := kOk_p c5 h
        refine k_aload_n G (dc d_SR_set 12 rfl) 0 rfl rfl ?_
        refine k_getR G kc7 (dc d_SR_set 13 rfl) (okL_lt hu (o := 0) 0 rfl) (okL_k hu (o := 0) 0 rfl) 3 (by decide) rfl fl_RX10_29 (u + 39) (okL_r hu (o := 0) (c := 39) 0 rfl 3 rfl) ?_
        refine k_aload_n G (dc d_SR_set 14 rfl) 0 rfl rfl ?_
        refine k_getR G kc7 (dc d_SR_set 15 rfl) (okL_lt hu (o := 0) 0 rfl) (okL_k hu (o := 0) 0 rfl) 1 (by decide) rfl fl_RX10_19 (u + 3) (okL_r hu (o := 0) (c := 3) 0 rfl 1 rfl) ?_
        refine k_getR G kc6 (dc d_SR_set 16 rfl) (okL_lt hu (o := 3) 3 rfl) (okL_k hu (o := 3) 3 rfl) 0 (by decide) rfl fl_RX10_59 (u + 4) (okL_r hu (o := 3) (c := 4) 3 rfl 0 rfl) ?_
        obtain ⟨M7, e6, h⟩ := kOk_b h
        refine k_cVV G (dc d_SR_set 17 rfl) kc2 (okL_lt hu (o := 39) 39 rfl) (okL_k hu (o := 39) 39 rfl) mi_Me_remember mv_Me_remember rfl ml_RX10_177 (c_Me_remember (gst G) hx (okL_sub hu 39 (by decide +kernel)) (okL_sub hu 4 (by decide +kernel)) e6) rfl rfl ⟨rfl, rfl⟩ rfl ⟨rfl, rfl⟩ ⟨rfl, rfl⟩ ?_
        refine k_aload_n G (dc d_SR_set 18 rfl) 0 rfl rfl ?_
        refine k_getR G kc7 (dc d_SR_set 19 rfl) (okL_lt hu (o := 0) 0 rfl) (okL_k hu (o := 0) 0 rfl) 1 (by decide) rfl fl_RX10_19 (u + 3) (okL_r hu (o := 0) (c := 3) 0 rfl 1 rfl) ?_
        refine k_getR G kc6 (dc d_SR_set 20 rfl) (okL_lt hu (o := 3) 3 rfl) (okL_k hu (o := 3) 3 rfl) 0 (by decide) rfl fl_RX10_59 (u + 4) (okL_r hu (o := 3) (c := 4) 3 rfl 0 rfl) ?_
        refine k_getR G kc5 (dc d_SR_set 21 rfl) (okL_lt hu (o := 4) 4 rfl) (okL_k hu (o := 4) 4 rfl) 10 (by decide) rfl fl_RX10_160 (u + 15) (okL_r hu (o := 4) (c := 15) 4 rfl 9 rfl) ?_
        refine k_iload_n G (dc d_SR_set 22 rfl) 1 rfl rfl ?_
        obtain ⟨x9, e8, h⟩ := kOk_b h
        refine k_ild G (dc d_SR_set 23 rfl) (okL_lt hu (o := 15) 15 rfl) (okL_k hu (o := 15) 15 rfl) (okL_n hu (o := 15) 15 rfl) e8 ?_
        refine k_istore_n G (dc d_SR_set 24 rfl) (ls' := [(3, .int x9), (0, .ref (B.1 + u)), (1, .int p0), (2, .int p1)]) rfl rfl rfl ?_
        refine k_aload_n G (dc d_SR_set 25 rfl) 1 rfl rfl ?_
        refine k_getR G kc7 (dc d_SR_set 26 rfl) (okL_lt hu (o := 0) 0 rfl) (okL_k hu (o := 0) 0 rfl) 1 (by decide) rfl fl_RX10_19 (u + 3) (okL_r hu (o := 0) (c := 3) 0 rfl 1 rfl) ?_
        refine k_getR G kc6 (dc d_SR_set 27 rfl) (okL_lt hu (o := 3) 3 rfl) (okL_k hu (o := 3) 3 rfl) 0 (by decide) rfl fl_RX10_59 (u + 4) (okL_r hu (o := 3) (c := 4) 3 rfl 0 rfl) ?_
        refine k_getR G kc5 (dc d_SR_set 28 rfl) (okL_lt hu (o := 4) 4 rfl) (okL_k hu (o := 4) 4 rfl) 10 (by decide) rfl fl_RX10_160 (u + 15) (okL_r hu (o := 4) (c := 15) 4 rfl 9 rfl) ?_
        refine k_iload_n G (dc d_SR_set 29 rfl) 2 rfl rfl ?_
        refine k_iload_n G (dc d_SR_set 30 rfl) 3 rfl rfl ?_
        obtain ⟨M11, e10, h⟩ := kOk_b h
        refine k_ist G (dc d_SR_set 31 rfl) (okL_lt hu (o := 15) 15 rfl) (okL_k hu (o := 15) 15 rfl) (okL_n hu (o := 15) 15 rfl) e10 ?_
        refine k_iload_n G (dc d_SR_set 32 rfl) 0 rfl rfl ?_
        exact ((kOk_s h).1 _ rfl) _ _ _ _ rfl rfl rfl (dc d_SR_set 33 rfl)
      · replace h := kOk_n c5 h
        exact ((kOk_s h).2 _ rfl).2.1 _ _ _ _ _ 33 200 37 "no value of a setting" ["java/lang/RuntimeException", "java/lang/Exception"] ts_RX10_33_37 sr_RX10_200 (dc d_SR_set 7 rfl) (dc d_SR_set 8 rfl) (dc d_SR_set 9 rfl) (dc d_SR_set 10 rfl) (dc d_SR_set 11 rfl) rfl rfl rfl rfl
  · obtain rfl := rV_inl h9
    exact ((kOk_s h).2 _ rfl).1 _ _ _ _ _ rfl rfl
theorem c_SR_set {l : Launch} {B : KB} {L : KLay} {M : KMem} {u : Nat} {p0 : Int32} {p1 : Int32} (hst : l.stackTraces = false) (hx : B.2.2.2 = false) (hu : okL L u srT) {r : String ⊕ Int32} {M' : KMem} (e : m_SR_set u p0 p1 M = some (r, M')) : CtrX l B yX10_set cX10_set 4 (some .int) rm_SR_set [.ref (B.1 + u), .int p0, .int p1] L M (rI r) M' :=
  mkXI hx rfl hst rfl (fun X hl G R => b_SR_set G hx hu ⟨_, e, R⟩)
def I_SR_undo : List (Nat × Instr × Nat) := [(0, .aload_n 0, 1), (1, .getfield 29, 3), (4, .getfield 202, 3), (7, .ifCond .ne 13, 3), (10, .new 44, 3), (13, .dup, 1), (14, .ldc 205, 2), (16, .invokespecial 48, 3), (19, .athrow, 1), (20, .aload_n 0, 1), (21, .getfield 29, 3), (24, .aload_n 0, 1), (25, .getfield 19, 3), (28, .getfield 59, 3), (31, .invokevirtual 207, 3), (34, .aload_n 0, 1), (35, .getfield 29, 3), (38, .getfield 202, 3), (41, .ireturn, 1)]
set_option maxRecDepth 100000 in
theorem d_SR_undo : decA cX10_undo I_SR_undo = true := by decide +kernel
abbrev rm_SR_undo : Room := ({ frames := 6, cells := 1, slots := 6, locals := 124 } : Room)
def m_SR_undo (u : Nat) (M : KMem) : Option ((String ⊕ Int32) × KMem) :=
 if (M (u + 39) 2) = 0 then
 (some (.inl "java/lang/IllegalStateException", M))
 else
 (Option.bind (m_Me_takeBack (u + 39) (u + 4) M) fun M3 =>
 some (.inr (M3 (u + 39) 2), M3))
set_option maxHeartbeats 4000000 in
set_option maxRecDepth 100000 in
theorem b_SR_undo {X : KX} {B : KB} {L : KLay} {M : KMem} {u : Nat} (G : Good X B RX10 cX10_undo 1 rm_SR_undo) (hx : B.2.2.2 = false) (hu : okL L u srT) (h : kOk (m_SR_undo u M) (fun r => RXI X B L 1 RX10 cX10_undo .int rm_SR_undo r.1 r.2)) : KK X B L 1 0 0 M 0 [(0, .ref (B.1 + u))] [] := by
  unfold m_SR_undo at h
  refine k_aload_n G (dc d_SR_undo 0 rfl) 0 rfl rfl ?_
  refine k_getR G kc7 (dc d_SR_undo 1 rfl) (okL_lt hu (o := 0) 0 rfl) (okL_k hu (o := 0) 0 rfl) 3 (by decide) rfl fl_RX10_29 (u + 39) (okL_r hu (o := 0) (c := 39) 0 rfl 3 rfl) ?_
  refine k_getIN G kc2 (dc d_SR_undo 2 rfl) (okL_lt hu (o := 39) 39 rfl) (okL_k hu (o := 39) 39 rfl) 2 (by decide) rfl fl_RX10_202 ?_
  refine k_if_ne G (dc d_SR_undo 3 rfl) (tgt := 20) rfl (fun c1 => ?_) (fun c1 => ?_)
  · replace h := kOk_n c1 h
    refine k_aload_n G (dc d_SR_undo 9 rfl) 0 rfl rfl ?_
    refine k_getR G kc7 (dc d_SR_undo 10 rfl) (okL_lt hu (o := 0) 0 rfl) (okL_k hu (o := 0) 0 rfl) 3 (by decide) rfl fl_RX10_29 (u + 39) (okL_r hu (o := 0) (c := 39) 0 rfl 3 rfl) ?_
    refine k_aload_n G (dc d_SR_undo 11 rfl) 0 rfl rfl ?_
    refine k_getR G kc7 (dc d_SR_undo 12 rfl) (okL_lt hu (o := 0) 0 rfl) (okL_k hu (o := 0) 0 rfl) 1 (by decide) rfl fl_RX10_19 (u + 3) (okL_r hu (o := 0) (c := 3) 0 rfl 1 rfl) ?_
    refine k_getR G kc6 (dc d_SR_undo 13 rfl) (okL_lt hu (o := 3) 3 rfl) (okL_k hu (o := 3) 3 rfl) 0 (by decide) rfl fl_RX10_59 (u + 4) (okL_r hu (o := 3) (c := 4) 3 rfl 0 rfl) ?_
    obtain ⟨M3, e2, h⟩ := kOk_b h
    refine k_cVV G (dc d_SR_undo 14 rfl) kc2 (okL_lt hu (o := 39) 39 rfl) (okL_k hu (o := 39) 39 rfl) mi_Me_takeBack mv_Me_takeBack rfl ml_RX10_207 (c_Me_takeBack (gst G) hx (okL_sub hu 39 (by decide +kernel)) (okL_sub hu 4 (by decide +kernel)) e2) rfl rfl ⟨rfl, rfl⟩ rfl ⟨rfl, rfl⟩ ⟨rfl, rfl⟩ ?_
    refine k_aload_n G (dc d_SR_undo 15 rfl) 0 rfl rfl ?_
    refine k_getR G kc7 (dc d_SR_undo 16 rfl) (okL_lt hu (o := 0) 0 rfl) (okL_k hu (o := 0) 0 rfl) 3 (by decide) rfl fl_RX10_29 (u + 39) (okL_r hu (o := 0) (c := 39) 0 rfl 3 rfl) ?_
    refine k_getIN G kc2 (dc d_SR_undo 17 rfl) (okL_lt hu (o := 39) 39 rfl) (okL_k hu (o := 39) 39 rfl) 2 (by decide) rfl fl_RX10_202 ?_
    exact ((kOk_s h).1 _ rfl) _ _ _ _ rfl rfl rfl (dc d_SR_undo 18 rfl)
  · replace h := kOk_p c1 h
    exact ((kOk_s h).2 _ rfl).2.1 _ _ _ _ _ 44 205 48 "no state is remembered" ["java/lang/RuntimeException", "java/lang/Exception"] ts_RX10_44_48 sr_RX10_205 (dc d_SR_undo 4 rfl) (dc d_SR_undo 5 rfl) (dc d_SR_undo 6 rfl) (dc d_SR_undo 7 rfl) (dc d_SR_undo 8 rfl) rfl rfl rfl rfl
theorem c_SR_undo {l : Launch} {B : KB} {L : KLay} {M : KMem} {u : Nat} (hst : l.stackTraces = false) (hx : B.2.2.2 = false) (hu : okL L u srT) {r : String ⊕ Int32} {M' : KMem} (e : m_SR_undo u M = some (r, M')) : CtrX l B yX10_undo cX10_undo 1 (some .int) rm_SR_undo [.ref (B.1 + u)] L M (rI r) M' :=
  mkXI hx rfl hst rfl (fun X hl G R => b_SR_undo G hx hu ⟨_, e, R⟩)
def I_SR_why : List (Nat × Instr × Nat) := [(0, .iload_n 1, 1), (1, .iload_n 2, 1), (2, .iload_n 3, 1), (3, .iload 4, 2), (5, .invokestatic 184, 3), (8, .aload_n 0, 1), (9, .getfield 19, 3), (12, .iload_n 1, 1), (13, .iload_n 2, 1), (14, .iload_n 3, 1), (15, .iload 4, 2), (17, .invokevirtual 210, 3), (20, .ireturn, 1)]
set_option maxRecDepth 100000 in
theorem d_SR_why : decA cX10_why I_SR_why = true := by decide +kernel
abbrev rm_SR_why : Room := ({ frames := 7, cells := 1, slots := 6, locals := 115 } : Room)
def m_SR_why (u : Nat) (p0 : Int32) (p1 : Int32) (p2 : Int32) (p3 : Int32) (M : KMem) : Option ((String ⊕ Int32) × KMem) :=
 Option.bind (m_SR_requireDecreeArguments p0 p1 p2 p3) fun r2 => match r2 with
 | some E3 => some (.inl E3, M)
 | none =>
 (Option.bind (m_Tw_reasonAgainstDecree (u + 3) p0 p1 p2 p3 M) fun (x5, M6) =>
 some (.inr x5, M6))
set_option maxHeartbeats 4000000 in
set_option maxRecDepth 100000 in
theorem b_SR_why {X : KX} {B : KB} {L : KLay} {M : KMem} {u : Nat} {p0 : Int32} {p1 : Int32} {p2 : Int32} {p3 : Int32} (G : Good X B RX10 cX10_why 5 rm_SR_why) (hx : B.2.2.2 = false) (hu : okL L u srT) (h : kOk (m_SR_why u p0 p1 p2 p3 M) (fun r => RXI X B L 5 RX10 cX10_why .int rm_SR_why r.1 r.2)) : KK X B L 5 0 0 M 0 [(0, .ref (B.1 + u)), (1, .int p0), (2, .int p1), (3, .int p2), (4, .int p3)] [] := by
  unfold m_SR_why at h
  refine k_iload_n G (dc d_SR_why 0 rfl) 1 rfl rfl ?_
  refine k_iload_n G (dc d_SR_why 1 rfl) 2 rfl rfl ?_
  refine k_iload_n G (dc d_SR_why 2 rfl) 3 rfl rfl ?_
  refine k_iload G (dc d_SR_why 3 rfl) 4 rfl ?_
  obtain ⟨r2, e1, h⟩ := kOk_b h
  refine k_callSX G (dc d_SR_why 4 rfl) mi_SR_requireDecreeArguments ms_SR_requireDecreeArguments ml_RX10_184 (c_SR_requireDecreeArguments (gst G) hx  e1) rfl rfl ⟨rfl, rfl⟩ rfl ⟨rfl, rfl⟩ (fun v9 h9 => ?_) (fun E9 h9 => ?_)
  · obtain ⟨rfl, rfl⟩ := rV_inr h9
    show KK X B L 5 1 6 M 8 [(0, .ref (B.1 + u)), (1, .int p0), (2, .int p1), (3, .int p2), (4, .int p3)] []
    refine k_aload_n G (dc d_SR_why 5 rfl) 0 rfl rfl ?_
    refine k_getR G kc7 (dc d_SR_why 6 rfl) (okL_lt hu (o := 0) 0 rfl) (okL_k hu (o := 0) 0 rfl) 1 (by decide) rfl fl_RX10_19 (u + 3) (okL_r hu (o := 0) (c := 3) 0 rfl 1 rfl) ?_
    refine k_iload_n G (dc d_SR_why 7 rfl) 1 rfl rfl ?_
    refine k_iload_n G (dc d_SR_why 8 rfl) 2 rfl rfl ?_
    refine k_iload_n G (dc d_SR_why 9 rfl) 3 rfl rfl ?_
    refine k_iload G (dc d_SR_why 10 rfl) 4 rfl ?_
    obtain ⟨⟨x5, M6⟩, e4, h⟩ := kOk_b h
    refine k_cVI G (dc d_SR_why 11 rfl) kc6 (okL_lt hu (o := 3) 3 rfl) (okL_k hu (o := 3) 3 rfl) mi_Tw_reasonAgainstDecree mv_Tw_reasonAgainstDecree rfl ml_RX10_210 (c_Tw_reasonAgainstDecree (gst G) (okL_sub hu 3 (by decide +kernel)) e4) rfl rfl ⟨rfl, rfl⟩ rfl ⟨rfl, rfl⟩ ⟨rfl, rfl⟩ ?_
    exact ((kOk_s h).1 _ rfl) _ _ _ _ rfl rfl rfl (dc d_SR_why 12 rfl)
  · obtain rfl := rV_inl h9
    exact ((kOk_s h).2 _ rfl).1 _ _ _ _ _ rfl rfl
theorem c_SR_why {l : Launch} {B : KB} {L : KLay} {M : KMem} {u : Nat} {p0 : Int32} {p1 : Int32} {p2 : Int32} {p3 : Int32} (hst : l.stackTraces = false) (hx : B.2.2.2 = false) (hu : okL L u srT) {r : String ⊕ Int32} {M' : KMem} (e : m_SR_why u p0 p1 p2 p3 M = some (r, M')) : CtrX l B yX10_why cX10_why 5 (some .int) rm_SR_why [.ref (B.1 + u), .int p0, .int p1, .int p2, .int p3] L M (rI r) M' :=
  mkXI hx rfl hst rfl (fun X hl G R => b_SR_why G hx hu ⟨_, e, R⟩)
