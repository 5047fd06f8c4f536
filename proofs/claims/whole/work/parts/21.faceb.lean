/-! laid by wip/whole/lay.py: SR_sign, SR_requireDecreeArguments, SR_decree, SR_revoke, SR_paint, SR_months, SR_amnesty, SR_set, SR_undo, SR_why, SR_droppable, SR_apart, SR_payable, SR_worthIn, SR_runScript -/
def I_SR_sign : List (Nat × Instr × Nat) := [(0, .iload_n 1, 1), (1, .invokestatic 143, 3), (4, .iload_n 2, 1), (5, .invokestatic 164, 3), (8, .ifCond .ne 13, 3), (11, .new 33, 3), (14, .dup, 1), (15, .ldc 170, 2), (17, .invokespecial 37, 3), (20, .athrow, 1), (21, .aload_n 0, 1), (22, .getfield 19, 3), (25, .getfield 59, 3), (28, .getfield 172, 3), (31, .bipush 8, 2), (33, .if_icmp .lt 13, 3), (36, .new 44, 3), (39, .dup, 1), (40, .ldc 175, 2), (42, .invokespecial 48, 3), (45, .athrow, 1), (46, .aload_n 0, 1), (47, .getfield 29, 3), (50, .aload_n 0, 1), (51, .getfield 19, 3), (54, .getfield 59, 3), (57, .invokevirtual 177, 3), (60, .aload_n 0, 1), (61, .getfield 19, 3), (64, .aload_n 0, 1), (65, .getfield 19, 3), (68, .iload_n 1, 1), (69, .iload_n 2, 1), (70, .invokevirtual 96, 3), (73, .invokevirtual 181, 3), (76, .ireturn, 1)]
set_option maxRecDepth 100000 in
theorem d_SR_sign : decA cX10_sign I_SR_sign = true := by decide +kernel
abbrev rm_SR_sign : Room := ({ frames := 7, cells := 2, slots := 12, locals := 124 } : Room)
def m_SR_sign (u : Nat) (p0 : Int32) (p1 : Int32) (M : KMem) : Option ((String ⊕ Int32) × KMem) :=
 Option.bind (m_SR_requireGuild p0) fun r2 => match r2 with
 | some E3 => some (.inl E3, M)
 | none =>
 (Option.bind (m_Wo_isWord p1) fun x5 =>
 if x5 = 0 then
 (some (.inl "java/lang/IllegalArgumentException", M))
 else
 (if (M (u + 4) 1) < 8 then
 (Option.bind (m_Me_remember (u + 39) (u + 4) M) fun M9 =>
 Option.bind (m_Tw_bringSign (u + 3) p0 p1 M9) fun (x11, M12) =>
 Option.bind (m_Tw_counted (u + 3) x11 M12) fun (x14, M15) =>
 some (.inr x14, M15))
 else
 (some (.inl "java/lang/IllegalStateException", M))))
set_option maxHeartbeats 4000000 in
set_option maxRecDepth 100000 in
theorem b_SR_sign {X : KX} {B : KB} {L : KLay} {M : KMem} {u : Nat} {p0 : Int32} {p1 : Int32} (G : Good X B RX10 cX10_sign 3 rm_SR_sign) (hx : B.2.2.2 = false) (hu : okL L u srT) (h : kOk (m_SR_sign u p0 p1 M) (fun r => RXI X B L 3 RX10 cX10_sign .int rm_SR_sign r.1 r.2)) : KK X B L 3 0 0 M 0 [(0, .ref (B.1 + u)), (1, .int p0), (2, .int p1)] [] := by
  unfold m_SR_sign at h
  refine k_iload_n G (dc d_SR_sign 0 rfl) 1 rfl rfl ?_
  obtain ⟨r2, e1, h⟩ := kOk_b h
  refine k_callSX G (dc d_SR_sign 1 rfl) mi_SR_requireGuild ms_SR_requireGuild ml_RX10_143 (c_SR_requireGuild (gst G) hx  e1) rfl rfl ⟨rfl, rfl⟩ rfl ⟨rfl, rfl⟩ (fun v9 h9 => ?_) (fun E9 h9 => ?_)
  · obtain ⟨rfl, rfl⟩ := rV_inr h9
    show KK X B L 3 1 6 M 4 [(0, .ref (B.1 + u)), (1, .int p0), (2, .int p1)] []
    refine k_iload_n G (dc d_SR_sign 2 rfl) 2 rfl rfl ?_
    obtain ⟨x5, e4, h⟩ := kOk_b h
    refine k_cSI G (dc d_SR_sign 3 rfl) mi_Wo_isWord ms_Wo_isWord ml_RX10_164 (c_Wo_isWord (gst G)  e4) rfl rfl ⟨rfl, rfl⟩ rfl ⟨rfl, rfl⟩ ⟨rfl, rfl⟩ ?_
    refine k_if_ne G (dc d_SR_sign 4 rfl) (tgt := 21) rfl (fun c6 => ?_) (fun c6 => ?_)
    · replace h := kOk_n c6 h
      refine k_aload_n G (dc d_SR_sign 10 rfl) 0 rfl rfl ?_
      refine k_getR G kc7 (dc d_SR_sign 11 rfl) (okL_lt hu (o := 0) 0 rfl) (okL_k hu (o := 0) 0 rfl) 1 (by decide) rfl fl_RX10_19 (u + 3) (okL_r hu (o := 0) (c := 3) 0 rfl 1 rfl) ?_
      refine k_getR G kc6 (dc d_SR_sign 12 rfl) (okL_lt hu (o := 3) 3 rfl) (okL_k hu (o := 3) 3 rfl) 0 (by decide) rfl fl_RX10_59 (u + 4) (okL_r hu (o := 3) (c := 4) 3 rfl 0 rfl) ?_
      refine k_getI G kc5 (dc d_SR_sign 13 rfl) (okL_lt hu (o := 4) 4 rfl) (okL_k hu (o := 4) 4 rfl) 1 (by decide) rfl fl_RX10_172 ?_
      refine k_bipush G (dc d_SR_sign 14 rfl) cB_8 ?_
      refine k_icmp_lt G (dc d_SR_sign 15 rfl) (tgt := 46) rfl (fun c7 => ?_) (fun c7 => ?_)
      · replace h := kOk_p c7 h
        refine k_aload_n G (dc d_SR_sign 21 rfl) 0 rfl rfl ?_
        refine k_getR G kc7 (dc d_SR_sign 22 rfl) (okL_lt hu (o := 0) 0 rfl) (okL_k hu (o := 0) 0 rfl) 3 (by decide) rfl fl_RX10_29 (u + 39) (okL_r hu (o := 0) (c := 39) 0 rfl 3 rfl) ?_
        refine k_aload_n G (dc d_SR_sign 23 rfl) 0 rfl rfl ?_
        refine k_getR G kc7 (dc d_SR_sign 24 rfl) (okL_lt hu (o := 0) 0 rfl) (okL_k hu (o := 0) 0 rfl) 1 (by decide) rfl fl_RX10_19 (u + 3) (okL_r hu (o := 0) (c := 3) 0 rfl 1 rfl) ?_
        refine k_getR G kc6 (dc d_SR_sign 25 rfl) (okL_lt hu (o := 3) 3 rfl) (okL_k hu (o := 3) 3 rfl) 0 (by decide) rfl fl_RX10_59 (u + 4) (okL_r hu (o := 3) (c := 4) 3 rfl 0 rfl) ?_
        obtain ⟨M9, e8, h⟩ := kOk_b h
        refine k_cVV G (dc d_SR_sign 26 rfl) kc2 (okL_lt hu (o := 39) 39 rfl) (okL_k hu (o := 39) 39 rfl) mi_Me_remember mv_Me_remember rfl ml_RX10_177 (c_Me_remember (gst G) hx (okL_sub hu 39 (by decide +kernel)) (okL_sub hu 4 (by decide +kernel)) e8) rfl rfl ⟨rfl, rfl⟩ rfl ⟨rfl, rfl⟩ ⟨rfl, rfl⟩ ?_
        refine k_aload_n G (dc d_SR_sign 27 rfl) 0 rfl rfl ?_
        refine k_getR G kc7 (dc d_SR_sign 28 rfl) (okL_lt hu (o := 0) 0 rfl) (okL_k hu (o := 0) 0 rfl) 1 (by decide) rfl fl_RX10_19 (u + 3) (okL_r hu (o := 0) (c := 3) 0 rfl 1 rfl) ?_
        refine k_aload_n G (dc d_SR_sign 29 rfl) 0 rfl rfl ?_
        refine k_getR G kc7 (dc d_SR_sign 30 rfl) (okL_lt hu (o := 0) 0 rfl) (okL_k hu (o := 0) 0 rfl) 1 (by decide) rfl fl_RX10_19 (u + 3) (okL_r hu (o := 0) (c := 3) 0 rfl 1 rfl) ?_
        refine k_iload_n G (dc d_SR_sign 31 rfl) 1 rfl rfl ?_
        refine k_iload_n G (dc d_SR_sign 32 rfl) 2 rfl rfl ?_
        obtain ⟨⟨x11, M12⟩, e10, h⟩ := kOk_b h
        refine k_cVI G (dc d_SR_sign 33 rfl) kc6 (okL_lt hu (o := 3) 3 rfl) (okL_k hu (o := 3) 3 rfl) mi_Tw_bringSign mv_Tw_bringSign rfl ml_RX10_96 (c_Tw_bringSign (gst G) (okL_sub hu 3 (by decide +kernel)) e10) rfl rfl ⟨rfl, rfl⟩ rfl ⟨rfl, rfl⟩ ⟨rfl, rfl⟩ ?_
        obtain ⟨⟨x14, M15⟩, e13, h⟩ := kOk_b h
        refine k_cVI G (dc d_SR_sign 34 rfl) kc6 (okL_lt hu (o := 3) 3 rfl) (okL_k hu (o := 3) 3 rfl) mi_Tw_counted mv_Tw_counted rfl ml_RX10_181 (c_Tw_counted (gst G) (okL_sub hu 3 (by decide +kernel)) e13) rfl rfl ⟨rfl, rfl⟩ rfl ⟨rfl, rfl⟩ ⟨rfl, rfl⟩ ?_
        exact ((kOk_s h).1 _ rfl) _ _ _ _ rfl rfl rfl (dc d_SR_sign 35 rfl)
      · replace h := kOk_n c7 h
        exact ((kOk_s h).2 _ rfl).2.1 _ _ _ _ _ 44 175 48 "there are 8 signs" ["java/lang/RuntimeException", "java/lang/Exception"] ts_RX10_44_48 sr_RX10_175 (dc d_SR_sign 16 rfl) (dc d_SR_sign 17 rfl) (dc d_SR_sign 18 rfl) (dc d_SR_sign 19 rfl) (dc d_SR_sign 20 rfl) rfl rfl rfl rfl
    · replace h := kOk_p c6 h
      exact ((kOk_s h).2 _ rfl).2.1 _ _ _ _ _ 33 170 37 "no word" ["java/lang/RuntimeException", "java/lang/Exception"] ts_RX10_33_37 sr_RX10_170 (dc d_SR_sign 5 rfl) (dc d_SR_sign 6 rfl) (dc d_SR_sign 7 rfl) (dc d_SR_sign 8 rfl) (dc d_SR_sign 9 rfl) rfl rfl rfl rfl
  · obtain rfl := rV_inl h9
    exact ((kOk_s h).2 _ rfl).1 _ _ _ _ _ rfl rfl
theorem c_SR_sign {l : Launch} {B : KB} {L : KLay} {M : KMem} {u : Nat} {p0 : Int32} {p1 : Int32} (hst : l.stackTraces = false) (hx : B.2.2.2 = false) (hu : okL L u srT) {r : String ⊕ Int32} {M' : KMem} (e : m_SR_sign u p0 p1 M = some (r, M')) : CtrX l B yX10_sign cX10_sign 3 (some .int) rm_SR_sign [.ref (B.1 + u), .int p0, .int p1] L M (rI r) M' :=
  mkXI hx rfl hst rfl (fun X hl G R => b_SR_sign G hx hu ⟨_, e, R⟩)
def I_SR_requireDecreeArguments : List (Nat × Instr × Nat) := [(0, .iload_n 0, 1), (1, .iload_n 1, 1), (2, .iload_n 2, 1), (3, .iload_n 3, 1), (4, .invokestatic 297, 3), (7, .ifCond .ne 14, 3), (10, .new 33, 3), (13, .dup, 1), (14, .ldc_w 289, 3), (17, .invokespecial 37, 3), (20, .athrow, 1), (21, .return_, 1)]
set_option maxRecDepth 100000 in
theorem d_SR_requireDecreeArguments : decA cX10_requireDecreeArguments I_SR_requireDecreeArguments = true := by decide +kernel
abbrev rm_SR_requireDecreeArguments : Room := ({ frames := 6, cells := 1, slots := 6, locals := 92 } : Room)
def m_SR_requireDecreeArguments (p0 : Int32) (p1 : Int32) (p2 : Int32) (p3 : Int32) : Option (Option String) :=
 Option.bind (m_De_canBe p0 p1 p2 p3) fun x2 =>
 if x2 = 0 then
 (some (some "java/lang/IllegalArgumentException"))
 else
 (some none)
set_option maxHeartbeats 4000000 in
set_option maxRecDepth 100000 in
theorem b_SR_requireDecreeArguments {X : KX} {B : KB} {L : KLay} {M : KMem} {p0 : Int32} {p1 : Int32} {p2 : Int32} {p3 : Int32} (G : Good X B RX10 cX10_requireDecreeArguments 4 rm_SR_requireDecreeArguments) (hx : B.2.2.2 = false)  (h : kOk (m_SR_requireDecreeArguments p0 p1 p2 p3) (fun r => RXV X B L 4 RX10 cX10_requireDecreeArguments rm_SR_requireDecreeArguments r M)) : KK X B L 4 0 0 M 0 [(0, .int p0), (1, .int p1), (2, .int p2), (3, .int p3)] [] := by
  unfold m_SR_requireDecreeArguments at h
  refine k_iload_n G (dc d_SR_requireDecreeArguments 0 rfl) 0 rfl rfl ?_
  refine k_iload_n G (dc d_SR_requireDecreeArguments 1 rfl) 1 rfl rfl ?_
  refine k_iload_n G (dc d_SR_requireDecreeArguments 2 rfl) 2 rfl rfl ?_
  refine k_iload_n G (dc d_SR_requireDecreeArguments 3 rfl) 3 rfl rfl ?_
  obtain ⟨x2, e1, h⟩ := kOk_b h
  refine k_cSI G (dc d_SR_requireDecreeArguments 4 rfl) mi_De_canBe ms_De_canBe ml_RX10_297 (c_De_canBe (gst G)  e1) rfl rfl ⟨rfl, rfl⟩ rfl ⟨rfl, rfl⟩ ⟨rfl, rfl⟩ ?_
  refine k_if_ne G (dc d_SR_requireDecreeArguments 5 rfl) (tgt := 21) rfl (fun c3 => ?_) (fun c3 => ?_)
  · replace h := kOk_n c3 h
    exact ((kOk_s h).1 rfl) _ _ _ _ rfl rfl (dc d_SR_requireDecreeArguments 11 rfl)
  · replace h := kOk_p c3 h
    exact ((kOk_s h).2 _ rfl).2.2 _ _ _ _ _ 33 289 37 "no such decree" ["java/lang/RuntimeException", "java/lang/Exception"] ts_RX10_33_37 sr_RX10_289 (dc d_SR_requireDecreeArguments 6 rfl) (dc d_SR_requireDecreeArguments 7 rfl) (dc d_SR_requireDecreeArguments 8 rfl) (dc d_SR_requireDecreeArguments 9 rfl) (dc d_SR_requireDecreeArguments 10 rfl) rfl rfl rfl rfl
theorem c_SR_requireDecreeArguments {l : Launch} {B : KB} {L : KLay} {M : KMem} {p0 : Int32} {p1 : Int32} {p2 : Int32} {p3 : Int32} (hst : l.stackTraces = false) (hx : B.2.2.2 = false)  {r : Option String} (e : m_SR_requireDecreeArguments p0 p1 p2 p3 = some r) : CtrX l B yX10_requireDecreeArguments cX10_requireDecreeArguments 4 none rm_SR_requireDecreeArguments [.int p0, .int p1, .int p2, .int p3] L M (rV r) M :=
  mkXV hx rfl hst rfl (fun X hl G R => b_SR_requireDecreeArguments G hx  ⟨_, e, R⟩)
def I_SR_decree : List (Nat × Instr × Nat) := [(0, .iload_n 1, 1), (1, .iload_n 2, 1), (2, .iload_n 3, 1), (3, .iload 4, 2), (5, .invokestatic 184, 3), (8, .aload_n 0, 1), (9, .getfield 19, 3), (12, .getfield 59, 3), (15, .getfield 135, 3), (18, .invokevirtual 188, 3), (21, .ifCond .eq 13, 3), (24, .new 44, 3), (27, .dup, 1), (28, .ldc 191, 2), (30, .invokespecial 48, 3), (33, .athrow, 1), (34, .aload_n 0, 1), (35, .getfield 29, 3), (38, .aload_n 0, 1), (39, .getfield 19, 3), (42, .getfield 59, 3), (45, .invokevirtual 177, 3), (48, .aload_n 0, 1), (49, .getfield 19, 3), (52, .aload_n 0, 1), (53, .getfield 19, 3), (56, .iload_n 1, 1), (57, .iload_n 2, 1), (58, .iload_n 3, 1), (59, .iload 4, 2), (61, .invokevirtual 100, 3), (64, .invokevirtual 181, 3), (67, .ireturn, 1)]
set_option maxRecDepth 100000 in
theorem d_SR_decree : decA cX10_decree I_SR_decree = true := by decide +kernel
abbrev rm_SR_decree : Room := ({ frames := 7, cells := 2, slots := 12, locals := 124 } : Room)
def m_SR_decree (u : Nat) (p0 : Int32) (p1 : Int32) (p2 : Int32) (p3 : Int32) (M : KMem) : Option ((String ⊕ Int32) × KMem) :=
 Option.bind (m_SR_requireDecreeArguments p0 p1 p2 p3) fun r2 => match r2 with
 | some E3 => some (.inl E3, M)
 | none =>
 (Option.bind (m_De_areFull (u + 5) M) fun x5 =>
 if x5 = 0 then
 (Option.bind (m_Me_remember (u + 39) (u + 4) M) fun M8 =>
 Option.bind (m_Tw_giveDecree (u + 3) p0 p1 p2 p3 M8) fun (x10, M11) =>
 Option.bind (m_Tw_counted (u + 3) x10 M11) fun (x13, M14) =>
 some (.inr x13, M14))
 else
 (some (.inl "java/lang/IllegalStateException", M)))
set_option maxHeartbeats 4000000 in
set_option maxRecDepth 100000 in
theorem b_SR_decree {X : KX} {B : KB} {L : KLay} {M : KMem} {u : Nat} {p0 : Int32} {p1 : Int32} {p2 : Int32} {p3 : Int32} (G : Good X B RX10 cX10_decree 5 rm_SR_decree) (hx : B.2.2.2 = false) (hu : okL L u srT) (h : kOk (m_SR_decree u p0 p1 p2 p3 M) (fun r => RXI X B L 5 RX10 cX10_decree .int rm_SR_decree r.1 r.2)) : KK X B L 5 0 0 M 0 [(0, .ref (B.1 + u)), (1, .int p0), (2, .int p1), (3, .int p2), (4, .int p3)] [] := by
  unfold m_SR_decree at h
  refine k_iload_n G (dc d_SR_decree 0 rfl) 1 rfl rfl ?_
  refine k_iload_n G (dc d_SR_decree 1 rfl) 2 rfl rfl ?_
  refine k_iload_n G (dc d_SR_decree 2 rfl) 3 rfl rfl ?_
  refine k_iload G (dc d_SR_decree 3 rfl) 4 rfl ?_
  obtain ⟨r2, e1, h⟩ := kOk_b h
  refine k_callSX G (dc d_SR_decree 4 rfl) mi_SR_requireDecreeArguments ms_SR_requireDecreeArguments ml_RX10_184 (c_SR_requireDecreeArguments (gst G) hx  e1) rfl rfl ⟨rfl, rfl⟩ rfl ⟨rfl, rfl⟩ (fun v9 h9 => ?_) (fun E9 h9 => ?_)
  · obtain ⟨rfl, rfl⟩ := rV_inr h9
    show KK X B L 5 1 6 M 8 [(0, .ref (B.1 + u)), (1, .int p0), (2, .int p1), (3, .int p2), (4, .int p3)] []
    refine k_aload_n G (dc d_SR_decree 5 rfl) 0 rfl rfl ?_
    refine k_getR G kc7 (dc d_SR_decree 6 rfl) (okL_lt hu (o := 0) 0 rfl) (okL_k hu (o := 0) 0 rfl) 1 (by decide) rfl fl_RX10_19 (u + 3) (okL_r hu (o := 0) (c := 3) 0 rfl 1 rfl) ?_
    refine k_getR G kc6 (dc d_SR_decree 7 rfl) (okL_lt hu (o := 3) 3 rfl) (okL_k hu (o := 3) 3 rfl) 0 (by decide) rfl fl_RX10_59 (u + 4) (okL_r hu (o := 3) (c := 4) 3 rfl 0 rfl) ?_
    refine k_getR G kc5 (dc d_SR_decree 8 rfl) (okL_lt hu (o := 4) 4 rfl) (okL_k hu (o := 4) 4 rfl) 0 (by decide) rfl fl_RX10_135 (u + 5) (okL_r hu (o := 4) (c := 5) 4 rfl 0 rfl) ?_
    obtain ⟨x5, e4, h⟩ := kOk_b h
    refine k_cVI G (dc d_SR_decree 9 rfl) kc0 (okL_lt hu (o := 5) 5 rfl) (okL_k hu (o := 5) 5 rfl) mi_De_areFull mv_De_areFull rfl ml_RX10_188 (c_De_areFull (gst G) (okL_sub hu 5 (by decide +kernel)) e4) rfl rfl ⟨rfl, rfl⟩ rfl ⟨rfl, rfl⟩ ⟨rfl, rfl⟩ ?_
    refine k_if_eq G (dc d_SR_decree 10 rfl) (tgt := 34) rfl (fun c6 => ?_) (fun c6 => ?_)
    · replace h := kOk_p c6 h
      refine k_aload_n G (dc d_SR_decree 16 rfl) 0 rfl rfl ?_
      refine k_getR G kc7 (dc d_SR_decree 17 rfl) (okL_lt hu (o := 0) 0 rfl) (okL_k hu (o := 0) 0 rfl) 3 (by decide) rfl fl_RX10_29 (u + 39) (okL_r hu (o := 0) (c := 39) 0 rfl 3 rfl) ?_
      refine k_aload_n G (dc d_SR_decree 18 rfl) 0 rfl rfl ?_
      refine k_getR G kc7 (dc d_SR_decree 19 rfl) (okL_lt hu (o := 0) 0 rfl) (okL_k hu (o := 0) 0 rfl) 1 (by decide) rfl fl_RX10_19 (u + 3) (okL_r hu (o := 0) (c := 3) 0 rfl 1 rfl) ?_
      refine k_getR G kc6 (dc d_SR_decree 20 rfl) (okL_lt hu (o := 3) 3 rfl) (okL_k hu (o := 3) 3 rfl) 0 (by decide) rfl fl_RX10_59 (u + 4) (okL_r hu (o := 3) (c := 4) 3 rfl 0 rfl) ?_
      obtain ⟨M8, e7, h⟩ := kOk_b h
      refine k_cVV G (dc d_SR_decree 21 rfl) kc2 (okL_lt hu (o := 39) 39 rfl) (okL_k hu (o := 39) 39 rfl) mi_Me_remember mv_Me_remember rfl ml_RX10_177 (c_Me_remember (gst G) hx (okL_sub hu 39 (by decide +kernel)) (okL_sub hu 4 (by decide +kernel)) e7) rfl rfl ⟨rfl, rfl⟩ rfl ⟨rfl, rfl⟩ ⟨rfl, rfl⟩ ?_
      refine k_aload_n G (dc d_SR_decree 22 rfl) 0 rfl rfl ?_
      refine k_getR G kc7 (dc d_SR_decree 23 rfl) (okL_lt hu (o := 0) 0 rfl) (okL_k hu (o := 0) 0 rfl) 1 (by decide) rfl fl_RX10_19 (u + 3) (okL_r hu (o := 0) (c := 3) 0 rfl 1 rfl) ?_
      refine k_aload_n G (dc d_SR_decree 24 rfl) 0 rfl rfl ?_
      refine k_getR G kc7 (dc d_SR_decree 25 rfl) (okL_lt hu (o := 0) 0 rfl) (okL_k hu (o := 0) 0 rfl) 1 (by decide) rfl fl_RX10_19 (u + 3) (okL_r hu (o := 0) (c := 3) 0 rfl 1 rfl) ?_
      refine k_iload_n G (dc d_SR_decree 26 rfl) 1 rfl rfl ?_
      refine k_iload_n G (dc d_SR_decree 27 rfl) 2 rfl rfl ?_
      refine k_iload_n G (dc d_SR_decree 28 rfl) 3 rfl rfl ?_
      refine k_iload G (dc d_SR_decree 29 rfl) 4 rfl ?_
      obtain ⟨⟨x10, M11⟩, e9, h⟩ := kOk_b h
      refine k_cVI G (dc d_SR_decree 30 rfl) kc6 (okL_lt hu (o := 3) 3 rfl) (okL_k hu (o := 3) 3 rfl) mi_Tw_giveDecree mv_Tw_giveDecree rfl ml_RX10_100 (c_Tw_giveDecree (gst G) hx (okL_sub hu 3 (by decide +kernel)) e9) rfl rfl ⟨rfl, rfl⟩ rfl ⟨rfl, rfl⟩ ⟨rfl, rfl⟩ ?_
      obtain ⟨⟨x13, M14⟩, e12, h⟩ := kOk_b h
      refine k_cVI G (dc d_SR_decree 31 rfl) kc6 (okL_lt hu (o := 3) 3 rfl) (okL_k hu (o := 3) 3 rfl) mi_Tw_counted mv_Tw_counted rfl ml_RX10_181 (c_Tw_counted (gst G) (okL_sub hu 3 (by decide +kernel)) e12) rfl rfl ⟨rfl, rfl⟩ rfl ⟨rfl, rfl⟩ ⟨rfl, rfl⟩ ?_
      exact ((kOk_s h).1 _ rfl) _ _ _ _ rfl rfl rfl (dc d_SR_decree 32 rfl)
    · replace h := kOk_n c6 h
      exact ((kOk_s h).2 _ rfl).2.1 _ _ _ _ _ 44 191 48 "10 decrees are in force" ["java/lang/RuntimeException", "java/lang/Exception"] ts_RX10_44_48 sr_RX10_191 (dc d_SR_decree 11 rfl) (dc d_SR_decree 12 rfl) (dc d_SR_decree 13 rfl) (dc d_SR_decree 14 rfl) (dc d_SR_decree 15 rfl) rfl rfl rfl rfl
  · obtain rfl := rV_inl h9
    exact ((kOk_s h).2 _ rfl).1 _ _ _ _ _ rfl rfl
theorem c_SR_decree {l : Launch} {B : KB} {L : KLay} {M : KMem} {u : Nat} {p0 : Int32} {p1 : Int32} {p2 : Int32} {p3 : Int32} (hst : l.stackTraces = false) (hx : B.2.2.2 = false) (hu : okL L u srT) {r : String ⊕ Int32} {M' : KMem} (e : m_SR_decree u p0 p1 p2 p3 M = some (r, M')) : CtrX l B yX10_decree cX10_decree 5 (some .int) rm_SR_decree [.ref (B.1 + u), .int p0, .int p1, .int p2, .int p3] L M (rI r) M' :=
  mkXI hx rfl hst rfl (fun X hl G R => b_SR_decree G hx hu ⟨_, e, R⟩)
def I_SR_revoke : List (Nat × Instr × Nat) := [(0, .aload_n 0, 1), (1, .iload_n 1, 1), (2, .invokevirtual 130, 3), (5, .aload_n 0, 1), (6, .getfield 29, 3), (9, .aload_n 0, 1), (10, .getfield 19, 3), (13, .getfield 59, 3), (16, .invokevirtual 177, 3), (19, .aload_n 0, 1), (20, .getfield 19, 3), (23, .aload_n 0, 1), (24, .getfield 19, 3), (27, .iload_n 1, 1), (28, .invokevirtual 104, 3), (31, .invokevirtual 181, 3), (34, .ireturn, 1)]
set_option maxRecDepth 100000 in
theorem d_SR_revoke : decA cX10_revoke I_SR_revoke = true := by decide +kernel
abbrev rm_SR_revoke : Room := ({ frames := 7, cells := 1, slots := 6, locals := 124 } : Room)
def m_SR_revoke (u : Nat) (p0 : Int32) (M : KMem) : Option ((String ⊕ Int32) × KMem) :=
 Option.bind (m_SR_requireDecree u p0 M) fun r2 => match r2 with
 | some E3 => some (.inl E3, M)
 | none =>
 (Option.bind (m_Me_remember (u + 39) (u + 4) M) fun M5 =>
 Option.bind (m_Tw_takeDecree (u + 3) p0 M5) fun (x7, M8) =>
 Option.bind (m_Tw_counted (u + 3) x7 M8) fun (x10, M11) =>
 some (.inr x10, M11))
set_option maxHeartbeats 4000000 in
set_option maxRecDepth 100000 in
theorem b_SR_revoke {X : KX} {B : KB} {L : KLay} {M : KMem} {u : Nat} {p0 : Int32} (G : Good X B RX10 cX10_revoke 2 rm_SR_revoke) (hx : B.2.2.2 = false) (hu : okL L u srT) (h : kOk (m_SR_revoke u p0 M) (fun r => RXI X B L 2 RX10 cX10_revoke .int rm_SR_revoke r.1 r.2)) : KK X B L 2 0 0 M 0 [(0, .ref (B.1 + u)), (1, .int p0)] [] := by
  unfold m_SR_revoke at h
  refine k_aload_n G (dc d_SR_revoke 0 rfl) 0 rfl rfl ?_
  refine k_iload_n G (dc d_SR_revoke 1 rfl) 1 rfl rfl ?_
  obtain ⟨r2, e1, h⟩ := kOk_b h
  refine k_callVX G (dc d_SR_revoke 2 rfl) kc7 (okL_lt hu (o := 0) 0 rfl) (okL_k hu (o := 0) 0 rfl) mi_SR_requireDecree mv_SR_requireDecree rfl ml_RX10_130 (c_SR_requireDecree (gst G) hx hu e1) rfl rfl ⟨rfl, rfl⟩ rfl ⟨rfl, rfl⟩ (fun v9 h9 => ?_) (fun E9 h9 => ?_)
  · obtain ⟨rfl, rfl⟩ := rV_inr h9
    show KK X B L 2 1 6 M 5 [(0, .ref (B.1 + u)), (1, .int p0)] []
    refine k_aload_n G (dc d_SR_revoke 3 rfl) 0 rfl rfl ?_
    refine k_getR G kc7 (dc d_SR_revoke 4 rfl) (okL_lt hu (o := 0) 0 rfl) (okL_k hu (o := 0) 0 rfl) 3 (by decide) rfl fl_RX10_29 (u + 39) (okL_r hu (o := 0) (c := 39) 0 rfl 3 rfl) ?_
    refine k_aload_n G (dc d_SR_revoke 5 rfl) 0 rfl rfl ?_
    refine k_getR G kc7 (dc d_SR_revoke 6 rfl) (okL_lt hu (o := 0) 0 rfl) (okL_k hu (o := 0) 0 rfl) 1 (by decide) rfl fl_RX10_19 (u + 3) (okL_r hu (o := 0) (c := 3) 0 rfl 1 rfl) ?_
    refine k_getR G kc6 (dc d_SR_revoke 7 rfl) (okL_lt hu (o := 3) 3 rfl) (okL_k hu (o := 3) 3 rfl) 0 (by decide) rfl fl_RX10_59 (u + 4) (okL_r hu (o := 3) (c := 4) 3 rfl 0 rfl) ?_
    obtain ⟨M5, e4, h⟩ := kOk_b h
    refine k_cVV G (dc d_SR_revoke 8 rfl) kc2 (okL_lt hu (o := 39) 39 rfl) (okL_k hu (o := 39) 39 rfl) mi_Me_remember mv_Me_remember rfl ml_RX10_177 (c_Me_remember (gst G) hx (okL_sub hu 39 (by decide +kernel)) (okL_sub hu 4 (by decide +kernel)) e4) rfl rfl ⟨rfl, rfl⟩ rfl ⟨rfl, rfl⟩ ⟨rfl, rfl⟩ ?_
    refine k_aload_n G (dc d_SR_revoke 9 rfl) 0 rfl rfl ?_
    refine k_getR G kc7 (dc d_SR_revoke 10 rfl) (okL_lt hu (o := 0) 0 rfl) (okL_k hu (o := 0) 0 rfl) 1 (by decide) rfl fl_RX10_19 (u + 3) (okL_r hu (o := 0) (c := 3) 0 rfl 1 rfl) ?_
    refine k_aload_n G (dc d_SR_revoke 11 rfl) 0 rfl rfl ?_
    refine k_getR G kc7 (dc d_SR_revoke 12 rfl) (okL_lt hu (o := 0) 0 rfl) (okL_k hu (o := 0) 0 rfl) 1 (by decide) rfl fl_RX10_19 (u + 3) (okL_r hu (o := 0) (c := 3) 0 rfl 1 rfl) ?_
    refine k_iload_n G (dc d_SR_revoke 13 rfl) 1 rfl rfl ?_
    obtain ⟨⟨x7, M8⟩, e6, h⟩ := kOk_b h
    refine k_cVI G (dc d_SR_revoke 14 rfl) kc6 (okL_lt hu (o := 3) 3 rfl) (okL_k hu (o := 3) 3 rfl) mi_Tw_takeDecree mv_Tw_takeDecree rfl ml_RX10_104 (c_Tw_takeDecree (gst G) hx (okL_sub hu 3 (by decide +kernel)) e6) rfl rfl ⟨rfl, rfl⟩ rfl ⟨rfl, rfl⟩ ⟨rfl, rfl⟩ ?_
    obtain ⟨⟨x10, M11⟩, e9, h⟩ := kOk_b h
    refine k_cVI G (dc d_SR_revoke 15 rfl) kc6 (okL_lt hu (o := 3) 3 rfl) (okL_k hu (o := 3) 3 rfl) mi_Tw_counted mv_Tw_counted rfl ml_RX10_181 (c_Tw_counted (gst G) (okL_sub hu 3 (by decide +kernel)) e9) rfl rfl ⟨rfl, rfl⟩ rfl ⟨rfl, rfl⟩ ⟨rfl, rfl⟩ ?_
    exact ((kOk_s h).1 _ rfl) _ _ _ _ rfl rfl rfl (dc d_SR_revoke 16 rfl)
  · obtain rfl := rV_inl h9
    exact ((kOk_s h).2 _ rfl).1 _ _ _ _ _ rfl rfl
theorem c_SR_revoke {l : Launch} {B : KB} {L : KLay} {M : KMem} {u : Nat} {p0 : Int32} (hst : l.stackTraces = false) (hx : B.2.2.2 = false) (hu : okL L u srT) {r : String ⊕ Int32} {M' : KMem} (e : m_SR_revoke u p0 M = some (r, M')) : CtrX l B yX10_revoke cX10_revoke 2 (some .int) rm_SR_revoke [.ref (B.1 + u), .int p0] L M (rI r) M' :=
  mkXI hx rfl hst rfl (fun X hl G R => b_SR_revoke G hx hu ⟨_, e, R⟩)
def I_SR_paint : List (Nat × Instr × Nat) := [(0, .aload_n 0, 1), (1, .iload_n 1, 1), (2, .invokevirtual 122, 3), (5, .aload_n 0, 1), (6, .getfield 29, 3), (9, .aload_n 0, 1), (10, .getfield 19, 3), (13, .getfield 59, 3), (16, .invokevirtual 177, 3), (19, .aload_n 0, 1), (20, .getfield 19, 3), (23, .iload_n 1, 1), (24, .invokevirtual 108, 3), (27, .ireturn, 1)]
set_option maxRecDepth 100000 in
theorem d_SR_paint : decA cX10_paint I_SR_paint = true := by decide +kernel
abbrev rm_SR_paint : Room := ({ frames := 7, cells := 1, slots := 6, locals := 137 } : Room)
def m_SR_paint (u : Nat) (p0 : Int32) (M : KMem) : Option ((String ⊕ Int32) × KMem) :=
 Option.bind (m_SR_requireSign u p0 M) fun r2 => match r2 with
 | some E3 => some (.inl E3, M)
 | none =>
 (Option.bind (m_Me_remember (u + 39) (u + 4) M) fun M5 =>
 Option.bind (m_Tw_repaint (u + 3) p0 M5) fun (x7, M8) =>
 some (.inr x7, M8))
set_option maxHeartbeats 4000000 in
set_option maxRecDepth 100000 in
theorem b_SR_paint {X : KX} {B : KB} {L : KLay} {M : KMem} {u : Nat} {p0 : Int32} (G : Good X B RX10 cX10_paint 2 rm_SR_paint) (hx : B.2.2.2 = false) (hu : okL L u srT) (h : kOk (m_SR_paint u p0 M) (fun r => RXI X B L 2 RX10 cX10_paint .int rm_SR_paint r.1 r.2)) : KK X B L 2 0 0 M 0 [(0, .ref (B.1 + u)), (1, .int p0)] [] := by
  unfold m_SR_paint at h
  refine k_aload_n G (dc d_SR_paint 0 rfl) 0 rfl rfl ?_
  refine k_iload_n G (dc d_SR_paint 1 rfl) 1 rfl rfl ?_
  obtain ⟨r2, e1, h⟩ := kOk_b h
  refine k_callVX G (dc d_SR_paint 2 rfl) kc7 (okL_lt hu (o := 0) 0 rfl) (okL_k hu (o := 0) 0 rfl) mi_SR_requireSign mv_SR_requireSign rfl ml_RX10_122 (c_SR_requireSign (gst G) hx hu e1) rfl rfl ⟨rfl, rfl⟩ rfl ⟨rfl, rfl⟩ (fun v9 h9 => ?_) (fun E9 h9 => ?_)
  · obtain ⟨rfl, rfl⟩ := rV_inr h9
    show KK X B L 2 1 6 M 5 [(0, .ref (B.1 + u)), (1, .int p0)] []
    refine k_aload_n G (dc d_SR_paint 3 rfl) 0 rfl rfl ?_
    refine k_getR G kc7 (dc d_SR_paint 4 rfl) (okL_lt hu (o := 0) 0 rfl) (okL_k hu (o := 0) 0 rfl) 3 (by decide) rfl fl_RX10_29 (u + 39) (okL_r hu (o := 0) (c := 39) 0 rfl 3 rfl) ?_
    refine k_aload_n G (dc d_SR_paint 5 rfl) 0 rfl rfl ?_
    refine k_getR G kc7 (dc d_SR_paint 6 rfl) (okL_lt hu (o := 0) 0 rfl) (okL_k hu (o := 0) 0 rfl) 1 (by decide) rfl fl_RX10_19 (u + 3) (okL_r hu (o := 0) (c := 3) 0 rfl 1 rfl) ?_
    refine k_getR G kc6 (dc d_SR_paint 7 rfl) (okL_lt hu (o := 3) 3 rfl) (okL_k hu (o := 3) 3 rfl) 0 (by decide) rfl fl_RX10_59 (u + 4) (okL_r hu (o := 3) (c := 4) 3 rfl 0 rfl) ?_
    obtain ⟨M5, e4, h⟩ := kOk_b h
    refine k_cVV G (dc d_SR_paint 8 rfl) kc2 (okL_lt hu (o := 39) 39 rfl) (okL_k hu (o := 39) 39 rfl) mi_Me_remember mv_Me_remember rfl ml_RX10_177 (c_Me_remember (gst G) hx (okL_sub hu 39 (by decide +kernel)) (okL_sub hu 4 (by decide +kernel)) e4) rfl rfl ⟨rfl, rfl⟩ rfl ⟨rfl, rfl⟩ ⟨rfl, rfl⟩ ?_
    refine k_aload_n G (dc d_SR_paint 9 rfl) 0 rfl rfl ?_
    refine k_getR G kc7 (dc d_SR_paint 10 rfl) (okL_lt hu (o := 0) 0 rfl) (okL_k hu (o := 0) 0 rfl) 1 (by decide) rfl fl_RX10_19 (u + 3) (okL_r hu (o := 0) (c := 3) 0 rfl 1 rfl) ?_
    refine k_iload_n G (dc d_SR_paint 11 rfl) 1 rfl rfl ?_
    obtain ⟨⟨x7, M8⟩, e6, h⟩ := kOk_b h
    refine k_cVI G (dc d_SR_paint 12 rfl) kc6 (okL_lt hu (o := 3) 3 rfl) (okL_k hu (o := 3) 3 rfl) mi_Tw_repaint mv_Tw_repaint rfl ml_RX10_108 (c_Tw_repaint (gst G) (okL_sub hu 3 (by decide +kernel)) e6) rfl rfl ⟨rfl, rfl⟩ rfl ⟨rfl, rfl⟩ ⟨rfl, rfl⟩ ?_
    exact ((kOk_s h).1 _ rfl) _ _ _ _ rfl rfl rfl (dc d_SR_paint 13 rfl)
  · obtain rfl := rV_inl h9
    exact ((kOk_s h).2 _ rfl).1 _ _ _ _ _ rfl rfl
theorem c_SR_paint {l : Launch} {B : KB} {L : KLay} {M : KMem} {u : Nat} {p0 : Int32} (hst : l.stackTraces = false) (hx : B.2.2.2 = false) (hu : okL L u srT) {r : String ⊕ Int32} {M' : KMem} (e : m_SR_paint u p0 M = some (r, M')) : CtrX l B yX10_paint cX10_paint 2 (some .int) rm_SR_paint [.ref (B.1 + u), .int p0] L M (rI r) M' :=
  mkXI hx rfl hst rfl (fun X hl G R => b_SR_paint G hx hu ⟨_, e, R⟩)
def I_SR_months : List (Nat × Instr × Nat) := [(0, .iload_n 1, 1), (1, .iconst 1, 1), (2, .if_icmp .lt 9, 3), (5, .iload_n 1, 1), (6, .bipush 60, 2), (8, .if_icmp .le 13, 3), (11, .new 33, 3), (14, .dup, 1), (15, .ldc 193, 2), (17, .invokespecial 37, 3), (20, .athrow, 1), (21, .aload_n 0, 1), (22, .getfield 29, 3), (25, .aload_n 0, 1), (26, .getfield 19, 3), (29, .getfield 59, 3), (32, .invokevirtual 177, 3), (35, .aload_n 0, 1), (36, .getfield 19, 3), (39, .iload_n 1, 1), (40, .invokevirtual 111, 3), (43, .ireturn, 1)]
set_option maxRecDepth 100000 in
theorem d_SR_months : decA cX10_months I_SR_months = true := by decide +kernel
abbrev rm_SR_months : Room := ({ frames := 6, cells := 1, slots := 6, locals := 124 } : Room)
def m_SR_months (u : Nat) (p0 : Int32) (M : KMem) : Option ((String ⊕ Int32) × KMem) :=
 if p0 < 1 then
 (some (.inl "java/lang/IllegalArgumentException", M))
 else
 (if p0 ≤ 60 then
 (Option.bind (m_Me_remember (u + 39) (u + 4) M) fun M4 =>
 Option.bind (m_Tw_passMonths (u + 3) p0 M4) fun (x6, M7) =>
 some (.inr x6, M7))
 else
 (some (.inl "java/lang/IllegalArgumentException", M)))
set_option maxHeartbeats 4000000 in
set_option maxRecDepth 100000 in
theorem b_SR_months {X : KX} {B : KB} {L : KLay} {M : KMem} {u : Nat} {p0 : Int32} (G : Good X B RX10 cX10_months 2 rm_SR_months) (hx : B.2.2.2 = false) (hu : okL L u srT) (h : kOk (m_SR_months u p0 M) (fun r => RXI X B L 2 RX10 cX10_months .int rm_SR_months r.1 r.2)) : KK X B L 2 0 0 M 0 [(0, .ref (B.1 + u)), (1, .int p0)] [] := by
  unfold m_SR_months at h
  refine k_iload_n G (dc d_SR_months 0 rfl) 1 rfl rfl ?_
  refine k_iconst G (dc d_SR_months 1 rfl) cI_1 ?_
  refine k_icmp_lt G (dc d_SR_months 2 rfl) (tgt := 11) rfl (fun c1 => ?_) (fun c1 => ?_)
  · replace h := kOk_p c1 h
    exact ((kOk_s h).2 _ rfl).2.1 _ _ _ _ _ 33 193 37 "no such number of months" ["java/lang/RuntimeException", "java/lang/Exception"] ts_RX10_33_37 sr_RX10_193 (dc d_SR_months 6 rfl) (dc d_SR_months 7 rfl) (dc d_SR_months 8 rfl) (dc d_SR_months 9 rfl) (dc d_SR_months 10 rfl) rfl rfl rfl rfl
  · replace h := kOk_n c1 h
    refine k_iload_n G (dc d_SR_months 3 rfl) 1 rfl rfl ?_
    refine k_bipush G (dc d_SR_months 4 rfl) cB_60 ?_
    refine k_icmp_le G (dc d_SR_months 5 rfl) (tgt := 21) rfl (fun c2 => ?_) (fun c2 => ?_)
    · replace h := kOk_p c2 h
      refine k_aload_n G (dc d_SR_months 11 rfl) 0 rfl rfl ?_
      refine k_getR G kc7 (dc d_SR_months 12 rfl) (okL_lt hu (o := 0) 0 rfl) (okL_k hu (o := 0) 0 rfl) 3 (by decide) rfl fl_RX10_29 (u + 39) (okL_r hu (o := 0) (c := 39) 0 rfl 3 rfl) ?_
      refine k_aload_n G (dc d_SR_months 13 rfl) 0 rfl rfl ?_
      refine k_getR G kc7 (dc d_SR_months 14 rfl) (okL_lt hu (o := 0) 0 rfl) (okL_k hu (o := 0) 0 rfl) 1 (by decide) rfl fl_RX10_19 (u + 3) (okL_r hu (o := 0) (c := 3) 0 rfl 1 rfl) ?_
      refine k_getR G kc6 (dc d_SR_months 15 rfl) (okL_lt hu (o := 3) 3 rfl) (okL_k hu (o := 3) 3 rfl) 0 (by decide) rfl fl_RX10_59 (u + 4) (okL_r hu (o := 3) (c := 4) 3 rfl 0 rfl) ?_
      obtain ⟨M4, e3, h⟩ := kOk_b h
      refine k_cVV G (dc d_SR_months 16 rfl) kc2 (okL_lt hu (o := 39) 39 rfl) (okL_k hu (o := 39) 39 rfl) mi_Me_remember mv_Me_remember rfl ml_RX10_177 (c_Me_remember (gst G) hx (okL_sub hu 39 (by decide +kernel)) (okL_sub hu 4 (by decide +kernel)) e3) rfl rfl ⟨rfl, rfl⟩ rfl ⟨rfl, rfl⟩ ⟨rfl, rfl⟩ ?_
      refine k_aload_n G (dc d_SR_months 17 rfl) 0 rfl rfl ?_
      refine k_getR G kc7 (dc d_SR_months 18 rfl) (okL_lt hu (o := 0) 0 rfl) (okL_k hu (o := 0) 0 rfl) 1 (by decide) rfl fl_RX10_19 (u + 3) (okL_r hu (o := 0) (c := 3) 0 rfl 1 rfl) ?_
      refine k_iload_n G (dc d_SR_months 19 rfl) 1 rfl rfl ?_
      obtain ⟨⟨x6, M7⟩, e5, h⟩ := kOk_b h
      refine k_cVI G (dc d_SR_months 20 rfl) kc6 (okL_lt hu (o := 3) 3 rfl) (okL_k hu (o := 3) 3 rfl) mi_Tw_passMonths mv_Tw_passMonths rfl ml_RX10_111 (c_Tw_passMonths (gst G) (okL_sub hu 3 (by decide +kernel)) e5) rfl rfl ⟨rfl, rfl⟩ rfl ⟨rfl, rfl⟩ ⟨rfl, rfl⟩ ?_
      exact ((kOk_s h).1 _ rfl) _ _ _ _ rfl rfl rfl (dc d_SR_months 21 rfl)
    · replace h := kOk_n c2 h
      exact ((kOk_s h).2 _ rfl).2.1 _ _ _ _ _ 33 193 37 "no such number of months" ["java/lang/RuntimeException", "java/lang/Exception"] ts_RX10_33_37 sr_RX10_193 (dc d_SR_months 6 rfl) (dc d_SR_months 7 rfl) (dc d_SR_months 8 rfl) (dc d_SR_months 9 rfl) (dc d_SR_months 10 rfl) rfl rfl rfl rfl
theorem c_SR_months {l : Launch} {B : KB} {L : KLay} {M : KMem} {u : Nat} {p0 : Int32} (hst : l.stackTraces = false) (hx : B.2.2.2 = false) (hu : okL L u srT) {r : String ⊕ Int32} {M' : KMem} (e : m_SR_months u p0 M = some (r, M')) : CtrX l B yX10_months cX10_months 2 (some .int) rm_SR_months [.ref (B.1 + u), .int p0] L M (rI r) M' :=
  mkXI hx rfl hst rfl (fun X hl G R => b_SR_months G hx hu ⟨_, e, R⟩)
def I_SR_amnesty : List (Nat × Instr × Nat) := [(0, .iload_n 1, 1), (1, .iconst 1, 1), (2, .if_icmp .lt 9, 3), (5, .iload_n 1, 1), (6, .bipush 9, 2), (8, .if_icmp .le 13, 3), (11, .new 33, 3), (14, .dup, 1), (15, .ldc 193, 2), (17, .invokespecial 37, 3), (20, .athrow, 1), (21, .aload_n 0, 1), (22, .getfield 19, 3), (25, .invokevirtual 195, 3), (28, .ifCond .ne 13, 3), (31, .new 44, 3), (34, .dup, 1), (35, .ldc 198, 2), (37, .invokespecial 48, 3), (40, .athrow, 1), (41, .aload_n 0, 1), (42, .getfield 29, 3), (45, .aload_n 0, 1), (46, .getfield 19, 3), (49, .getfield 59, 3), (52, .invokevirtual 177, 3), (55, .aload_n 0, 1), (56, .getfield 19, 3), (59, .iload_n 1, 1), (60, .invokevirtual 114, 3), (63, .ireturn, 1)]
set_option maxRecDepth 100000 in
theorem d_SR_amnesty : decA cX10_amnesty I_SR_amnesty = true := by decide +kernel
abbrev rm_SR_amnesty : Room := ({ frames := 6, cells := 1, slots := 6, locals := 124 } : Room)
def m_SR_amnesty (u : Nat) (p0 : Int32) (M : KMem) : Option ((String ⊕ Int32) × KMem) :=
 if p0 < 1 then
 (some (.inl "java/lang/IllegalArgumentException", M))
 else
 (if p0 ≤ 9 then
 (Option.bind (m_Tw_canForgive (u + 3) M) fun x4 =>
 if x4 = 0 then
 (some (.inl "java/lang/IllegalStateException", M))
 else
 (Option.bind (m_Me_remember (u + 39) (u + 4) M) fun M7 =>
 Option.bind (m_Tw_forgive (u + 3) p0 M7) fun (x9, M10) =>
 some (.inr x9, M10)))
 else
 (some (.inl "java/lang/IllegalArgumentException", M)))
set_option maxHeartbeats 4000000 in
set_option maxRecDepth 100000 in
theorem b_SR_amnesty {X : KX} {B : KB} {L : KLay} {M : KMem} {u : Nat} {p0 : Int32} (G : Good X B RX10 cX10_amnesty 2 rm_SR_amnesty) (hx : B.2.2.2 = false) (hu : okL L u srT) (h : kOk (m_SR_amnesty u p0 M) (fun r => RXI X B L 2 RX10 cX10_amnesty .int rm_SR_amnesty r.1 r.2)) : KK X B L 2 0 0 M 0 [(0, .ref (B.1 + u)), (1, .int p0)] [] := by
  unfold m_SR_amnesty at h
  refine k_iload_n G (dc d_SR_amnesty 0 rfl) 1 rfl rfl ?_
  refine k_iconst G (dc d_SR_amnesty 1 rfl) cI_1 ?_
  refine k_icmp_lt G (dc d_SR_amnesty 2 rfl) (tgt := 11) rfl (fun c1 => ?_) (fun c1 => ?_)
  · replace h := kOk_p c1 h
    exact ((kOk_s h).2 _ rfl).2.1 _ _ _ _ _ 33 193 37 "no such number of months" ["java/lang/RuntimeException", "java/lang/Exception"] ts_RX10_33_37 sr_RX10_193 (dc d_SR_amnesty 6 rfl) (dc d_SR_amnesty 7 rfl) (dc d_SR_amnesty 8 rfl) (dc d_SR_amnesty 9 rfl) (dc d_SR_amnesty 10 rfl) rfl rfl rfl rfl
  · replace h := kOk_n c1 h
    refine k_iload_n G (dc d_SR_amnesty 3 rfl) 1 rfl rfl ?_
    refine k_bipush G (dc d_SR_amnesty 4 rfl) cB_9 ?_
    refine k_icmp_le G (dc d_SR_amnesty 5 rfl) (tgt := 21) rfl (fun c2 => ?_) (fun c2 => ?_)
    · replace h := kOk_p c2 h
      refine k_aload_n G (dc d_SR_amnesty 11 rfl) 0 rfl rfl ?_
      refine k_getR G kc7 (dc d_SR_amnesty 12 rfl) (okL_lt hu (o := 0) 0 rfl) (okL_k hu (o := 0) 0 rfl) 1 (by decide) rfl fl_RX10_19 (u + 3) (okL_r hu (o := 0) (c := 3) 0 rfl 1 rfl) ?_
      obtain ⟨x4, e3, h⟩ := kOk_b h
      refine k_cVI G (dc d_SR_amnesty 13 rfl) kc6 (okL_lt hu (o := 3) 3 rfl) (okL_k hu (o := 3) 3 rfl) mi_Tw_canForgive mv_Tw_canForgive rfl ml_RX10_195 (c_Tw_canForgive (gst G) (okL_sub hu 3 (by decide +kernel)) e3) rfl rfl ⟨rfl, rfl⟩ rfl ⟨rfl, rfl⟩ ⟨rfl, rfl⟩ ?_
      refine k_if_ne G (dc d_SR_amnesty 14 rfl) (tgt := 41) rfl (fun c5 => ?_) (fun c5 => ?_)
      · replace h := kOk_n c5 h
        refine k_aload_n G (dc d_SR_amnesty 20 rfl) 0 rfl rfl ?_
        refine k_getR G kc7 (dc d_SR_amnesty 21 rfl) (okL_lt hu (o := 0) 0 rfl) (okL_k hu (o := 0) 0 rfl) 3 (by decide) rfl fl_RX10_29 (u + 39) (okL_r hu (o := 0) (c := 39) 0 rfl 3 rfl) ?_
        refine k_aload_n G (dc d_SR_amnesty 22 rfl) 0 rfl rfl ?_
        refine k_getR G kc7 (dc d_SR_amnesty 23 rfl) (okL_lt hu (o := 0) 0 rfl) (okL_k hu (o := 0) 0 rfl) 1 (by decide) rfl fl_RX10_19 (u + 3) (okL_r hu (o := 0) (c := 3) 0 rfl 1 rfl) ?_
        refine k_getR G kc6 (dc d_SR_amnesty 24 rfl) (okL_lt hu (o := 3) 3 rfl) (okL_k hu (o := 3) 3 rfl) 0 (by decide) rfl fl_RX10_59 (u + 4) (okL_r hu (o := 3) (c := 4) 3 rfl 0 rfl) ?_
        obtain ⟨M7, e6, h⟩ := kOk_b h
        refine k_cVV G (dc d_SR_amnesty 25 rfl) kc2 (okL_lt hu (o := 39) 39 rfl) (okL_k hu (o := 39) 39 rfl) mi_Me_remember mv_Me_remember rfl ml_RX10_177 (c_Me_remember (gst G) hx (okL_sub hu 39 (by decide +kernel)) (okL_sub hu 4 (by decide +kernel)) e6) rfl rfl ⟨rfl, rfl⟩ rfl ⟨rfl, rfl⟩ ⟨rfl, rfl⟩ ?_
        refine k_aload_n G (dc d_SR_amnesty 26 rfl) 0 rfl rfl ?_
        refine k_getR G kc7 (dc d_SR_amnesty 27 rfl) (okL_lt hu (o := 0) 0 rfl) (okL_k hu (o := 0) 0 rfl) 1 (by decide) rfl fl_RX10_19 (u + 3) (okL_r hu (o := 0) (c := 3) 0 rfl 1 rfl) ?_
        refine k_iload_n G (dc d_SR_amnesty 28 rfl) 1 rfl rfl ?_
        obtain ⟨⟨x9, M10⟩, e8, h⟩ := kOk_b h
        refine k_cVI G (dc d_SR_amnesty 29 rfl) kc6 (okL_lt hu (o := 3) 3 rfl) (okL_k hu (o := 3) 3 rfl) mi_Tw_forgive mv_Tw_forgive rfl ml_RX10_114 (c_Tw_forgive (gst G) (okL_sub hu 3 (by decide +kernel)) e8) rfl rfl ⟨rfl, rfl⟩ rfl ⟨rfl, rfl⟩ ⟨rfl, rfl⟩ ?_
        exact ((kOk_s h).1 _ rfl) _ _ _ _ rfl rfl rfl (dc d_SR_amnesty 30 rfl)
      · replace h := kOk_p c5 h
        exact ((kOk_s h).2 _ rfl).2.1 _ _ _ _ _ 44 198 48 "no amnesty can be given yet" ["java/lang/RuntimeException", "java/lang/Exception"] ts_RX10_44_48 sr_RX10_198 (dc d_SR_amnesty 15 rfl) (dc d_SR_amnesty 16 rfl) (dc d_SR_amnesty 17 rfl) (dc d_SR_amnesty 18 rfl) (dc d_SR_amnesty 19 rfl) rfl rfl rfl rfl
    · replace h := kOk_n c2 h
      exact ((kOk_s h).2 _ rfl).2.1 _ _ _ _ _ 33 193 37 "no such number of months" ["java/lang/RuntimeException", "java/lang/Exception"] ts_RX10_33_37 sr_RX10_193 (dc d_SR_amnesty 6 rfl) (dc d_SR_amnesty 7 rfl) (dc d_SR_amnesty 8 rfl) (dc d_SR_amnesty 9 rfl) (dc d_SR_amnesty 10 rfl) rfl rfl rfl rfl
theorem c_SR_amnesty {l : Launch} {B : KB} {L : KLay} {M : KMem} {u : Nat} {p0 : Int32} (hst : l.stackTraces = false) (hx : B.2.2.2 = false) (hu : okL L u srT) {r : String ⊕ Int32} {M' : KMem} (e : m_SR_amnesty u p0 M = some (r, M')) : CtrX l B yX10_amnesty cX10_amnesty 2 (some .int) rm_SR_amnesty [.ref (B.1 + u), .int p0] L M (rI r) M' :=
  mkXI hx rfl hst rfl (fun X hl G R => b_SR_amnesty G hx hu ⟨_, e, R⟩)
def I_SR_set : List (Nat × Instr × Nat) := [(0, .iload_n 1, 1), (1, .invokestatic 157, 3), (4, .iload_n 2, 1), (5, .ifCond .lt 9, 3), (8, .iload_n 2, 1), (9, .bipush 20, 2), (11, .if_icmp .le 13, 3), (14, .new 33, 3), (17, .dup, 1), (18, .ldc 200, 2), (20, .invokespecial 37, 3), (23, .athrow, 1), (24, .aload_n 0, 1), (25, .getfield 29, 3), (28, .aload_n 0, 1), (29, .getfield 19, 3), (32, .getfield 59, 3), (35, .invokevirtual 177, 3), (38, .aload_n 0, 1), (39, .getfield 19, 3), (42, .getfield 59, 3), (45, .getfield 160, 3), (48, .iload_n 1, 1), (49, .iaload, 1), (50, .istore_n 3, 1), (51, .aload_n 0, 1), (52, .getfield 19, 3), (55, .getfield 59, 3), (58, .getfield 160, 3), (61, .iload_n 1, 1), (62, .iload_n 2, 1), (63, .iastore, 1), (64, .iload_n 3, 1), (65, .ireturn, 1)]
set_option maxRecDepth 100000 in
theorem d_SR_set : decA cX10_set I_SR_set = true := by decide +kernel
abbrev rm_SR_set : Room := ({ frames := 7, cells := 2, slots := 12, locals := 124 } : Room)
def m_SR_set (u : Nat) (p0 : Int32) (p1 : Int32) (M : KMem) : Option ((String ⊕ Int32) × KMem) :=
 Option.bind (m_SR_requireSetting p0) fun r2 => match r2 with
 | some E3 => some (.inl E3, M)
 | none =>
 (if p1 < 0 then
 (some (.inl "java/lang/IllegalArgumentException", M))
 else
 (if p1 ≤ 20 then
 (Option.bind (m_Me_remember (u + 39) (u + 4) M) fun M7 =>
 Option.bind (rdI M7 (u + 15) 2 p0) fun x9 =>
 Option.bind (wrI M7 (u + 15) 2 p0 p1) fun M11 =>
 some (.inr x9, M11))
 else
 (some (.inl "java/lang/IllegalArgumentException", M))))
set_option maxHeartbeats 4000000 in
set_option maxRecDepth 100000 in
theorem b_SR_set {X : KX} {B : KB} {L : KLay} {M : KMem} {u : Nat} {p0 : Int32} {p1 : Int32} (G : Good X B RX10 cX10_set 4 rm_SR_set) (hx : B.2.2.2 = false) (hu : okL L u srT) (h : kOk (m_SR_set u p0 p1 M) (fun r => RXI X B L 4 RX10 cX10_set .int rm_SR_set r.1 r.2)) : KK X B L 4 0 0 M 0 [(0, .ref (B.1 + u)), (1, .int p0), (2, .int p1)] [] := by
  unfold m_SR_set at h
  refine k_iload_n G (dc d_SR_set 0 rfl) 1 rfl rfl ?_
  obtain ⟨r2, e1, h⟩ := kOk_b h
  refine k_callSX G (dc d_SR_set 1 rfl) mi_SR_requireSetting ms_SR_requireSetting ml_RX10_157 (c_SR_requireSetting (gst G) hx  e1) rfl rfl ⟨rfl, rfl⟩ rfl ⟨rfl, rfl⟩ (fun v9 h9 => ?_) (fun E9 h9 => ?_)
  · obtain ⟨rfl, rfl⟩ := rV_inr h9
    show KK X B L 4 1 6 M 4 [(0, .ref (B.1 + u)), (1, .int p0), (2, .int p1)] []
    refine k_iload_n G (dc d_SR_set 2 rfl) 2 rfl rfl ?_
    refine k_if_lt G (dc d_SR_set 3 rfl) (tgt := 14) rfl (fun c4 => ?_) (fun c4 => ?_)
    · replace h := kOk_p c4 h
      exact ((kOk_s h).2 _ rfl).2.1 _ _ _ _ _ 33 200 37 "no value of a setting" ["java/lang/RuntimeException", "java/lang/Exception"] ts_RX10_33_37 sr_RX10_200 (dc d_SR_set 7 rfl) (dc d_SR_set 8 rfl) (dc d_SR_set 9 rfl) (dc d_SR_set 10 rfl) (dc d_SR_set 11 rfl) rfl rfl rfl rfl
    · replace h := kOk_n c4 h
      refine k_iload_n G (dc d_SR_set 4 rfl) 2 rfl rfl ?_
      refine k_bipush G (dc d_SR_set 5 rfl) cB_20 ?_
      refine k_icmp_le G (dc d_SR_set 6 rfl) (tgt := 24) rfl (fun c5 => ?_) (fun c5 => ?_)
      · replace h := kOk_p c5 h
        refine k_aload_n G (dc d_SR_set 12 rfl) 0 rfl rfl ?_
        refine k_getR G kc7 (dc d_SR_set 13 rfl) (okL_lt hu (o := 0) 0 rfl) (okL_k hu (o := 0) 0 rfl) 3 (by decide) rfl fl_RX10_29 (u + 39) (okL_r hu (o := 0) (c := 39) 0 rfl 3 rfl) ?_
        refine k_aload_n G (dc d_SR_set 14 rfl) 0 rfl rfl ?_
        refine k_getR G kc7 (dc d_SR_set 15 rfl) (okL_lt hu (o := 0) 0 rfl) (okL_k hu (o := 0) 0 rfl) 1 (by decide) rfl fl_RX10_19 (u + 3) (okL_r hu (o := 0) (c := 3) 0 rfl 1 rfl) ?_
        refine k_getR G kc6 (dc d_SR_set 16 rfl) (okL_lt hu (o := 3) 3 rfl) (okL_k hu (o := 3) 3 rfl) 0 (by decide) rfl fl_RX10_59 (u + 4) (okL_r hu (o := 3) (c := 4) 3 rfl 0 rfl) ?_
        obtain ⟨M7, e6, h⟩ := kOk_b h
        refine k_cVV G (dc d_SR_set 17 rfl) kc2 (okL_lt hu (o := 39) 39 rfl) (okL_k hu (o := 39) 39 rfl) mi_Me_remember mv_Me_remember rfl ml_RX10_177 (c_Me_remember (gst G) hx (okL_sub hu 39 (by decide +kernel)) (okL_sub hu 4 (by decide +kernel)) e6) rfl rfl ⟨rfl, rfl⟩ rfl ⟨rfl, rfl⟩ ⟨rfl, rfl⟩ ?_
        refine k_aload_n G (dc d_SR_set 18 rfl) 0 rfl rfl ?_
        refine k_getR G kc7 (dc d_SR_set 19 rfl) (okL_lt hu (o := 0) 0 rfl) (okL_k hu (o := 0) 0 rfl) 1 (by decide) rfl fl_RX10_19 (u + 3) (okL_r hu (o := 0) (c := 3) 0 rfl 1 rfl) ?_
        refine k_getR G kc6 (dc d_SR_set 20 rfl) (okL_lt hu (o := 3) 3 rfl) (okL_k hu (o := 3) 3 rfl) 0 (by decide) rfl fl_RX10_59 (u + 4) (okL_r hu (o := 3) (c := 4) 3 rfl 0 rfl) ?_
        refine k_getR G kc5 (dc d_SR_set 21 rfl) (okL_lt hu (o := 4) 4 rfl) (okL_k hu (o := 4) 4 rfl) 10 (by decide) rfl fl_RX10_160 (u + 15) (okL_r hu (o := 4) (c := 15) 4 rfl 9 rfl) ?_
        refine k_iload_n G (dc d_SR_set 22 rfl) 1 rfl rfl ?_
        obtain ⟨x9, e8, h⟩ := kOk_b h
        refine k_ild G (dc d_SR_set 23 rfl) (okL_lt hu (o := 15) 15 rfl) (okL_k hu (o := 15) 15 rfl) (okL_n hu (o := 15) 15 rfl) e8 ?_
        refine k_istore_n G (dc d_SR_set 24 rfl) (ls' := [(3, .int x9), (0, .ref (B.1 + u)), (1, .int p0), (2, .int p1)]) rfl rfl rfl ?_
        refine k_aload_n G (dc d_SR_set 25 rfl) 1 rfl rfl ?_
        refine k_getR G kc7 (dc d_SR_set 26 rfl) (okL_lt hu (o := 0) 0 rfl) (okL_k hu (o := 0) 0 rfl) 1 (by decide) rfl fl_RX10_19 (u + 3) (okL_r hu (o := 0) (c := 3) 0 rfl 1 rfl) ?_
        refine k_getR G kc6 (dc d_SR_set 27 rfl) (okL_lt hu (o := 3) 3 rfl) (okL_k hu (o := 3) 3 rfl) 0 (by decide) rfl fl_RX10_59 (u + 4) (okL_r hu (o := 3) (c := 4) 3 rfl 0 rfl) ?_
        refine k_getR G kc5 (dc d_SR_set 28 rfl) (okL_lt hu (o := 4) 4 rfl) (okL_k hu (o := 4) 4 rfl) 10 (by decide) rfl fl_RX10_160 (u + 15) (okL_r hu (o := 4) (c := 15) 4 rfl 9 rfl) ?_
        refine k_iload_n G (dc d_SR_set 29 rfl) 2 rfl rfl ?_
        refine k_iload_n G (dc d_SR_set 30 rfl) 3 rfl rfl ?_
        obtain ⟨M11, e10, h⟩ := kOk_b h
        refine k_ist G (dc d_SR_set 31 rfl) (okL_lt hu (o := 15) 15 rfl) (okL_k hu (o := 15) 15 rfl) (okL_n hu (o := 15) 15 rfl) e10 ?_
        refine k_iload_n G (dc d_SR_set 32 rfl) 0 rfl rfl ?_
        exact ((kOk_s h).1 _ rfl) _ _ _ _ rfl rfl rfl (dc d_SR_set 33 rfl)
      · replace h := kOk_n c5 h
        exact ((kOk_s h).2 _ rfl).2.1 _ _ _ _ _ 33 200 37 "no value of a setting" ["java/lang/RuntimeException", "java/lang/Exception"] ts_RX10_33_37 sr_RX10_200 (dc d_SR_set 7 rfl) (dc d_SR_set 8 rfl) (dc d_SR_set 9 rfl) (dc d_SR_set 10 rfl) (dc d_SR_set 11 rfl) rfl rfl rfl rfl
  · obtain rfl := rV_inl h9
    exact ((kOk_s h).2 _ rfl).1 _ _ _ _ _ rfl rfl
theorem c_SR_set {l : Launch} {B : KB} {L : KLay} {M : KMem} {u : Nat} {p0 : Int32} {p1 : Int32} (hst : l.stackTraces = false) (hx : B.2.2.2 = false) (hu : okL L u srT) {r : String ⊕ Int32} {M' : KMem} (e : m_SR_set u p0 p1 M = some (r, M')) : CtrX l B yX10_set cX10_set 4 (some .int) rm_SR_set [.ref (B.1 + u), .int p0, .int p1] L M (rI r) M' :=
  mkXI hx rfl hst rfl (fun X hl G R => b_SR_set G hx hu ⟨_, e, R⟩)
def I_SR_undo : List (Nat × Instr × Nat) := [(0, .aload_n 0, 1), (1, .getfield 29, 3), (4, .getfield 202, 3), (7, .ifCond .ne 13, 3), (10, .new 44, 3), (13, .dup, 1), (14, .ldc 205, 2), (16, .invokespecial 48, 3), (19, .athrow, 1), (20, .aload_n 0, 1), (21, .getfield 29, 3), (24, .aload_n 0, 1), (25, .getfield 19, 3), (28, .getfield 59, 3), (31, .invokevirtual 207, 3), (34, .aload_n 0, 1), (35, .getfield 29, 3), (38, .getfield 202, 3), (41, .ireturn, 1)]
set_option maxRecDepth 100000 in
theorem d_SR_undo : decA cX10_undo I_SR_undo = true := by decide +kernel
abbrev rm_SR_undo : Room := ({ frames := 6, cells := 1, slots := 6, locals := 124 } : Room)
def m_SR_undo (u : Nat) (M : KMem) : Option ((String ⊕ Int32) × KMem) :=
 if (M (u + 39) 2) = 0 then
 (some (.inl "java/lang/IllegalStateException", M))
 else
 (Option.bind (m_Me_takeBack (u + 39) (u + 4) M) fun M3 =>
 some (.inr (M3 (u + 39) 2), M3))
set_option maxHeartbeats 4000000 in
set_option maxRecDepth 100000 in
theorem b_SR_undo {X : KX} {B : KB} {L : KLay} {M : KMem} {u : Nat} (G : Good X B RX10 cX10_undo 1 rm_SR_undo) (hx : B.2.2.2 = false) (hu : okL L u srT) (h : kOk (m_SR_undo u M) (fun r => RXI X B L 1 RX10 cX10_undo .int rm_SR_undo r.1 r.2)) : KK X B L 1 0 0 M 0 [(0, .ref (B.1 + u))] [] := by
  unfold m_SR_undo at h
  refine k_aload_n G (dc d_SR_undo 0 rfl) 0 rfl rfl ?_
  refine k_getR G kc7 (dc d_SR_undo 1 rfl) (okL_lt hu (o := 0) 0 rfl) (okL_k hu (o := 0) 0 rfl) 3 (by decide) rfl fl_RX10_29 (u + 39) (okL_r hu (o := 0) (c := 39) 0 rfl 3 rfl) ?_
  refine k_getIN G kc2 (dc d_SR_undo 2 rfl) (okL_lt hu (o := 39) 39 rfl) (okL_k hu (o := 39) 39 rfl) 2 (by decide) rfl fl_RX10_202 ?_
  refine k_if_ne G (dc d_SR_undo 3 rfl) (tgt := 20) rfl (fun c1 => ?_) (fun c1 => ?_)
  · replace h := kOk_n c1 h
    refine k_aload_n G (dc d_SR_undo 9 rfl) 0 rfl rfl ?_
    refine k_getR G kc7 (dc d_SR_undo 10 rfl) (okL_lt hu (o := 0) 0 rfl) (okL_k hu (o := 0) 0 rfl) 3 (by decide) rfl fl_RX10_29 (u + 39) (okL_r hu (o := 0) (c := 39) 0 rfl 3 rfl) ?_
    refine k_aload_n G (dc d_SR_undo 11 rfl) 0 rfl rfl ?_
    refine k_getR G kc7 (dc d_SR_undo 12 rfl) (okL_lt hu (o := 0) 0 rfl) (okL_k hu (o := 0) 0 rfl) 1 (by decide) rfl fl_RX10_19 (u + 3) (okL_r hu (o := 0) (c := 3) 0 rfl 1 rfl) ?_
    refine k_getR G kc6 (dc d_SR_undo 13 rfl) (okL_lt hu (o := 3) 3 rfl) (okL_k hu (o := 3) 3 rfl) 0 (by decide) rfl fl_RX10_59 (u + 4) (okL_r hu (o := 3) (c := 4) 3 rfl 0 rfl) ?_
    obtain ⟨M3, e2, h⟩ := kOk_b h
    refine k_cVV G (dc d_SR_undo 14 rfl) kc2 (okL_lt hu (o := 39) 39 rfl) (okL_k hu (o := 39) 39 rfl) mi_Me_takeBack mv_Me_takeBack rfl ml_RX10_207 (c_Me_takeBack (gst G) hx (okL_sub hu 39 (by decide +kernel)) (okL_sub hu 4 (by decide +kernel)) e2) rfl rfl ⟨rfl, rfl⟩ rfl ⟨rfl, rfl⟩ ⟨rfl, rfl⟩ ?_
    refine k_aload_n G (dc d_SR_undo 15 rfl) 0 rfl rfl ?_
    refine k_getR G kc7 (dc d_SR_undo 16 rfl) (okL_lt hu (o := 0) 0 rfl) (okL_k hu (o := 0) 0 rfl) 3 (by decide) rfl fl_RX10_29 (u + 39) (okL_r hu (o := 0) (c := 39) 0 rfl 3 rfl) ?_
    refine k_getIN G kc2 (dc d_SR_undo 17 rfl) (okL_lt hu (o := 39) 39 rfl) (okL_k hu (o := 39) 39 rfl) 2 (by decide) rfl fl_RX10_202 ?_
    exact ((kOk_s h).1 _ rfl) _ _ _ _ rfl rfl rfl (dc d_SR_undo 18 rfl)
  · replace h := kOk_p c1 h
    exact ((kOk_s h).2 _ rfl).2.1 _ _ _ _ _ 44 205 48 "no state is remembered" ["java/lang/RuntimeException", "java/lang/Exception"] ts_RX10_44_48 sr_RX10_205 (dc d_SR_undo 4 rfl) (dc d_SR_undo 5 rfl) (dc d_SR_undo 6 rfl) (dc d_SR_undo 7 rfl) (dc d_SR_undo 8 rfl) rfl rfl rfl rfl
theorem c_SR_undo {l : Launch} {B : KB} {L : KLay} {M : KMem} {u : Nat} (hst : l.stackTraces = false) (hx : B.2.2.2 = false) (hu : okL L u srT) {r : String ⊕ Int32} {M' : KMem} (e : m_SR_undo u M = some (r, M')) : CtrX l B yX10_undo cX10_undo 1 (some .int) rm_SR_undo [.ref (B.1 + u)] L M (rI r) M' :=
  mkXI hx rfl hst rfl (fun X hl G R => b_SR_undo G hx hu ⟨_, e, R⟩)
def I_SR_why : List (Nat × Instr × Nat) := [(0, .iload_n 1, 1), (1, .iload_n 2, 1), (2, .iload_n 3, 1), (3, .iload 4, 2), (5, .invokestatic 184, 3), (8, .aload_n 0, 1), (9, .getfield 19, 3), (12, .iload_n 1, 1), (13, .iload_n 2, 1), (14, .iload_n 3, 1), (15, .iload 4, 2), (17, .invokevirtual 210, 3), (20, .ireturn, 1)]
set_option maxRecDepth 100000 in
theorem d_SR_why : decA cX10_why I_SR_why = true := by decide +kernel
abbrev rm_SR_why : Room := ({ frames := 7, cells := 1, slots := 6, locals := 115 } : Room)
def m_SR_why (u : Nat) (p0 : Int32) (p1 : Int32) (p2 : Int32) (p3 : Int32) (M : KMem) : Option ((String ⊕ Int32) × KMem) :=
 Option.bind (m_SR_requireDecreeArguments p0 p1 p2 p3) fun r2 => match r2 with
 | some E3 => some (.inl E3, M)
 | none =>
 (Option.bind (m_Tw_reasonAgainstDecree (u + 3) p0 p1 p2 p3 M) fun (x5, M6) =>
 some (.inr x5, M6))
set_option maxHeartbeats 4000000 in
set_option maxRecDepth 100000 in
theorem b_SR_why {X : KX} {B : KB} {L : KLay} {M : KMem} {u : Nat} {p0 : Int32} {p1 : Int32} {p2 : Int32} {p3 : Int32} (G : Good X B RX10 cX10_why 5 rm_SR_why) (hx : B.2.2.2 = false) (hu : okL L u srT) (h : kOk (m_SR_why u p0 p1 p2 p3 M) (fun r => RXI X B L 5 RX10 cX10_why .int rm_SR_why r.1 r.2)) : KK X B L 5 0 0 M 0 [(0, .ref (B.1 + u)), (1, .int p0), (2, .int p1), (3, .int p2), (4, .int p3)] [] := by
  unfold m_SR_why at h
  refine k_iload_n G (dc d_SR_why 0 rfl) 1 rfl rfl ?_
  refine k_iload_n G (dc d_SR_why 1 rfl) 2 rfl rfl ?_
  refine k_iload_n G (dc d_SR_why 2 rfl) 3 rfl rfl ?_
  refine k_iload G (dc d_SR_why 3 rfl) 4 rfl ?_
  obtain ⟨r2, e1, h⟩ := kOk_b h
  refine k_callSX G (dc d_SR_why 4 rfl) mi_SR_requireDecreeArguments ms_SR_requireDecreeArguments ml_RX10_184 (c_SR_requireDecreeArguments (gst G) hx  e1) rfl rfl ⟨rfl, rfl⟩ rfl ⟨rfl, rfl⟩ (fun v9 h9 => ?_) (fun E9 h9 => ?_)
  · obtain ⟨rfl, rfl⟩ := rV_inr h9
    show KK X B L 5 1 6 M 8 [(0, .ref (B.1 + u)), (1, .int p0), (2, .int p1), (3, .int p2), (4, .int p3)] []
    refine k_aload_n G (dc d_SR_why 5 rfl) 0 rfl rfl ?_
    refine k_getR G kc7 (dc d_SR_why 6 rfl) (okL_lt hu (o := 0) 0 rfl) (okL_k hu (o := 0) 0 rfl) 1 (by decide) rfl fl_RX10_19 (u + 3) (okL_r hu (o := 0) (c := 3) 0 rfl 1 rfl) ?_
    refine k_iload_n G (dc d_SR_why 7 rfl) 1 rfl rfl ?_
    refine k_iload_n G (dc d_SR_why 8 rfl) 2 rfl rfl ?_
    refine k_iload_n G (dc d_SR_why 9 rfl) 3 rfl rfl ?_
    refine k_iload G (dc d_SR_why 10 rfl) 4 rfl ?_
    obtain ⟨⟨x5, M6⟩, e4, h⟩ := kOk_b h
    refine k_cVI G (dc d_SR_why 11 rfl) kc6 (okL_lt hu (o := 3) 3 rfl) (okL_k hu (o := 3) 3 rfl) mi_Tw_reasonAgainstDecree mv_Tw_reasonAgainstDecree rfl ml_RX10_210 (c_Tw_reasonAgainstDecree (gst G) (okL_sub hu 3 (by decide +kernel)) e4) rfl rfl ⟨rfl, rfl⟩ rfl ⟨rfl, rfl⟩ ⟨rfl, rfl⟩ ?_
    exact ((kOk_s h).1 _ rfl) _ _ _ _ rfl rfl rfl (dc d_SR_why 12 rfl)
  · obtain rfl := rV_inl h9
    exact ((kOk_s h).2 _ rfl).1 _ _ _ _ _ rfl rfl
theorem c_SR_why {l : Launch} {B : KB} {L : KLay} {M : KMem} {u : Nat} {p0 : Int32} {p1 : Int32} {p2 : Int32} {p3 : Int32} (hst : l.stackTraces = false) (hx : B.2.2.2 = false) (hu : okL L u srT) {r : String ⊕ Int32} {M' : KMem} (e : m_SR_why u p0 p1 p2 p3 M = some (r, M')) : CtrX l B yX10_why cX10_why 5 (some .int) rm_SR_why [.ref (B.1 + u), .int p0, .int p1, .int p2, .int p3] L M (rI r) M' :=
  mkXI hx rfl hst rfl (fun X hl G R => b_SR_why G hx hu ⟨_, e, R⟩)
def I_SR_droppable : List (Nat × Instr × Nat) := [(0, .iconst 0, 1), (1, .istore_n 1, 1), (2, .iconst 1, 1), (3, .istore_n 2, 1), (4, .iload_n 2, 1), (5, .bipush 6, 2), (7, .if_icmp .gt 31, 3), (10, .aload_n 0, 1), (11, .getfield 19, 3), (14, .iconst 0, 1), (15, .iload_n 2, 1), (16, .iconst 0, 1), (17, .iconst 0, 1), (18, .invokevirtual 210, 3), (21, .ifCond .ne 11, 3), (24, .iload_n 1, 1), (25, .iconst 1, 1), (26, .iload_n 2, 1), (27, .iconst 1, 1), (28, .isub, 1), (29, .ishl, 1), (30, .ior, 1), (31, .istore_n 1, 1), (32, .iinc 2 1, 3), (35, .goto (-31), 3), (38, .iload_n 1, 1), (39, .ireturn, 1)]
set_option maxRecDepth 100000 in
theorem d_SR_droppable : decA cX10_droppable I_SR_droppable = true := by decide +kernel
abbrev rm_SR_droppable : Room := ({ frames := 3, cells := 0, slots := 0, locals := 77 } : Room)
def m_SR_droppable_l4 (u : Nat) : (Int32 × Int32 × KMem) → Option ((Int32 × Int32 × KMem) ⊕ (Int32 × KMem)) := fun (v1_1, v2_2, M3) =>
 if 6 < v2_2 then
 (some (.inr (v1_1, M3)))
 else
 (Option.bind (m_Tw_reasonAgainstDecree (u + 3) 0 v2_2 0 0 M3) fun (x6, M7) =>
 Option.bind (α := Int32) (if x6 = 0 then
 (some (v1_1 ||| (jshl 1 (v2_2 - 1))))
 else
 (some v1_1)) fun v1_8 =>
 some (.inl (v1_8, v2_2 + 1, M7)))
def m_SR_droppable (u : Nat) (M : KMem) : Option (Int32 × KMem) :=
 Option.bind (α := Int32 × KMem) (kLp (m_SR_droppable_l4 u) kFU (0, 1, M)) fun (v1_11, M12) =>
 some (v1_11, M12)
set_option maxHeartbeats 4000000 in
set_option maxRecDepth 100000 in
theorem b_SR_droppable {X : KX} {B : KB} {L : KLay} {M : KMem} {u : Nat} (G : Good X B RX10 cX10_droppable 3 rm_SR_droppable) (hu : okL L u srT) (h : kOk (m_SR_droppable u M) (fun r => RI X B L 3 cX10_droppable .int rm_SR_droppable r.1 r.2)) : KK X B L 3 0 0 M 0 [(0, .ref (B.1 + u))] [] := by
  unfold m_SR_droppable at h
  refine k_iconst G (dc d_SR_droppable 0 rfl) cI_0 ?_
  refine k_istore_n G (dc d_SR_droppable 1 rfl) (ls' := [(1, .int 0), (0, .ref (B.1 + u))]) rfl rfl rfl ?_
  refine k_iconst G (dc d_SR_droppable 2 rfl) cI_1 ?_
  refine k_istore_n G (dc d_SR_droppable 3 rfl) (ls' := [(2, .int 1), (1, .int 0), (0, .ref (B.1 + u))]) rfl rfl rfl ?_
  refine kJ h (fun r13 => KK X B L 3 0 0 r13.2 38 [(1, .int r13.1)] []) (fun r13 h => ?_) (fun h => ?_)
  · obtain ⟨v1_11, M12⟩ := r13
    show KK X B L 3 0 0 M12 38 [(1, .int v1_11)] []
    refine k_iload_n G (dc d_SR_droppable 25 rfl) 0 rfl rfl ?_
    exact (kOk_s h) _ _ _ _ rfl rfl rfl (dc d_SR_droppable 26 rfl)
  · refine k_sub [2, 1, 0] rfl ?_
    refine kLp_ok (P := fun s14 => KK X B L 3 0 0 s14.2.2 4 [(0, .ref (B.1 + u)), (1, .int s14.1), (2, .int s14.2.1)] []) (fun s14 h => ?_) kFU _ h
    obtain ⟨v1_1, v2_2, M3⟩ := s14
    unfold m_SR_droppable_l4 at h
    show KK X B L 3 0 0 M3 4 [(0, .ref (B.1 + u)), (1, .int v1_1), (2, .int v2_2)] []
    refine k_iload_n G (dc d_SR_droppable 4 rfl) 2 rfl rfl ?_
    refine k_bipush G (dc d_SR_droppable 5 rfl) cB_6 ?_
    refine k_icmp_gt G (dc d_SR_droppable 6 rfl) (tgt := 38) rfl (fun c4 => ?_) (fun c4 => ?_)
    · replace h := kOk_p c4 h
      refine k_sub [1] rfl ?_
      have h9 := kOk_s h
      exact h9
    · replace h := kOk_n c4 h
      refine k_aload_n G (dc d_SR_droppable 7 rfl) 0 rfl rfl ?_
      refine k_getR G kc7 (dc d_SR_droppable 8 rfl) (okL_lt hu (o := 0) 0 rfl) (okL_k hu (o := 0) 0 rfl) 1 (by decide) rfl fl_RX10_19 (u + 3) (okL_r hu (o := 0) (c := 3) 0 rfl 1 rfl) ?_
      refine k_iconst G (dc d_SR_droppable 9 rfl) cI_0 ?_
      refine k_iload_n G (dc d_SR_droppable 10 rfl) 2 rfl rfl ?_
      refine k_iconst G (dc d_SR_droppable 11 rfl) cI_0 ?_
      refine k_iconst G (dc d_SR_droppable 12 rfl) cI_0 ?_
      obtain ⟨⟨x6, M7⟩, e5, h⟩ := kOk_b h
      refine k_cVI G (dc d_SR_droppable 13 rfl) kc6 (okL_lt hu (o := 3) 3 rfl) (okL_k hu (o := 3) 3 rfl) mi_Tw_reasonAgainstDecree mv_Tw_reasonAgainstDecree rfl ml_RX10_210 (c_Tw_reasonAgainstDecree (gst G) (okL_sub hu 3 (by decide +kernel)) e5) rfl rfl ⟨rfl, rfl⟩ rfl ⟨rfl, rfl⟩ ⟨rfl, rfl⟩ ?_
      refine kJ h (fun r9 => KK X B L 3 0 0 M7 32 [(0, .ref (B.1 + u)), (1, .int r9), (2, .int v2_2)] []) (fun r9 h => ?_) (fun h => ?_)
      · obtain ⟨v1_8, rfl⟩ : ∃ z, z = r9 := ⟨_, rfl⟩
        show KK X B L 3 0 0 M7 32 [(0, .ref (B.1 + u)), (1, .int v1_8), (2, .int v2_2)] []
        refine k_iinc G (dc d_SR_droppable 23 rfl) (ls' := [(2, .int (v2_2 + 1)), (0, .ref (B.1 + u)), (1, .int v1_8)]) 2 rfl cI_1 rfl rfl ?_
        refine k_goto G (dc d_SR_droppable 24 rfl) (tgt := 4) rfl ?_
        refine k_sub [1, 2, 0] rfl ?_
        have h9 := kOk_s h
        exact h9
      · refine k_if_ne G (dc d_SR_droppable 14 rfl) (tgt := 32) rfl (fun c10 => ?_) (fun c10 => ?_)
        · replace h := kOk_n c10 h
          have h9 := kOk_s h
          exact h9
        · replace h := kOk_p c10 h
          refine k_iload_n G (dc d_SR_droppable 15 rfl) 1 rfl rfl ?_
          refine k_iconst G (dc d_SR_droppable 16 rfl) cI_1 ?_
          refine k_iload_n G (dc d_SR_droppable 17 rfl) 2 rfl rfl ?_
          refine k_iconst G (dc d_SR_droppable 18 rfl) cI_1 ?_
          refine k_isub G (dc d_SR_droppable 19 rfl) ?_
          refine k_ishl G (dc d_SR_droppable 20 rfl) ?_
          refine k_ior G (dc d_SR_droppable 21 rfl) ?_
          refine k_istore_n G (dc d_SR_droppable 22 rfl) (ls' := [(1, .int (v1_1 ||| (jshl 1 (v2_2 - 1)))), (0, .ref (B.1 + u)), (2, .int v2_2)]) rfl rfl rfl ?_
          refine k_sub [1, 0, 2] rfl ?_
          have h9 := kOk_s h
          exact h9
theorem c_SR_droppable {l : Launch} {B : KB} {L : KLay} {M : KMem} {u : Nat} (hst : l.stackTraces = false) (hu : okL L u srT) {r : Int32} {M' : KMem} (e : m_SR_droppable u M = some (r, M')) : CtrN l B yX10_droppable cX10_droppable 3 (some .int) rm_SR_droppable [.ref (B.1 + u)] L M (some (.int r)) L M' :=
  mk_I rfl hst rfl (fun X hl G _ R => b_SR_droppable G hu ⟨_, e, R⟩)
def I_SR_apart : List (Nat × Instr × Nat) := [(0, .aload_n 0, 1), (1, .iload_n 1, 1), (2, .invokevirtual 122, 3), (5, .aload_n 0, 1), (6, .iload_n 2, 1), (7, .invokevirtual 122, 3), (10, .aload_n 0, 1), (11, .getfield 19, 3), (14, .iload_n 1, 1), (15, .iload_n 2, 1), (16, .invokevirtual 213, 3), (19, .ireturn, 1)]
set_option maxRecDepth 100000 in
theorem d_SR_apart : decA cX10_apart I_SR_apart = true := by decide +kernel
abbrev rm_SR_apart : Room := ({ frames := 7, cells := 2, slots := 12, locals := 113 } : Room)
def m_SR_apart (u : Nat) (p0 : Int32) (p1 : Int32) (M : KMem) : Option ((String ⊕ Int32) × KMem) :=
 Option.bind (m_SR_requireSign u p0 M) fun r2 => match r2 with
 | some E3 => some (.inl E3, M)
 | none =>
 (Option.bind (m_SR_requireSign u p1 M) fun r5 => match r5 with
 | some E6 => some (.inl E6, M)
 | none =>
 (Option.bind (m_Tw_spellingsApart (u + 3) p0 p1 M) fun (x8, M9) =>
 some (.inr x8, M9)))
set_option maxHeartbeats 4000000 in
set_option maxRecDepth 100000 in
theorem b_SR_apart {X : KX} {B : KB} {L : KLay} {M : KMem} {u : Nat} {p0 : Int32} {p1 : Int32} (G : Good X B RX10 cX10_apart 3 rm_SR_apart) (hx : B.2.2.2 = false) (hu : okL L u srT) (h : kOk (m_SR_apart u p0 p1 M) (fun r => RXI X B L 3 RX10 cX10_apart .int rm_SR_apart r.1 r.2)) : KK X B L 3 0 0 M 0 [(0, .ref (B.1 + u)), (1, .int p0), (2, .int p1)] [] := by
  unfold m_SR_apart at h
  refine k_aload_n G (dc d_SR_apart 0 rfl) 0 rfl rfl ?_
  refine k_iload_n G (dc d_SR_apart 1 rfl) 1 rfl rfl ?_
  obtain ⟨r2, e1, h⟩ := kOk_b h
  refine k_callVX G (dc d_SR_apart 2 rfl) kc7 (okL_lt hu (o := 0) 0 rfl) (okL_k hu (o := 0) 0 rfl) mi_SR_requireSign mv_SR_requireSign rfl ml_RX10_122 (c_SR_requireSign (gst G) hx hu e1) rfl rfl ⟨rfl, rfl⟩ rfl ⟨rfl, rfl⟩ (fun v9 h9 => ?_) (fun E9 h9 => ?_)
  · obtain ⟨rfl, rfl⟩ := rV_inr h9
    show KK X B L 3 1 6 M 5 [(0, .ref (B.1 + u)), (1, .int p0), (2, .int p1)] []
    refine k_aload_n G (dc d_SR_apart 3 rfl) 0 rfl rfl ?_
    refine k_iload_n G (dc d_SR_apart 4 rfl) 2 rfl rfl ?_
    obtain ⟨r5, e4, h⟩ := kOk_b h
    refine k_callVX G (dc d_SR_apart 5 rfl) kc7 (okL_lt hu (o := 0) 0 rfl) (okL_k hu (o := 0) 0 rfl) mi_SR_requireSign mv_SR_requireSign rfl ml_RX10_122 (c_SR_requireSign (gst G) hx hu e4) rfl rfl ⟨rfl, rfl⟩ rfl ⟨rfl, rfl⟩ (fun v9 h9 => ?_) (fun E9 h9 => ?_)
    · obtain ⟨rfl, rfl⟩ := rV_inr h9
      show KK X B L 3 2 12 M 10 [(0, .ref (B.1 + u)), (1, .int p0), (2, .int p1)] []
      refine k_aload_n G (dc d_SR_apart 6 rfl) 0 rfl rfl ?_
      refine k_getR G kc7 (dc d_SR_apart 7 rfl) (okL_lt hu (o := 0) 0 rfl) (okL_k hu (o := 0) 0 rfl) 1 (by decide) rfl fl_RX10_19 (u + 3) (okL_r hu (o := 0) (c := 3) 0 rfl 1 rfl) ?_
      refine k_iload_n G (dc d_SR_apart 8 rfl) 1 rfl rfl ?_
      refine k_iload_n G (dc d_SR_apart 9 rfl) 2 rfl rfl ?_
      obtain ⟨⟨x8, M9⟩, e7, h⟩ := kOk_b h
      refine k_cVI G (dc d_SR_apart 10 rfl) kc6 (okL_lt hu (o := 3) 3 rfl) (okL_k hu (o := 3) 3 rfl) mi_Tw_spellingsApart mv_Tw_spellingsApart rfl ml_RX10_213 (c_Tw_spellingsApart (gst G) (okL_sub hu 3 (by decide +kernel)) e7) rfl rfl ⟨rfl, rfl⟩ rfl ⟨rfl, rfl⟩ ⟨rfl, rfl⟩ ?_
      exact ((kOk_s h).1 _ rfl) _ _ _ _ rfl rfl rfl (dc d_SR_apart 11 rfl)
    · obtain rfl := rV_inl h9
      exact ((kOk_s h).2 _ rfl).1 _ _ _ _ _ rfl rfl
  · obtain rfl := rV_inl h9
    exact ((kOk_s h).2 _ rfl).1 _ _ _ _ _ rfl rfl
theorem c_SR_apart {l : Launch} {B : KB} {L : KLay} {M : KMem} {u : Nat} {p0 : Int32} {p1 : Int32} (hst : l.stackTraces = false) (hx : B.2.2.2 = false) (hu : okL L u srT) {r : String ⊕ Int32} {M' : KMem} (e : m_SR_apart u p0 p1 M = some (r, M')) : CtrX l B yX10_apart cX10_apart 3 (some .int) rm_SR_apart [.ref (B.1 + u), .int p0, .int p1] L M (rI r) M' :=
  mkXI hx rfl hst rfl (fun X hl G R => b_SR_apart G hx hu ⟨_, e, R⟩)
def I_SR_payable : List (Nat × Instr × Nat) := [(0, .iload_n 1, 1), (1, .ifCond .lt 10, 3), (4, .iload_n 1, 1), (5, .sipush 999, 3), (8, .if_icmp .le 13, 3), (11, .new 33, 3), (14, .dup, 1), (15, .ldc 216, 2), (17, .invokespecial 37, 3), (20, .athrow, 1), (21, .aload_n 0, 1), (22, .getfield 19, 3), (25, .iload_n 1, 1), (26, .invokevirtual 218, 3), (29, .ireturn, 1)]
set_option maxRecDepth 100000 in
theorem d_SR_payable : decA cX10_payable I_SR_payable = true := by decide +kernel
abbrev rm_SR_payable : Room := ({ frames := 6, cells := 1, slots := 6, locals := 120 } : Room)
def m_SR_payable (u : Nat) (p0 : Int32) (M : KMem) : Option ((String ⊕ Int32) × KMem) :=
 if p0 < 0 then
 (some (.inl "java/lang/IllegalArgumentException", M))
 else
 (if p0 ≤ 999 then
 (Option.bind (m_Tw_signsPaidBy (u + 3) p0 M) fun (x4, M5) =>
 some (.inr x4, M5))
 else
 (some (.inl "java/lang/IllegalArgumentException", M)))
set_option maxHeartbeats 4000000 in
set_option maxRecDepth 100000 in
theorem b_SR_payable {X : KX} {B : KB} {L : KLay} {M : KMem} {u : Nat} {p0 : Int32} (G : Good X B RX10 cX10_payable 2 rm_SR_payable) (hx : B.2.2.2 = false) (hu : okL L u srT) (h : kOk (m_SR_payable u p0 M) (fun r => RXI X B L 2 RX10 cX10_payable .int rm_SR_payable r.1 r.2)) : KK X B L 2 0 0 M 0 [(0, .ref (B.1 + u)), (1, .int p0)] [] := by
  unfold m_SR_payable at h
  refine k_iload_n G (dc d_SR_payable 0 rfl) 1 rfl rfl ?_
  refine k_if_lt G (dc d_SR_payable 1 rfl) (tgt := 11) rfl (fun c1 => ?_) (fun c1 => ?_)
  · replace h := kOk_p c1 h
    exact ((kOk_s h).2 _ rfl).2.1 _ _ _ _ _ 33 216 37 "no such purse" ["java/lang/RuntimeException", "java/lang/Exception"] ts_RX10_33_37 sr_RX10_216 (dc d_SR_payable 5 rfl) (dc d_SR_payable 6 rfl) (dc d_SR_payable 7 rfl) (dc d_SR_payable 8 rfl) (dc d_SR_payable 9 rfl) rfl rfl rfl rfl
  · replace h := kOk_n c1 h
    refine k_iload_n G (dc d_SR_payable 2 rfl) 1 rfl rfl ?_
    refine k_sipush G (dc d_SR_payable 3 rfl) cS_999 ?_
    refine k_icmp_le G (dc d_SR_payable 4 rfl) (tgt := 21) rfl (fun c2 => ?_) (fun c2 => ?_)
    · replace h := kOk_p c2 h
      refine k_aload_n G (dc d_SR_payable 10 rfl) 0 rfl rfl ?_
      refine k_getR G kc7 (dc d_SR_payable 11 rfl) (okL_lt hu (o := 0) 0 rfl) (okL_k hu (o := 0) 0 rfl) 1 (by decide) rfl fl_RX10_19 (u + 3) (okL_r hu (o := 0) (c := 3) 0 rfl 1 rfl) ?_
      refine k_iload_n G (dc d_SR_payable 12 rfl) 1 rfl rfl ?_
      obtain ⟨⟨x4, M5⟩, e3, h⟩ := kOk_b h
      refine k_cVI G (dc d_SR_payable 13 rfl) kc6 (okL_lt hu (o := 3) 3 rfl) (okL_k hu (o := 3) 3 rfl) mi_Tw_signsPaidBy mv_Tw_signsPaidBy rfl ml_RX10_218 (c_Tw_signsPaidBy (gst G) (okL_sub hu 3 (by decide +kernel)) e3) rfl rfl ⟨rfl, rfl⟩ rfl ⟨rfl, rfl⟩ ⟨rfl, rfl⟩ ?_
      exact ((kOk_s h).1 _ rfl) _ _ _ _ rfl rfl rfl (dc d_SR_payable 14 rfl)
    · replace h := kOk_n c2 h
      exact ((kOk_s h).2 _ rfl).2.1 _ _ _ _ _ 33 216 37 "no such purse" ["java/lang/RuntimeException", "java/lang/Exception"] ts_RX10_33_37 sr_RX10_216 (dc d_SR_payable 5 rfl) (dc d_SR_payable 6 rfl) (dc d_SR_payable 7 rfl) (dc d_SR_payable 8 rfl) (dc d_SR_payable 9 rfl) rfl rfl rfl rfl
theorem c_SR_payable {l : Launch} {B : KB} {L : KLay} {M : KMem} {u : Nat} {p0 : Int32} (hst : l.stackTraces = false) (hx : B.2.2.2 = false) (hu : okL L u srT) {r : String ⊕ Int32} {M' : KMem} (e : m_SR_payable u p0 M = some (r, M')) : CtrX l B yX10_payable cX10_payable 2 (some .int) rm_SR_payable [.ref (B.1 + u), .int p0] L M (rI r) M' :=
  mkXI hx rfl hst rfl (fun X hl G R => b_SR_payable G hx hu ⟨_, e, R⟩)
def I_SR_worthIn : List (Nat × Instr × Nat) := [(0, .aload_n 0, 1), (1, .iload_n 1, 1), (2, .invokevirtual 122, 3), (5, .aload_n 0, 1), (6, .getfield 19, 3), (9, .iload_n 1, 1), (10, .invokevirtual 221, 3), (13, .ireturn, 1)]
set_option maxRecDepth 100000 in
theorem d_SR_worthIn : decA cX10_worthIn I_SR_worthIn = true := by decide +kernel
abbrev rm_SR_worthIn : Room := ({ frames := 7, cells := 1, slots := 6, locals := 139 } : Room)
def m_SR_worthIn (u : Nat) (p0 : Int32) (M : KMem) : Option ((String ⊕ Int32) × KMem) :=
 Option.bind (m_SR_requireSign u p0 M) fun r2 => match r2 with
 | some E3 => some (.inl E3, M)
 | none =>
 (Option.bind (m_Tw_monthsTillFinesAreMore (u + 3) p0 M) fun (x5, M6) =>
 some (.inr x5, M6))
set_option maxHeartbeats 4000000 in
set_option maxRecDepth 100000 in
theorem b_SR_worthIn {X : KX} {B : KB} {L : KLay} {M : KMem} {u : Nat} {p0 : Int32} (G : Good X B RX10 cX10_worthIn 2 rm_SR_worthIn) (hx : B.2.2.2 = false) (hu : okL L u srT) (h : kOk (m_SR_worthIn u p0 M) (fun r => RXI X B L 2 RX10 cX10_worthIn .int rm_SR_worthIn r.1 r.2)) : KK X B L 2 0 0 M 0 [(0, .ref (B.1 + u)), (1, .int p0)] [] := by
  unfold m_SR_worthIn at h
  refine k_aload_n G (dc d_SR_worthIn 0 rfl) 0 rfl rfl ?_
  refine k_iload_n G (dc d_SR_worthIn 1 rfl) 1 rfl rfl ?_
  obtain ⟨r2, e1, h⟩ := kOk_b h
  refine k_callVX G (dc d_SR_worthIn 2 rfl) kc7 (okL_lt hu (o := 0) 0 rfl) (okL_k hu (o := 0) 0 rfl) mi_SR_requireSign mv_SR_requireSign rfl ml_RX10_122 (c_SR_requireSign (gst G) hx hu e1) rfl rfl ⟨rfl, rfl⟩ rfl ⟨rfl, rfl⟩ (fun v9 h9 => ?_) (fun E9 h9 => ?_)
  · obtain ⟨rfl, rfl⟩ := rV_inr h9
    show KK X B L 2 1 6 M 5 [(0, .ref (B.1 + u)), (1, .int p0)] []
    refine k_aload_n G (dc d_SR_worthIn 3 rfl) 0 rfl rfl ?_
    refine k_getR G kc7 (dc d_SR_worthIn 4 rfl) (okL_lt hu (o := 0) 0 rfl) (okL_k hu (o := 0) 0 rfl) 1 (by decide) rfl fl_RX10_19 (u + 3) (okL_r hu (o := 0) (c := 3) 0 rfl 1 rfl) ?_
    refine k_iload_n G (dc d_SR_worthIn 5 rfl) 1 rfl rfl ?_
    obtain ⟨⟨x5, M6⟩, e4, h⟩ := kOk_b h
    refine k_cVI G (dc d_SR_worthIn 6 rfl) kc6 (okL_lt hu (o := 3) 3 rfl) (okL_k hu (o := 3) 3 rfl) mi_Tw_monthsTillFinesAreMore mv_Tw_monthsTillFinesAreMore rfl ml_RX10_221 (c_Tw_monthsTillFinesAreMore (gst G) (okL_sub hu 3 (by decide +kernel)) e4) rfl rfl ⟨rfl, rfl⟩ rfl ⟨rfl, rfl⟩ ⟨rfl, rfl⟩ ?_
    exact ((kOk_s h).1 _ rfl) _ _ _ _ rfl rfl rfl (dc d_SR_worthIn 7 rfl)
  · obtain rfl := rV_inl h9
    exact ((kOk_s h).2 _ rfl).1 _ _ _ _ _ rfl rfl
theorem c_SR_worthIn {l : Launch} {B : KB} {L : KLay} {M : KMem} {u : Nat} {p0 : Int32} (hst : l.stackTraces = false) (hx : B.2.2.2 = false) (hu : okL L u srT) {r : String ⊕ Int32} {M' : KMem} (e : m_SR_worthIn u p0 M = some (r, M')) : CtrX l B yX10_worthIn cX10_worthIn 2 (some .int) rm_SR_worthIn [.ref (B.1 + u), .int p0] L M (rI r) M' :=
  mkXI hx rfl hst rfl (fun X hl G R => b_SR_worthIn G hx hu ⟨_, e, R⟩)
def I_SR_runScript : List (Nat × Instr × Nat) := [(0, .iload_n 1, 1), (1, .iconst 1, 1), (2, .if_icmp .lt 8, 3), (5, .iload_n 1, 1), (6, .iconst 4, 1), (7, .if_icmp .le 13, 3), (10, .new 33, 3), (13, .dup, 1), (14, .ldc 224, 2), (16, .invokespecial 37, 3), (19, .athrow, 1), (20, .lconst 1, 1), (21, .lstore 4, 2), (23, .iconst 0, 1), (24, .istore 6, 2), (26, .iload 6, 2), (28, .iload_n 1, 1), (29, .if_icmp .ge 17, 3), (32, .lload 4, 2), (34, .ldc2_w 226, 3), (37, .lmul, 1), (38, .lstore 4, 2), (40, .iinc 6 1, 3), (43, .goto (-17), 3), (46, .lload_n 2, 1), (47, .lconst 0, 1), (48, .lcmp, 1), (49, .ifCond .lt 10, 3), (52, .lload_n 2, 1), (53, .lload 4, 2), (55, .lcmp, 1), (56, .ifCond .lt 13, 3), (59, .new 33, 3), (62, .dup, 1), (63, .ldc 228, 2), (65, .invokespecial 37, 3), (68, .athrow, 1), (69, .aload_n 0, 1), (70, .getfield 23, 3), (73, .getfield 59, 3), (76, .aload_n 0, 1), (77, .getfield 19, 3), (80, .getfield 59, 3), (83, .invokevirtual 230, 3), (86, .iconst 0, 1), (87, .istore 6, 2), (89, .iload 6, 2), (91, .iload_n 1, 1), (92, .if_icmp .ge 52, 3), (95, .lload 4, 2), (97, .ldc2_w 226, 3), (100, .lcmp, 1), (101, .ifCond .lt 12, 3), (104, .lload 4, 2), (106, .ldc2_w 226, 3), (109, .ldiv, 1), (110, .goto 4, 3), (113, .lconst 1, 1), (114, .lstore 4, 2), (116, .aload_n 0, 1), (117, .getfield 23, 3), (120, .lload_n 2, 1), (121, .lload 4, 2), (123, .ldiv, 1), (124, .ldc2_w 226, 3), (127, .lrem, 1), (128, .l2i, 1), (129, .invokestatic 233, 3), (132, .ifCond .ne 6, 3), (135, .iload 6, 2), (137, .ireturn, 1), (138, .iinc 6 1, 3), (141, .goto (-52), 3), (144, .iconst (-1), 1), (145, .ireturn, 1)]
set_option maxRecDepth 100000 in
theorem d_SR_runScript : decA cX10_runScript I_SR_runScript = true := by decide +kernel
abbrev rm_SR_runScript : Room := ({ frames := 7, cells := 1, slots := 6, locals := 162 } : Room)
def m_SR_runScript_l26 (p0 : Int32) : (Int64 × Int32) → Option ((Int64 × Int32) ⊕ Int64) := fun (v4_3, v6_4) =>
 if p0 ≤ v6_4 then
 (some (.inr v4_3))
 else
 (some (.inl (v4_3 * 10000, v6_4 + 1)))
def m_SR_runScript_l89 (u : Nat) (p0 : Int32) (p1 : Int64) : (Int64 × Int32 × KMem) → Option ((Int64 × Int32 × KMem) ⊕ (((String ⊕ Int32) × KMem) ⊕ KMem)) := fun (v4_11, v6_12, M13) =>
 if p0 ≤ v6_12 then
 (some (.inr (.inr M13)))
 else
 (Option.bind (α := Int64) (if (lg_cmp v4_11 10000) < 0 then
 (some 1)
 else
 (some (v4_11 / 10000))) fun t15 =>
 Option.bind (dvL p1 t15) fun w18 =>
 Option.bind (m_Sc_succeeds (u + 21) ((jremL w18 10000).toInt32) M13) fun (x20, M21) =>
 if x20 = 0 then
 (some (.inr (.inl (.inr v6_12, M21))))
 else
 (some (.inl (t15, v6_12 + 1, M21))))
def m_SR_runScript (u : Nat) (p0 : Int32) (p1 : Int64) (M : KMem) : Option ((String ⊕ Int32) × KMem) :=
 if p0 < 1 then
 (some (.inl "java/lang/IllegalArgumentException", M))
 else
 (if p0 ≤ 4 then
 (Option.bind (α := Int64) (kLp (m_SR_runScript_l26 p0) kFU (1, 0)) fun v4_6 =>
 if (lg_cmp p1 0) < 0 then
 (some (.inl "java/lang/IllegalArgumentException", M))
 else
 (if (lg_cmp p1 v4_6) < 0 then
 (Option.bind (m_St_copyFrom (u + 22) (u + 4) M) fun M10 =>
 Option.bind (α := ((String ⊕ Int32) × KMem) ⊕ KMem) (kLp (m_SR_runScript_l89 u p0 p1) kFU (v4_6, 0, M10)) fun r => match r with
 | .inl q => some q
 | .inr M24 =>
 (some (.inr (-1), M24)))
 else
 (some (.inl "java/lang/IllegalArgumentException", M))))
 else
 (some (.inl "java/lang/IllegalArgumentException", M)))
set_option maxHeartbeats 4000000 in
set_option maxRecDepth 100000 in
theorem b_SR_runScript {X : KX} {B : KB} {L : KLay} {M : KMem} {u : Nat} {p0 : Int32} {p1 : Int64} (G : Good X B RX10 cX10_runScript 7 rm_SR_runScript) (hx : B.2.2.2 = false) (hu : okL L u srT) (h : kOk (m_SR_runScript u p0 p1 M) (fun r => RXI X B L 7 RX10 cX10_runScript .int rm_SR_runScript r.1 r.2)) : KK X B L 7 0 0 M 0 [(0, .ref (B.1 + u)), (1, .int p0), (2, .long p1)] [] := by
  unfold m_SR_runScript at h
  refine k_iload_n G (dc d_SR_runScript 0 rfl) 1 rfl rfl ?_
  refine k_iconst G (dc d_SR_runScript 1 rfl) cI_1 ?_
  refine k_icmp_lt G (dc d_SR_runScript 2 rfl) (tgt := 10) rfl (fun c1 => ?_) (fun c1 => ?_)
  · replace h := kOk_p c1 h
    exact ((kOk_s h).2 _ rfl).2.1 _ _ _ _ _ 33 224 37 "no such number of commands" ["java/lang/RuntimeException", "java/lang/Exception"] ts_RX10_33_37 sr_RX10_224 (dc d_SR_runScript 6 rfl) (dc d_SR_runScript 7 rfl) (dc d_SR_runScript 8 rfl) (dc d_SR_runScript 9 rfl) (dc d_SR_runScript 10 rfl) rfl rfl rfl rfl
  · replace h := kOk_n c1 h
    refine k_iload_n G (dc d_SR_runScript 3 rfl) 1 rfl rfl ?_
    refine k_iconst G (dc d_SR_runScript 4 rfl) cI_4 ?_
    refine k_icmp_le G (dc d_SR_runScript 5 rfl) (tgt := 20) rfl (fun c2 => ?_) (fun c2 => ?_)
    · replace h := kOk_p c2 h
      refine k_lconst G (dc d_SR_runScript 11 rfl) (v := 1) rfl ?_
      refine k_lstore G (dc d_SR_runScript 12 rfl) (ls' := [(4, .long 1), (0, .ref (B.1 + u)), (1, .int p0), (2, .long p1)]) rfl rfl ?_
      refine k_iconst G (dc d_SR_runScript 13 rfl) cI_0 ?_
      refine k_istore G (dc d_SR_runScript 14 rfl) (ls' := [(6, .int 0), (4, .long 1), (0, .ref (B.1 + u)), (1, .int p0), (2, .long p1)]) rfl rfl ?_
      refine kJ h (fun r27 => KK X B L 7 0 0 M 46 [(0, .ref (B.1 + u)), (1, .int p0), (2, .long p1), (4, .long r27)] []) (fun r27 h => ?_) (fun h => ?_)
      · obtain ⟨v4_6, rfl⟩ : ∃ z, z = r27 := ⟨_, rfl⟩
        show KK X B L 7 0 0 M 46 [(0, .ref (B.1 + u)), (1, .int p0), (2, .long p1), (4, .long v4_6)] []
        refine k_lload_n G (dc d_SR_runScript 24 rfl) 2 rfl rfl ?_
        refine k_lconst G (dc d_SR_runScript 25 rfl) (v := 0) rfl ?_
        refine k_lcmp G (dc d_SR_runScript 26 rfl) ?_
        refine k_if_lt G (dc d_SR_runScript 27 rfl) (tgt := 59) rfl (fun c7 => ?_) (fun c7 => ?_)
        · replace h := kOk_p c7 h
          exact ((kOk_s h).2 _ rfl).2.1 _ _ _ _ _ 33 228 37 "no script of so many commands" ["java/lang/RuntimeException", "java/lang/Exception"] ts_RX10_33_37 sr_RX10_228 (dc d_SR_runScript 32 rfl) (dc d_SR_runScript 33 rfl) (dc d_SR_runScript 34 rfl) (dc d_SR_runScript 35 rfl) (dc d_SR_runScript 36 rfl) rfl rfl rfl rfl
        · replace h := kOk_n c7 h
          refine k_lload_n G (dc d_SR_runScript 28 rfl) 2 rfl rfl ?_
          refine k_lload G (dc d_SR_runScript 29 rfl) 3 rfl ?_
          refine k_lcmp G (dc d_SR_runScript 30 rfl) ?_
          refine k_if_lt G (dc d_SR_runScript 31 rfl) (tgt := 69) rfl (fun c8 => ?_) (fun c8 => ?_)
          · replace h := kOk_p c8 h
            refine k_aload_n G (dc d_SR_runScript 37 rfl) 0 rfl rfl ?_
            refine k_getR G kc7 (dc d_SR_runScript 38 rfl) (okL_lt hu (o := 0) 0 rfl) (okL_k hu (o := 0) 0 rfl) 2 (by decide) rfl fl_RX10_23 (u + 21) (okL_r hu (o := 0) (c := 21) 0 rfl 2 rfl) ?_
            refine k_getR G kc6 (dc d_SR_runScript 39 rfl) (okL_lt hu (o := 21) 21 rfl) (okL_k hu (o := 21) 21 rfl) 0 (by decide) rfl fl_RX10_59 (u + 22) (okL_r hu (o := 21) (c := 22) 21 rfl 0 rfl) ?_
            refine k_aload_n G (dc d_SR_runScript 40 rfl) 0 rfl rfl ?_
            refine k_getR G kc7 (dc d_SR_runScript 41 rfl) (okL_lt hu (o := 0) 0 rfl) (okL_k hu (o := 0) 0 rfl) 1 (by decide) rfl fl_RX10_19 (u + 3) (okL_r hu (o := 0) (c := 3) 0 rfl 1 rfl) ?_
            refine k_getR G kc6 (dc d_SR_runScript 42 rfl) (okL_lt hu (o := 3) 3 rfl) (okL_k hu (o := 3) 3 rfl) 0 (by decide) rfl fl_RX10_59 (u + 4) (okL_r hu (o := 3) (c := 4) 3 rfl 0 rfl) ?_
            obtain ⟨M10, e9, h⟩ := kOk_b h
            refine k_cVV G (dc d_SR_runScript 43 rfl) kc5 (okL_lt hu (o := 22) 22 rfl) (okL_k hu (o := 22) 22 rfl) mi_St_copyFrom mv_St_copyFrom rfl ml_RX10_230 (c_St_copyFrom (gst G) hx (okL_sub hu 22 (by decide +kernel)) (okL_sub hu 4 (by decide +kernel)) e9) rfl rfl ⟨rfl, rfl⟩ rfl ⟨rfl, rfl⟩ ⟨rfl, rfl⟩ ?_
            refine k_iconst G (dc d_SR_runScript 44 rfl) cI_0 ?_
            refine k_istore G (dc d_SR_runScript 45 rfl) (ls' := [(6, .int 0), (0, .ref (B.1 + u)), (1, .int p0), (2, .long p1), (4, .long v4_6)]) rfl rfl ?_
            refine kJ h (fun r25 => match r25 with | .inl q => RXI X B L 7 RX10 cX10_runScript .int rm_SR_runScript q.1 q.2 | .inr r25 => KK X B L 7 0 0 r25 144 [] []) (fun r25 h => ?_) (fun h => ?_)
            · rcases r25 with q | r25
              · have h9 := kOk_s h
                exact h9
              · obtain ⟨M24, rfl⟩ : ∃ z, z = r25 := ⟨_, rfl⟩
                show KK X B L 7 0 0 M24 144 [] []
                refine k_iconst G (dc d_SR_runScript 73 rfl) cI_m1 ?_
                exact ((kOk_s h).1 _ rfl) _ _ _ _ rfl rfl rfl (dc d_SR_runScript 74 rfl)
            · refine k_sub [1, 2, 3, 4, 0] rfl ?_
              refine kLp_ok (P := fun s26 => KK X B L 7 0 0 s26.2.2 89 [(0, .ref (B.1 + u)), (1, .int p0), (2, .long p1), (4, .long s26.1), (6, .int s26.2.1)] []) (fun s26 h => ?_) kFU _ h
              obtain ⟨v4_11, v6_12, M13⟩ := s26
              unfold m_SR_runScript_l89 at h
              show KK X B L 7 0 0 M13 89 [(0, .ref (B.1 + u)), (1, .int p0), (2, .long p1), (4, .long v4_11), (6, .int v6_12)] []
              refine k_iload G (dc d_SR_runScript 46 rfl) 4 rfl ?_
              refine k_iload_n G (dc d_SR_runScript 47 rfl) 1 rfl rfl ?_
              refine k_icmp_ge G (dc d_SR_runScript 48 rfl) (tgt := 144) rfl (fun c14 => ?_) (fun c14 => ?_)
              · replace h := kOk_p c14 h
                refine k_sub [] rfl ?_
                have h9 := kOk_s h
                exact h9
              · replace h := kOk_n c14 h
                refine k_lload G (dc d_SR_runScript 49 rfl) 3 rfl ?_
                refine k_ldc2 G (dc d_SR_runScript 50 rfl) ld_RX10_226 ?_
                refine k_lcmp G (dc d_SR_runScript 51 rfl) ?_
                refine kJ h (fun r16 => KK X B L 7 0 0 M13 114 [(0, .ref (B.1 + u)), (1, .int p0), (2, .long p1), (6, .int v6_12)] [.long r16]) (fun r16 h => ?_) (fun h => ?_)
                · obtain ⟨t15, rfl⟩ : ∃ z, z = r16 := ⟨_, rfl⟩
                  show KK X B L 7 0 0 M13 114 [(0, .ref (B.1 + u)), (1, .int p0), (2, .long p1), (6, .int v6_12)] [.long t15]
                  refine k_lstore G (dc d_SR_runScript 58 rfl) (ls' := [(4, .long t15), (0, .ref (B.1 + u)), (1, .int p0), (2, .long p1), (6, .int v6_12)]) rfl rfl ?_
                  refine k_aload_n G (dc d_SR_runScript 59 rfl) 1 rfl rfl ?_
                  refine k_getR G kc7 (dc d_SR_runScript 60 rfl) (okL_lt hu (o := 0) 0 rfl) (okL_k hu (o := 0) 0 rfl) 2 (by decide) rfl fl_RX10_23 (u + 21) (okL_r hu (o := 0) (c := 21) 0 rfl 2 rfl) ?_
                  refine k_lload_n G (dc d_SR_runScript 61 rfl) 3 rfl rfl ?_
                  refine k_lload G (dc d_SR_runScript 62 rfl) 0 rfl ?_
                  obtain ⟨w18, e17, h⟩ := kOk_b h
                  refine k_ldivV G (dc d_SR_runScript 63 rfl) e17 ?_
                  refine k_ldc2 G (dc d_SR_runScript 64 rfl) ld_RX10_226 ?_
                  refine k_lrem G (dc d_SR_runScript 65 rfl) czL_10000 ?_
                  refine k_l2i G (dc d_SR_runScript 66 rfl) ?_
                  obtain ⟨⟨x20, M21⟩, e19, h⟩ := kOk_b h
                  refine k_cSI G (dc d_SR_runScript 67 rfl) mi_Sc_succeeds ms_Sc_succeeds ml_RX10_233 (c_Sc_succeeds (gst G) hx (okL_sub hu 21 (by decide +kernel)) e19) rfl rfl ⟨rfl, rfl⟩ rfl ⟨rfl, rfl⟩ ⟨rfl, rfl⟩ ?_
                  refine k_if_ne G (dc d_SR_runScript 68 rfl) (tgt := 138) rfl (fun c22 => ?_) (fun c22 => ?_)
                  · replace h := kOk_n c22 h
                    refine k_iinc G (dc d_SR_runScript 71 rfl) (ls' := [(6, .int (v6_12 + 1)), (4, .long t15), (0, .ref (B.1 + u)), (1, .int p0), (2, .long p1)]) 4 rfl cI_1 rfl rfl ?_
                    refine k_goto G (dc d_SR_runScript 72 rfl) (tgt := 89) rfl ?_
                    refine k_sub [2, 3, 4, 1, 0] rfl ?_
                    have h9 := kOk_s h
                    exact h9
                  · replace h := kOk_p c22 h
                    refine k_iload G (dc d_SR_runScript 69 rfl) 4 rfl ?_
                    exact ((kOk_s h).1 _ rfl) _ _ _ _ rfl rfl rfl (dc d_SR_runScript 70 rfl)
                · refine k_if_lt G (dc d_SR_runScript 52 rfl) (tgt := 113) rfl (fun c23 => ?_) (fun c23 => ?_)
                  · replace h := kOk_p c23 h
                    refine k_lconst G (dc d_SR_runScript 57 rfl) (v := 1) rfl ?_
                    refine k_sub [0, 1, 2, 4] rfl ?_
                    have h9 := kOk_s h
                    exact h9
                  · replace h := kOk_n c23 h
                    refine k_lload G (dc d_SR_runScript 53 rfl) 3 rfl ?_
                    refine k_ldc2 G (dc d_SR_runScript 54 rfl) ld_RX10_226 ?_
                    refine k_ldiv G (dc d_SR_runScript 55 rfl) czL_10000 ?_
                    refine k_goto G (dc d_SR_runScript 56 rfl) (tgt := 114) rfl ?_
                    refine k_sub [0, 1, 2, 4] rfl ?_
                    have h9 := kOk_s h
                    exact h9
          · replace h := kOk_n c8 h
            exact ((kOk_s h).2 _ rfl).2.1 _ _ _ _ _ 33 228 37 "no script of so many commands" ["java/lang/RuntimeException", "java/lang/Exception"] ts_RX10_33_37 sr_RX10_228 (dc d_SR_runScript 32 rfl) (dc d_SR_runScript 33 rfl) (dc d_SR_runScript 34 rfl) (dc d_SR_runScript 35 rfl) (dc d_SR_runScript 36 rfl) rfl rfl rfl rfl
      · refine k_sub [2, 3, 4, 1, 0] rfl ?_
        refine kLp_ok (P := fun s28 => KK X B L 7 0 0 M 26 [(0, .ref (B.1 + u)), (1, .int p0), (2, .long p1), (4, .long s28.1), (6, .int s28.2)] []) (fun s28 h => ?_) kFU _ h
        obtain ⟨v4_3, v6_4⟩ := s28
        unfold m_SR_runScript_l26 at h
        show KK X B L 7 0 0 M 26 [(0, .ref (B.1 + u)), (1, .int p0), (2, .long p1), (4, .long v4_3), (6, .int v6_4)] []
        refine k_iload G (dc d_SR_runScript 15 rfl) 4 rfl ?_
        refine k_iload_n G (dc d_SR_runScript 16 rfl) 1 rfl rfl ?_
        refine k_icmp_ge G (dc d_SR_runScript 17 rfl) (tgt := 46) rfl (fun c5 => ?_) (fun c5 => ?_)
        · replace h := kOk_p c5 h
          refine k_sub [0, 1, 2, 3] rfl ?_
          have h9 := kOk_s h
          exact h9
        · replace h := kOk_n c5 h
          refine k_lload G (dc d_SR_runScript 18 rfl) 3 rfl ?_
          refine k_ldc2 G (dc d_SR_runScript 19 rfl) ld_RX10_226 ?_
          refine k_lmul G (dc d_SR_runScript 20 rfl) ?_
          refine k_lstore G (dc d_SR_runScript 21 rfl) (ls' := [(4, .long (v4_3 * 10000)), (0, .ref (B.1 + u)), (1, .int p0), (2, .long p1), (6, .int v6_4)]) rfl rfl ?_
          refine k_iinc G (dc d_SR_runScript 22 rfl) (ls' := [(6, .int (v6_4 + 1)), (4, .long (v4_3 * 10000)), (0, .ref (B.1 + u)), (1, .int p0), (2, .long p1)]) 4 rfl cI_1 rfl rfl ?_
          refine k_goto G (dc d_SR_runScript 23 rfl) (tgt := 26) rfl ?_
          refine k_sub [2, 3, 4, 1, 0] rfl ?_
          have h9 := kOk_s h
          exact h9
    · replace h := kOk_n c2 h
      exact ((kOk_s h).2 _ rfl).2.1 _ _ _ _ _ 33 224 37 "no such number of commands" ["java/lang/RuntimeException", "java/lang/Exception"] ts_RX10_33_37 sr_RX10_224 (dc d_SR_runScript 6 rfl) (dc d_SR_runScript 7 rfl) (dc d_SR_runScript 8 rfl) (dc d_SR_runScript 9 rfl) (dc d_SR_runScript 10 rfl) rfl rfl rfl rfl
theorem c_SR_runScript {l : Launch} {B : KB} {L : KLay} {M : KMem} {u : Nat} {p0 : Int32} {p1 : Int64} (hst : l.stackTraces = false) (hx : B.2.2.2 = false) (hu : okL L u srT) {r : String ⊕ Int32} {M' : KMem} (e : m_SR_runScript u p0 p1 M = some (r, M')) : CtrX l B yX10_runScript cX10_runScript 7 (some .int) rm_SR_runScript [.ref (B.1 + u), .int p0, .long p1] L M (rI r) M' :=
  mkXI hx rfl hst rfl (fun X hl G R => b_SR_runScript G hx hu ⟨_, e, R⟩)
