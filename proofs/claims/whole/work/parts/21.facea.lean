/-! laid by wip/whole/lay.py: SR_append, SR_clearText, SR_errorPosition, SR_doneInTown, SR_load, SR_about, SR_requireSign, SR_signOf, SR_requireDecree, SR_decreeOf, SR_requireGuild, SR_guildOf, SR_right, SR_requireSetting, SR_setting -/
def I_SR_append : List (Nat × Instr × Nat) := [(0, .iload_n 1, 1), (1, .ifCond .lt 10, 3), (4, .iload_n 1, 1), (5, .sipush 255, 3), (8, .if_icmp .le 13, 3), (11, .new 33, 3), (14, .dup, 1), (15, .ldc 35, 2), (17, .invokespecial 37, 3), (20, .athrow, 1), (21, .aload_n 0, 1), (22, .getfield 10, 3), (25, .getfield 40, 3), (28, .bipush 120, 2), (30, .if_icmp .lt 13, 3), (33, .new 44, 3), (36, .dup, 1), (37, .ldc 46, 2), (39, .invokespecial 48, 3), (42, .athrow, 1), (43, .aload_n 0, 1), (44, .getfield 10, 3), (47, .iload_n 1, 1), (48, .invokevirtual 49, 3), (51, .aload_n 0, 1), (52, .getfield 10, 3), (55, .getfield 40, 3), (58, .ireturn, 1)]
set_option maxRecDepth 100000 in
theorem d_SR_append : decA cX10_append I_SR_append = true := by decide +kernel
abbrev rm_SR_append : Room := ({ frames := 6, cells := 1, slots := 6, locals := 92 } : Room)
def m_SR_append (u : Nat) (p0 : Int32) (M : KMem) : Option ((String ⊕ Int32) × KMem) :=
 if p0 < 0 then
 (some (.inl "java/lang/IllegalArgumentException", M))
 else
 (if p0 ≤ 255 then
 (if (M (u + 1) 1) < 120 then
 (Option.bind (m_Tx_put (u + 1) p0 M) fun M5 =>
 some (.inr (M5 (u + 1) 1), M5))
 else
 (some (.inl "java/lang/IllegalStateException", M)))
 else
 (some (.inl "java/lang/IllegalArgumentException", M)))
set_option maxHeartbeats 4000000 in
set_option maxRecDepth 100000 in
theorem b_SR_append {X : KX} {B : KB} {L : KLay} {M : KMem} {u : Nat} {p0 : Int32} (G : Good X B RX10 cX10_append 2 rm_SR_append) (hx : B.2.2.2 = false) (hu : okL L u srT) (h : kOk (m_SR_append u p0 M) (fun r => RXI X B L 2 RX10 cX10_append .int rm_SR_append r.1 r.2)) : KK X B L 2 0 0 M 0 [(0, .ref (B.1 + u)), (1, .int p0)] [] := by
  unfold m_SR_append at h
  refine k_iload_n G (dc d_SR_append 0 rfl) 1 rfl rfl ?_
  refine k_if_lt G (dc d_SR_append 1 rfl) (tgt := 11) rfl (fun c1 => ?_) (fun c1 => ?_)
  · replace h := kOk_p c1 h
    exact ((kOk_s h).2 _ rfl).2.1 _ _ _ _ _ 33 35 37 "no character code" ["java/lang/RuntimeException", "java/lang/Exception"] ts_RX10_33_37 sr_RX10_35 (dc d_SR_append 5 rfl) (dc d_SR_append 6 rfl) (dc d_SR_append 7 rfl) (dc d_SR_append 8 rfl) (dc d_SR_append 9 rfl) rfl rfl rfl rfl
  · replace h := kOk_n c1 h
    refine k_iload_n G (dc d_SR_append 2 rfl) 1 rfl rfl ?_
    refine k_sipush G (dc d_SR_append 3 rfl) cS_255 ?_
    refine k_icmp_le G (dc d_SR_append 4 rfl) (tgt := 21) rfl (fun c2 => ?_) (fun c2 => ?_)
    · replace h := kOk_p c2 h
      refine k_aload_n G (dc d_SR_append 10 rfl) 0 rfl rfl ?_
      refine k_getR G kc7 (dc d_SR_append 11 rfl) (okL_lt hu (o := 0) 0 rfl) (okL_k hu (o := 0) 0 rfl) 0 (by decide) rfl fl_RX10_10 (u + 1) (okL_r hu (o := 0) (c := 1) 0 rfl 0 rfl) ?_
      refine k_getIN G kc3 (dc d_SR_append 12 rfl) (okL_lt hu (o := 1) 1 rfl) (okL_k hu (o := 1) 1 rfl) 1 (by decide) rfl fl_RX10_40 ?_
      refine k_bipush G (dc d_SR_append 13 rfl) cB_120 ?_
      refine k_icmp_lt G (dc d_SR_append 14 rfl) (tgt := 43) rfl (fun c3 => ?_) (fun c3 => ?_)
      · replace h := kOk_p c3 h
        refine k_aload_n G (dc d_SR_append 20 rfl) 0 rfl rfl ?_
        refine k_getR G kc7 (dc d_SR_append 21 rfl) (okL_lt hu (o := 0) 0 rfl) (okL_k hu (o := 0) 0 rfl) 0 (by decide) rfl fl_RX10_10 (u + 1) (okL_r hu (o := 0) (c := 1) 0 rfl 0 rfl) ?_
        refine k_iload_n G (dc d_SR_append 22 rfl) 1 rfl rfl ?_
        obtain ⟨M5, e4, h⟩ := kOk_b h
        refine k_cVV G (dc d_SR_append 23 rfl) kc3 (okL_lt hu (o := 1) 1 rfl) (okL_k hu (o := 1) 1 rfl) mi_Tx_put mv_Tx_put rfl ml_RX10_49 (c_Tx_put (gst G) (okL_sub hu 1 (by decide +kernel)) e4) rfl rfl ⟨rfl, rfl⟩ rfl ⟨rfl, rfl⟩ ⟨rfl, rfl⟩ ?_
        refine k_aload_n G (dc d_SR_append 24 rfl) 0 rfl rfl ?_
        refine k_getR G kc7 (dc d_SR_append 25 rfl) (okL_lt hu (o := 0) 0 rfl) (okL_k hu (o := 0) 0 rfl) 0 (by decide) rfl fl_RX10_10 (u + 1) (okL_r hu (o := 0) (c := 1) 0 rfl 0 rfl) ?_
        refine k_getIN G kc3 (dc d_SR_append 26 rfl) (okL_lt hu (o := 1) 1 rfl) (okL_k hu (o := 1) 1 rfl) 1 (by decide) rfl fl_RX10_40 ?_
        exact ((kOk_s h).1 _ rfl) _ _ _ _ rfl rfl rfl (dc d_SR_append 27 rfl)
      · replace h := kOk_n c3 h
        exact ((kOk_s h).2 _ rfl).2.1 _ _ _ _ _ 44 46 48 "the text is full" ["java/lang/RuntimeException", "java/lang/Exception"] ts_RX10_44_48 sr_RX10_46 (dc d_SR_append 15 rfl) (dc d_SR_append 16 rfl) (dc d_SR_append 17 rfl) (dc d_SR_append 18 rfl) (dc d_SR_append 19 rfl) rfl rfl rfl rfl
    · replace h := kOk_n c2 h
      exact ((kOk_s h).2 _ rfl).2.1 _ _ _ _ _ 33 35 37 "no character code" ["java/lang/RuntimeException", "java/lang/Exception"] ts_RX10_33_37 sr_RX10_35 (dc d_SR_append 5 rfl) (dc d_SR_append 6 rfl) (dc d_SR_append 7 rfl) (dc d_SR_append 8 rfl) (dc d_SR_append 9 rfl) rfl rfl rfl rfl
theorem c_SR_append {l : Launch} {B : KB} {L : KLay} {M : KMem} {u : Nat} {p0 : Int32} (hst : l.stackTraces = false) (hx : B.2.2.2 = false) (hu : okL L u srT) {r : String ⊕ Int32} {M' : KMem} (e : m_SR_append u p0 M = some (r, M')) : CtrX l B yX10_append cX10_append 2 (some .int) rm_SR_append [.ref (B.1 + u), .int p0] L M (rI r) M' :=
  mkXI hx rfl hst rfl (fun X hl G R => b_SR_append G hx hu ⟨_, e, R⟩)
def I_SR_clearText : List (Nat × Instr × Nat) := [(0, .aload_n 0, 1), (1, .getfield 10, 3), (4, .getfield 40, 3), (7, .istore_n 1, 1), (8, .aload_n 0, 1), (9, .getfield 10, 3), (12, .iconst 0, 1), (13, .putfield 40, 3), (16, .iload_n 1, 1), (17, .ireturn, 1)]
set_option maxRecDepth 100000 in
theorem d_SR_clearText : decA cX10_clearText I_SR_clearText = true := by decide +kernel
abbrev rm_SR_clearText : Room := ({ frames := 0, cells := 0, slots := 0, locals := 0 } : Room)
def m_SR_clearText (u : Nat) (M : KMem) : Option (Int32 × KMem) :=
 Option.bind (some (kup M (u + 1) 1 0)) fun M2 =>
 some (M (u + 1) 1, M2)
set_option maxHeartbeats 4000000 in
set_option maxRecDepth 100000 in
theorem b_SR_clearText {X : KX} {B : KB} {L : KLay} {M : KMem} {u : Nat} (G : Good X B RX10 cX10_clearText 2 rm_SR_clearText) (hu : okL L u srT) (h : kOk (m_SR_clearText u M) (fun r => RI X B L 2 cX10_clearText .int rm_SR_clearText r.1 r.2)) : KK X B L 2 0 0 M 0 [(0, .ref (B.1 + u))] [] := by
  unfold m_SR_clearText at h
  refine k_aload_n G (dc d_SR_clearText 0 rfl) 0 rfl rfl ?_
  refine k_getR G kc7 (dc d_SR_clearText 1 rfl) (okL_lt hu (o := 0) 0 rfl) (okL_k hu (o := 0) 0 rfl) 0 (by decide) rfl fl_RX10_10 (u + 1) (okL_r hu (o := 0) (c := 1) 0 rfl 0 rfl) ?_
  refine k_getIN G kc3 (dc d_SR_clearText 2 rfl) (okL_lt hu (o := 1) 1 rfl) (okL_k hu (o := 1) 1 rfl) 1 (by decide) rfl fl_RX10_40 ?_
  refine k_istore_n G (dc d_SR_clearText 3 rfl) (ls' := [(1, .int (M (u + 1) 1)), (0, .ref (B.1 + u))]) rfl rfl rfl ?_
  refine k_aload_n G (dc d_SR_clearText 4 rfl) 1 rfl rfl ?_
  refine k_getR G kc7 (dc d_SR_clearText 5 rfl) (okL_lt hu (o := 0) 0 rfl) (okL_k hu (o := 0) 0 rfl) 0 (by decide) rfl fl_RX10_10 (u + 1) (okL_r hu (o := 0) (c := 1) 0 rfl 0 rfl) ?_
  refine k_iconst G (dc d_SR_clearText 6 rfl) cI_0 ?_
  obtain ⟨M2, e1, h⟩ := kOk_b h
  refine k_putIN G kc3 (dc d_SR_clearText 7 rfl) (okL_lt hu (o := 1) 1 rfl) (okL_k hu (o := 1) 1 rfl) 1 (by decide) rfl rfl fl_RX10_40 rfl rfl e1 ?_
  refine k_iload_n G (dc d_SR_clearText 8 rfl) 0 rfl rfl ?_
  exact (kOk_s h) _ _ _ _ rfl rfl rfl (dc d_SR_clearText 9 rfl)
theorem c_SR_clearText {l : Launch} {B : KB} {L : KLay} {M : KMem} {u : Nat} (hst : l.stackTraces = false) (hu : okL L u srT) {r : Int32} {M' : KMem} (e : m_SR_clearText u M = some (r, M')) : CtrN l B yX10_clearText cX10_clearText 2 (some .int) rm_SR_clearText [.ref (B.1 + u)] L M (some (.int r)) L M' :=
  mk_I rfl hst rfl (fun X hl G _ R => b_SR_clearText G hu ⟨_, e, R⟩)
def I_SR_errorPosition : List (Nat × Instr × Nat) := [(0, .aload_n 0, 1), (1, .getfield 10, 3), (4, .invokevirtual 53, 3), (7, .ireturn, 1)]
set_option maxRecDepth 100000 in
theorem d_SR_errorPosition : decA cX10_errorPosition I_SR_errorPosition = true := by decide +kernel
abbrev rm_SR_errorPosition : Room := ({ frames := 6, cells := 0, slots := 0, locals := 132 } : Room)
def m_SR_errorPosition (u : Nat) (M : KMem) : Option (Int32 × KMem) :=
 Option.bind (m_Tx_firstError (u + 1) M) fun (x2, M3) =>
 some (x2, M3)
set_option maxHeartbeats 4000000 in
set_option maxRecDepth 100000 in
theorem b_SR_errorPosition {X : KX} {B : KB} {L : KLay} {M : KMem} {u : Nat} (G : Good X B RX10 cX10_errorPosition 1 rm_SR_errorPosition) (hu : okL L u srT) (h : kOk (m_SR_errorPosition u M) (fun r => RI X B L 1 cX10_errorPosition .int rm_SR_errorPosition r.1 r.2)) : KK X B L 1 0 0 M 0 [(0, .ref (B.1 + u))] [] := by
  unfold m_SR_errorPosition at h
  refine k_aload_n G (dc d_SR_errorPosition 0 rfl) 0 rfl rfl ?_
  refine k_getR G kc7 (dc d_SR_errorPosition 1 rfl) (okL_lt hu (o := 0) 0 rfl) (okL_k hu (o := 0) 0 rfl) 0 (by decide) rfl fl_RX10_10 (u + 1) (okL_r hu (o := 0) (c := 1) 0 rfl 0 rfl) ?_
  obtain ⟨⟨x2, M3⟩, e1, h⟩ := kOk_b h
  refine k_cVI G (dc d_SR_errorPosition 2 rfl) kc3 (okL_lt hu (o := 1) 1 rfl) (okL_k hu (o := 1) 1 rfl) mi_Tx_firstError mv_Tx_firstError rfl ml_RX10_53 (c_Tx_firstError (gst G) (okL_sub hu 1 (by decide +kernel)) e1) rfl rfl ⟨rfl, rfl⟩ rfl ⟨rfl, rfl⟩ ⟨rfl, rfl⟩ ?_
  exact (kOk_s h) _ _ _ _ rfl rfl rfl (dc d_SR_errorPosition 3 rfl)
theorem c_SR_errorPosition {l : Launch} {B : KB} {L : KLay} {M : KMem} {u : Nat} (hst : l.stackTraces = false) (hu : okL L u srT) {r : Int32} {M' : KMem} (e : m_SR_errorPosition u M = some (r, M')) : CtrN l B yX10_errorPosition cX10_errorPosition 1 (some .int) rm_SR_errorPosition [.ref (B.1 + u)] L M (some (.int r)) L M' :=
  mk_I rfl hst rfl (fun X hl G _ R => b_SR_errorPosition G hu ⟨_, e, R⟩)
def I_SR_doneInTown : List (Nat × Instr × Nat) := [(0, .aload_n 0, 1), (1, .getfield 10, 3), (4, .getfield 87, 3), (7, .istore_n 1, 1), (8, .aload_n 0, 1), (9, .getfield 10, 3), (12, .getfield 90, 3), (15, .tableswitch 261 100 121 #[125, 261, 261, 261, 261, 261, 145, 261, 261, 232, 261, 177, 214, 261, 197, 101, 261, 261, 261, 261, 261, 243], 101), (116, .aload_n 0, 1), (117, .getfield 19, 3), (120, .aload_n 0, 1), (121, .getfield 10, 3), (124, .getfield 93, 3), (127, .iload_n 1, 1), (128, .invokevirtual 96, 3), (131, .ifCond .ne 7, 3), (134, .iconst 1, 1), (135, .goto 4, 3), (138, .iconst 0, 1), (139, .ireturn, 1), (140, .aload_n 0, 1), (141, .getfield 19, 3), (144, .iconst 0, 1), (145, .iload_n 1, 1), (146, .iconst 0, 1), (147, .iconst 0, 1), (148, .invokevirtual 100, 3), (151, .ifCond .ne 7, 3), (154, .iconst 1, 1), (155, .goto 4, 3), (158, .iconst 0, 1), (159, .ireturn, 1), (160, .aload_n 0, 1), (161, .getfield 19, 3), (164, .iconst 1, 1), (165, .iload_n 1, 1), (166, .bipush 100, 2), (168, .idiv, 1), (169, .iload_n 1, 1), (170, .bipush 10, 2), (172, .idiv, 1), (173, .bipush 10, 2), (175, .irem, 1), (176, .iload_n 1, 1), (177, .bipush 10, 2), (179, .irem, 1), (180, .invokevirtual 100, 3), (183, .ifCond .ne 7, 3), (186, .iconst 1, 1), (187, .goto 4, 3), (190, .iconst 0, 1), (191, .ireturn, 1), (192, .aload_n 0, 1), (193, .getfield 19, 3), (196, .iconst 2, 1), (197, .iload_n 1, 1), (198, .iconst 0, 1), (199, .iconst 0, 1), (200, .invokevirtual 100, 3), (203, .ifCond .ne 7, 3), (206, .iconst 1, 1), (207, .goto 4, 3), (210, .iconst 0, 1), (211, .ireturn, 1), (212, .aload_n 0, 1), (213, .getfield 19, 3), (216, .iload_n 1, 1), (217, .invokevirtual 104, 3), (220, .ifCond .ne 7, 3), (223, .iconst 1, 1), (224, .goto 4, 3), (227, .iconst 0, 1), (228, .ireturn, 1), (229, .aload_n 0, 1), (230, .getfield 19, 3), (233, .iload_n 1, 1), (234, .invokevirtual 108, 3), (237, .iconst (-1), 1), (238, .if_icmp .eq 7, 3), (241, .iconst 1, 1), (242, .goto 4, 3), (245, .iconst 0, 1), (246, .ireturn, 1), (247, .aload_n 0, 1), (248, .getfield 19, 3), (251, .iload_n 1, 1), (252, .invokevirtual 111, 3), (255, .pop, 1), (256, .iconst 1, 1), (257, .ireturn, 1), (258, .aload_n 0, 1), (259, .getfield 19, 3), (262, .iload_n 1, 1), (263, .invokevirtual 114, 3), (266, .iconst (-1), 1), (267, .if_icmp .eq 7, 3), (270, .iconst 1, 1), (271, .goto 4, 3), (274, .iconst 0, 1), (275, .ireturn, 1), (276, .iconst 0, 1), (277, .ireturn, 1)]
set_option maxRecDepth 100000 in
theorem d_SR_doneInTown : decA cX10_doneInTown I_SR_doneInTown = true := by decide +kernel
abbrev rm_SR_doneInTown : Room := ({ frames := 6, cells := 0, slots := 0, locals := 137 } : Room)
def m_SR_doneInTown (u : Nat) (M : KMem) : Option (Int32 × KMem) :=
 if (M (u + 1) 3) = 100 then
 (Option.bind (m_Tw_giveDecree (u + 3) 0 (M (u + 1) 5) 0 0 M) fun (x10, M11) =>
 Option.bind (α := Int32) (if x10 = 0 then
 (some 1)
 else
 (some 0)) fun t12 =>
 Option.bind (kz t12) fun z14 =>
 some (z14, M11))
 else
 (if (M (u + 1) 3) = 106 then
 (Option.bind (m_Tw_giveDecree (u + 3) 1 ((M (u + 1) 5) / 100) (jrem ((M (u + 1) 5) / 10) 10) (jrem (M (u + 1) 5) 10) M) fun (x19, M20) =>
 Option.bind (α := Int32) (if x19 = 0 then
 (some 1)
 else
 (some 0)) fun t21 =>
 Option.bind (kz t21) fun z23 =>
 some (z23, M20))
 else
 (if (M (u + 1) 3) = 109 then
 (Option.bind (m_Tw_passMonths (u + 3) (M (u + 1) 5) M) fun (x28, M29) =>
 Option.bind (kz 1) fun z30 =>
 some (z30, M29))
 else
 (if (M (u + 1) 3) = 111 then
 (Option.bind (m_Tw_giveDecree (u + 3) 2 (M (u + 1) 5) 0 0 M) fun (x34, M35) =>
 Option.bind (α := Int32) (if x34 = 0 then
 (some 1)
 else
 (some 0)) fun t36 =>
 Option.bind (kz t36) fun z38 =>
 some (z38, M35))
 else
 (if (M (u + 1) 3) = 112 then
 (Option.bind (m_Tw_repaint (u + 3) (M (u + 1) 5) M) fun (x43, M44) =>
 Option.bind (α := Int32) (if x43 = (-1) then
 (some 0)
 else
 (some 1)) fun t45 =>
 Option.bind (kz t45) fun z47 =>
 some (z47, M44))
 else
 (if (M (u + 1) 3) = 114 then
 (Option.bind (m_Tw_takeDecree (u + 3) (M (u + 1) 5) M) fun (x52, M53) =>
 Option.bind (α := Int32) (if x52 = 0 then
 (some 1)
 else
 (some 0)) fun t54 =>
 Option.bind (kz t54) fun z56 =>
 some (z56, M53))
 else
 (if (M (u + 1) 3) = 115 then
 (Option.bind (m_Tw_bringSign (u + 3) (M (u + 1) 4) (M (u + 1) 5) M) fun (x61, M62) =>
 Option.bind (α := Int32) (if x61 = 0 then
 (some 1)
 else
 (some 0)) fun t63 =>
 Option.bind (kz t63) fun z65 =>
 some (z65, M62))
 else
 (if (M (u + 1) 3) = 121 then
 (Option.bind (m_Tw_forgive (u + 3) (M (u + 1) 5) M) fun (x70, M71) =>
 Option.bind (α := Int32) (if x70 = (-1) then
 (some 0)
 else
 (some 1)) fun t72 =>
 Option.bind (kz t72) fun z74 =>
 some (z74, M71))
 else
 (Option.bind (kz 0) fun z78 =>
 some (z78, M)))))))))
set_option maxHeartbeats 4000000 in
set_option maxRecDepth 100000 in
theorem b_SR_doneInTown {X : KX} {B : KB} {L : KLay} {M : KMem} {u : Nat} (G : Good X B RX10 cX10_doneInTown 2 rm_SR_doneInTown) (hx : B.2.2.2 = false) (hu : okL L u srT) (h : kOk (m_SR_doneInTown u M) (fun r => RI X B L 2 cX10_doneInTown .boolean rm_SR_doneInTown r.1 r.2)) : KK X B L 2 0 0 M 0 [(0, .ref (B.1 + u))] [] := by
  unfold m_SR_doneInTown at h
  refine k_aload_n G (dc d_SR_doneInTown 0 rfl) 0 rfl rfl ?_
  refine k_getR G kc7 (dc d_SR_doneInTown 1 rfl) (okL_lt hu (o := 0) 0 rfl) (okL_k hu (o := 0) 0 rfl) 0 (by decide) rfl fl_RX10_10 (u + 1) (okL_r hu (o := 0) (c := 1) 0 rfl 0 rfl) ?_
  refine k_getIN G kc3 (dc d_SR_doneInTown 2 rfl) (okL_lt hu (o := 1) 1 rfl) (okL_k hu (o := 1) 1 rfl) 5 (by decide) rfl fl_RX10_87 ?_
  refine k_istore_n G (dc d_SR_doneInTown 3 rfl) (ls' := [(1, .int (M (u + 1) 5)), (0, .ref (B.1 + u))]) rfl rfl rfl ?_
  refine k_aload_n G (dc d_SR_doneInTown 4 rfl) 1 rfl rfl ?_
  refine k_getR G kc7 (dc d_SR_doneInTown 5 rfl) (okL_lt hu (o := 0) 0 rfl) (okL_k hu (o := 0) 0 rfl) 0 (by decide) rfl fl_RX10_10 (u + 1) (okL_r hu (o := 0) (c := 1) 0 rfl 0 rfl) ?_
  refine k_getIN G kc3 (dc d_SR_doneInTown 6 rfl) (okL_lt hu (o := 1) 1 rfl) (okL_k hu (o := 1) 1 rfl) 3 (by decide) rfl fl_RX10_90 ?_
  by_cases c1 : (M (u + 1) 3) = 100
  · replace h := kOk_p c1 h
    refine k_tsI G (dc d_SR_doneInTown 7 rfl) (off := 125) (tgt := 140) c1 (by decide) (by decide) (by decide) (by decide) ?_
    refine k_aload_n G (dc d_SR_doneInTown 20 rfl) 1 rfl rfl ?_
    refine k_getR G kc7 (dc d_SR_doneInTown 21 rfl) (okL_lt hu (o := 0) 0 rfl) (okL_k hu (o := 0) 0 rfl) 1 (by decide) rfl fl_RX10_19 (u + 3) (okL_r hu (o := 0) (c := 3) 0 rfl 1 rfl) ?_
    refine k_iconst G (dc d_SR_doneInTown 22 rfl) cI_0 ?_
    refine k_iload_n G (dc d_SR_doneInTown 23 rfl) 0 rfl rfl ?_
    refine k_iconst G (dc d_SR_doneInTown 24 rfl) cI_0 ?_
    refine k_iconst G (dc d_SR_doneInTown 25 rfl) cI_0 ?_
    obtain ⟨⟨x10, M11⟩, e9, h⟩ := kOk_b h
    refine k_cVI G (dc d_SR_doneInTown 26 rfl) kc6 (okL_lt hu (o := 3) 3 rfl) (okL_k hu (o := 3) 3 rfl) mi_Tw_giveDecree mv_Tw_giveDecree rfl ml_RX10_100 (c_Tw_giveDecree (gst G) hx (okL_sub hu 3 (by decide +kernel)) e9) rfl rfl ⟨rfl, rfl⟩ rfl ⟨rfl, rfl⟩ ⟨rfl, rfl⟩ ?_
    refine kJ h (fun r13 => KK X B L 2 0 0 M11 159 [] [.int r13]) (fun r13 h => ?_) (fun h => ?_)
    · obtain ⟨t12, rfl⟩ : ∃ z, z = r13 := ⟨_, rfl⟩
      show KK X B L 2 0 0 M11 159 [] [.int t12]
      obtain ⟨z14, e15, h⟩ := kOk_b h
      obtain ⟨e15, nz14, -⟩ := kz_ok e15
      rw [e15]
      exact (kOk_s h) _ _ _ _ rfl rfl nz14 (dc d_SR_doneInTown 31 rfl)
    · refine k_if_ne G (dc d_SR_doneInTown 27 rfl) (tgt := 158) rfl (fun c16 => ?_) (fun c16 => ?_)
      · replace h := kOk_n c16 h
        refine k_iconst G (dc d_SR_doneInTown 30 rfl) cI_0 ?_
        refine k_sub [] rfl ?_
        have h9 := kOk_s h
        exact h9
      · replace h := kOk_p c16 h
        refine k_iconst G (dc d_SR_doneInTown 28 rfl) cI_1 ?_
        refine k_goto G (dc d_SR_doneInTown 29 rfl) (tgt := 159) rfl ?_
        refine k_sub [] rfl ?_
        have h9 := kOk_s h
        exact h9
  · replace h := kOk_n c1 h
    by_cases c2 : (M (u + 1) 3) = 106
    · replace h := kOk_p c2 h
      refine k_tsI G (dc d_SR_doneInTown 7 rfl) (off := 145) (tgt := 160) c2 (by decide) (by decide) (by decide) (by decide) ?_
      refine k_aload_n G (dc d_SR_doneInTown 32 rfl) 1 rfl rfl ?_
      refine k_getR G kc7 (dc d_SR_doneInTown 33 rfl) (okL_lt hu (o := 0) 0 rfl) (okL_k hu (o := 0) 0 rfl) 1 (by decide) rfl fl_RX10_19 (u + 3) (okL_r hu (o := 0) (c := 3) 0 rfl 1 rfl) ?_
      refine k_iconst G (dc d_SR_doneInTown 34 rfl) cI_1 ?_
      refine k_iload_n G (dc d_SR_doneInTown 35 rfl) 0 rfl rfl ?_
      refine k_bipush G (dc d_SR_doneInTown 36 rfl) cB_100 ?_
      refine k_idiv G (dc d_SR_doneInTown 37 rfl) czI_100 ?_
      refine k_iload_n G (dc d_SR_doneInTown 38 rfl) 0 rfl rfl ?_
      refine k_bipush G (dc d_SR_doneInTown 39 rfl) cB_10 ?_
      refine k_idiv G (dc d_SR_doneInTown 40 rfl) czI_10 ?_
      refine k_bipush G (dc d_SR_doneInTown 41 rfl) cB_10 ?_
      refine k_irem G (dc d_SR_doneInTown 42 rfl) czI_10 ?_
      refine k_iload_n G (dc d_SR_doneInTown 43 rfl) 0 rfl rfl ?_
      refine k_bipush G (dc d_SR_doneInTown 44 rfl) cB_10 ?_
      refine k_irem G (dc d_SR_doneInTown 45 rfl) czI_10 ?_
      obtain ⟨⟨x19, M20⟩, e18, h⟩ := kOk_b h
      refine k_cVI G (dc d_SR_doneInTown 46 rfl) kc6 (okL_lt hu (o := 3) 3 rfl) (okL_k hu (o := 3) 3 rfl) mi_Tw_giveDecree mv_Tw_giveDecree rfl ml_RX10_100 (c_Tw_giveDecree (gst G) hx (okL_sub hu 3 (by decide +kernel)) e18) rfl rfl ⟨rfl, rfl⟩ rfl ⟨rfl, rfl⟩ ⟨rfl, rfl⟩ ?_
      refine kJ h (fun r22 => KK X B L 2 0 0 M20 191 [] [.int r22]) (fun r22 h => ?_) (fun h => ?_)
      · obtain ⟨t21, rfl⟩ : ∃ z, z = r22 := ⟨_, rfl⟩
        show KK X B L 2 0 0 M20 191 [] [.int t21]
        obtain ⟨z23, e24, h⟩ := kOk_b h
        obtain ⟨e24, nz23, -⟩ := kz_ok e24
        rw [e24]
        exact (kOk_s h) _ _ _ _ rfl rfl nz23 (dc d_SR_doneInTown 51 rfl)
      · refine k_if_ne G (dc d_SR_doneInTown 47 rfl) (tgt := 190) rfl (fun c25 => ?_) (fun c25 => ?_)
        · replace h := kOk_n c25 h
          refine k_iconst G (dc d_SR_doneInTown 50 rfl) cI_0 ?_
          refine k_sub [] rfl ?_
          have h9 := kOk_s h
          exact h9
        · replace h := kOk_p c25 h
          refine k_iconst G (dc d_SR_doneInTown 48 rfl) cI_1 ?_
          refine k_goto G (dc d_SR_doneInTown 49 rfl) (tgt := 191) rfl ?_
          refine k_sub [] rfl ?_
          have h9 := kOk_s h
          exact h9
    · replace h := kOk_n c2 h
      by_cases c3 : (M (u + 1) 3) = 109
      · replace h := kOk_p c3 h
        refine k_tsI G (dc d_SR_doneInTown 7 rfl) (off := 232) (tgt := 247) c3 (by decide) (by decide) (by decide) (by decide) ?_
        refine k_aload_n G (dc d_SR_doneInTown 83 rfl) 1 rfl rfl ?_
        refine k_getR G kc7 (dc d_SR_doneInTown 84 rfl) (okL_lt hu (o := 0) 0 rfl) (okL_k hu (o := 0) 0 rfl) 1 (by decide) rfl fl_RX10_19 (u + 3) (okL_r hu (o := 0) (c := 3) 0 rfl 1 rfl) ?_
        refine k_iload_n G (dc d_SR_doneInTown 85 rfl) 0 rfl rfl ?_
        obtain ⟨⟨x28, M29⟩, e27, h⟩ := kOk_b h
        refine k_cVI G (dc d_SR_doneInTown 86 rfl) kc6 (okL_lt hu (o := 3) 3 rfl) (okL_k hu (o := 3) 3 rfl) mi_Tw_passMonths mv_Tw_passMonths rfl ml_RX10_111 (c_Tw_passMonths (gst G) (okL_sub hu 3 (by decide +kernel)) e27) rfl rfl ⟨rfl, rfl⟩ rfl ⟨rfl, rfl⟩ ⟨rfl, rfl⟩ ?_
        refine k_pop G (dc d_SR_doneInTown 87 rfl) rfl ?_
        refine k_iconst G (dc d_SR_doneInTown 88 rfl) cI_1 ?_
        obtain ⟨z30, e31, h⟩ := kOk_b h
        obtain ⟨e31, nz30, -⟩ := kz_ok e31
        rw [e31]
        exact (kOk_s h) _ _ _ _ rfl rfl nz30 (dc d_SR_doneInTown 89 rfl)
      · replace h := kOk_n c3 h
        by_cases c4 : (M (u + 1) 3) = 111
        · replace h := kOk_p c4 h
          refine k_tsI G (dc d_SR_doneInTown 7 rfl) (off := 177) (tgt := 192) c4 (by decide) (by decide) (by decide) (by decide) ?_
          refine k_aload_n G (dc d_SR_doneInTown 52 rfl) 1 rfl rfl ?_
          refine k_getR G kc7 (dc d_SR_doneInTown 53 rfl) (okL_lt hu (o := 0) 0 rfl) (okL_k hu (o := 0) 0 rfl) 1 (by decide) rfl fl_RX10_19 (u + 3) (okL_r hu (o := 0) (c := 3) 0 rfl 1 rfl) ?_
          refine k_iconst G (dc d_SR_doneInTown 54 rfl) cI_2 ?_
          refine k_iload_n G (dc d_SR_doneInTown 55 rfl) 0 rfl rfl ?_
          refine k_iconst G (dc d_SR_doneInTown 56 rfl) cI_0 ?_
          refine k_iconst G (dc d_SR_doneInTown 57 rfl) cI_0 ?_
          obtain ⟨⟨x34, M35⟩, e33, h⟩ := kOk_b h
          refine k_cVI G (dc d_SR_doneInTown 58 rfl) kc6 (okL_lt hu (o := 3) 3 rfl) (okL_k hu (o := 3) 3 rfl) mi_Tw_giveDecree mv_Tw_giveDecree rfl ml_RX10_100 (c_Tw_giveDecree (gst G) hx (okL_sub hu 3 (by decide +kernel)) e33) rfl rfl ⟨rfl, rfl⟩ rfl ⟨rfl, rfl⟩ ⟨rfl, rfl⟩ ?_
          refine kJ h (fun r37 => KK X B L 2 0 0 M35 211 [] [.int r37]) (fun r37 h => ?_) (fun h => ?_)
          · obtain ⟨t36, rfl⟩ : ∃ z, z = r37 := ⟨_, rfl⟩
            show KK X B L 2 0 0 M35 211 [] [.int t36]
            obtain ⟨z38, e39, h⟩ := kOk_b h
            obtain ⟨e39, nz38, -⟩ := kz_ok e39
            rw [e39]
            exact (kOk_s h) _ _ _ _ rfl rfl nz38 (dc d_SR_doneInTown 63 rfl)
          · refine k_if_ne G (dc d_SR_doneInTown 59 rfl) (tgt := 210) rfl (fun c40 => ?_) (fun c40 => ?_)
            · replace h := kOk_n c40 h
              refine k_iconst G (dc d_SR_doneInTown 62 rfl) cI_0 ?_
              refine k_sub [] rfl ?_
              have h9 := kOk_s h
              exact h9
            · replace h := kOk_p c40 h
              refine k_iconst G (dc d_SR_doneInTown 60 rfl) cI_1 ?_
              refine k_goto G (dc d_SR_doneInTown 61 rfl) (tgt := 211) rfl ?_
              refine k_sub [] rfl ?_
              have h9 := kOk_s h
              exact h9
        · replace h := kOk_n c4 h
          by_cases c5 : (M (u + 1) 3) = 112
          · replace h := kOk_p c5 h
            refine k_tsI G (dc d_SR_doneInTown 7 rfl) (off := 214) (tgt := 229) c5 (by decide) (by decide) (by decide) (by decide) ?_
            refine k_aload_n G (dc d_SR_doneInTown 73 rfl) 1 rfl rfl ?_
            refine k_getR G kc7 (dc d_SR_doneInTown 74 rfl) (okL_lt hu (o := 0) 0 rfl) (okL_k hu (o := 0) 0 rfl) 1 (by decide) rfl fl_RX10_19 (u + 3) (okL_r hu (o := 0) (c := 3) 0 rfl 1 rfl) ?_
            refine k_iload_n G (dc d_SR_doneInTown 75 rfl) 0 rfl rfl ?_
            obtain ⟨⟨x43, M44⟩, e42, h⟩ := kOk_b h
            refine k_cVI G (dc d_SR_doneInTown 76 rfl) kc6 (okL_lt hu (o := 3) 3 rfl) (okL_k hu (o := 3) 3 rfl) mi_Tw_repaint mv_Tw_repaint rfl ml_RX10_108 (c_Tw_repaint (gst G) (okL_sub hu 3 (by decide +kernel)) e42) rfl rfl ⟨rfl, rfl⟩ rfl ⟨rfl, rfl⟩ ⟨rfl, rfl⟩ ?_
            refine k_iconst G (dc d_SR_doneInTown 77 rfl) cI_m1 ?_
            refine kJ h (fun r46 => KK X B L 2 0 0 M44 246 [] [.int r46]) (fun r46 h => ?_) (fun h => ?_)
            · obtain ⟨t45, rfl⟩ : ∃ z, z = r46 := ⟨_, rfl⟩
              show KK X B L 2 0 0 M44 246 [] [.int t45]
              obtain ⟨z47, e48, h⟩ := kOk_b h
              obtain ⟨e48, nz47, -⟩ := kz_ok e48
              rw [e48]
              exact (kOk_s h) _ _ _ _ rfl rfl nz47 (dc d_SR_doneInTown 82 rfl)
            · refine k_icmp_eq G (dc d_SR_doneInTown 78 rfl) (tgt := 245) rfl (fun c49 => ?_) (fun c49 => ?_)
              · replace h := kOk_p c49 h
                refine k_iconst G (dc d_SR_doneInTown 81 rfl) cI_0 ?_
                refine k_sub [] rfl ?_
                have h9 := kOk_s h
                exact h9
              · replace h := kOk_n c49 h
                refine k_iconst G (dc d_SR_doneInTown 79 rfl) cI_1 ?_
                refine k_goto G (dc d_SR_doneInTown 80 rfl) (tgt := 246) rfl ?_
                refine k_sub [] rfl ?_
                have h9 := kOk_s h
                exact h9
          · replace h := kOk_n c5 h
            by_cases c6 : (M (u + 1) 3) = 114
            · replace h := kOk_p c6 h
              refine k_tsI G (dc d_SR_doneInTown 7 rfl) (off := 197) (tgt := 212) c6 (by decide) (by decide) (by decide) (by decide) ?_
              refine k_aload_n G (dc d_SR_doneInTown 64 rfl) 1 rfl rfl ?_
              refine k_getR G kc7 (dc d_SR_doneInTown 65 rfl) (okL_lt hu (o := 0) 0 rfl) (okL_k hu (o := 0) 0 rfl) 1 (by decide) rfl fl_RX10_19 (u + 3) (okL_r hu (o := 0) (c := 3) 0 rfl 1 rfl) ?_
              refine k_iload_n G (dc d_SR_doneInTown 66 rfl) 0 rfl rfl ?_
              obtain ⟨⟨x52, M53⟩, e51, h⟩ := kOk_b h
              refine k_cVI G (dc d_SR_doneInTown 67 rfl) kc6 (okL_lt hu (o := 3) 3 rfl) (okL_k hu (o := 3) 3 rfl) mi_Tw_takeDecree mv_Tw_takeDecree rfl ml_RX10_104 (c_Tw_takeDecree (gst G) hx (okL_sub hu 3 (by decide +kernel)) e51) rfl rfl ⟨rfl, rfl⟩ rfl ⟨rfl, rfl⟩ ⟨rfl, rfl⟩ ?_
              refine kJ h (fun r55 => KK X B L 2 0 0 M53 228 [] [.int r55]) (fun r55 h => ?_) (fun h => ?_)
              · obtain ⟨t54, rfl⟩ : ∃ z, z = r55 := ⟨_, rfl⟩
                show KK X B L 2 0 0 M53 228 [] [.int t54]
                obtain ⟨z56, e57, h⟩ := kOk_b h
                obtain ⟨e57, nz56, -⟩ := kz_ok e57
                rw [e57]
                exact (kOk_s h) _ _ _ _ rfl rfl nz56 (dc d_SR_doneInTown 72 rfl)
              · refine k_if_ne G (dc d_SR_doneInTown 68 rfl) (tgt := 227) rfl (fun c58 => ?_) (fun c58 => ?_)
                · replace h := kOk_n c58 h
                  refine k_iconst G (dc d_SR_doneInTown 71 rfl) cI_0 ?_
                  refine k_sub [] rfl ?_
                  have h9 := kOk_s h
                  exact h9
                · replace h := kOk_p c58 h
                  refine k_iconst G (dc d_SR_doneInTown 69 rfl) cI_1 ?_
                  refine k_goto G (dc d_SR_doneInTown 70 rfl) (tgt := 228) rfl ?_
                  refine k_sub [] rfl ?_
                  have h9 := kOk_s h
                  exact h9
            · replace h := kOk_n c6 h
              by_cases c7 : (M (u + 1) 3) = 115
              · replace h := kOk_p c7 h
                refine k_tsI G (dc d_SR_doneInTown 7 rfl) (off := 101) (tgt := 116) c7 (by decide) (by decide) (by decide) (by decide) ?_
                refine k_aload_n G (dc d_SR_doneInTown 8 rfl) 1 rfl rfl ?_
                refine k_getR G kc7 (dc d_SR_doneInTown 9 rfl) (okL_lt hu (o := 0) 0 rfl) (okL_k hu (o := 0) 0 rfl) 1 (by decide) rfl fl_RX10_19 (u + 3) (okL_r hu (o := 0) (c := 3) 0 rfl 1 rfl) ?_
                refine k_aload_n G (dc d_SR_doneInTown 10 rfl) 1 rfl rfl ?_
                refine k_getR G kc7 (dc d_SR_doneInTown 11 rfl) (okL_lt hu (o := 0) 0 rfl) (okL_k hu (o := 0) 0 rfl) 0 (by decide) rfl fl_RX10_10 (u + 1) (okL_r hu (o := 0) (c := 1) 0 rfl 0 rfl) ?_
                refine k_getIN G kc3 (dc d_SR_doneInTown 12 rfl) (okL_lt hu (o := 1) 1 rfl) (okL_k hu (o := 1) 1 rfl) 4 (by decide) rfl fl_RX10_93 ?_
                refine k_iload_n G (dc d_SR_doneInTown 13 rfl) 0 rfl rfl ?_
                obtain ⟨⟨x61, M62⟩, e60, h⟩ := kOk_b h
                refine k_cVI G (dc d_SR_doneInTown 14 rfl) kc6 (okL_lt hu (o := 3) 3 rfl) (okL_k hu (o := 3) 3 rfl) mi_Tw_bringSign mv_Tw_bringSign rfl ml_RX10_96 (c_Tw_bringSign (gst G) (okL_sub hu 3 (by decide +kernel)) e60) rfl rfl ⟨rfl, rfl⟩ rfl ⟨rfl, rfl⟩ ⟨rfl, rfl⟩ ?_
                refine kJ h (fun r64 => KK X B L 2 0 0 M62 139 [] [.int r64]) (fun r64 h => ?_) (fun h => ?_)
                · obtain ⟨t63, rfl⟩ : ∃ z, z = r64 := ⟨_, rfl⟩
                  show KK X B L 2 0 0 M62 139 [] [.int t63]
                  obtain ⟨z65, e66, h⟩ := kOk_b h
                  obtain ⟨e66, nz65, -⟩ := kz_ok e66
                  rw [e66]
                  exact (kOk_s h) _ _ _ _ rfl rfl nz65 (dc d_SR_doneInTown 19 rfl)
                · refine k_if_ne G (dc d_SR_doneInTown 15 rfl) (tgt := 138) rfl (fun c67 => ?_) (fun c67 => ?_)
                  · replace h := kOk_n c67 h
                    refine k_iconst G (dc d_SR_doneInTown 18 rfl) cI_0 ?_
                    refine k_sub [] rfl ?_
                    have h9 := kOk_s h
                    exact h9
                  · replace h := kOk_p c67 h
                    refine k_iconst G (dc d_SR_doneInTown 16 rfl) cI_1 ?_
                    refine k_goto G (dc d_SR_doneInTown 17 rfl) (tgt := 139) rfl ?_
                    refine k_sub [] rfl ?_
                    have h9 := kOk_s h
                    exact h9
              · replace h := kOk_n c7 h
                by_cases c8 : (M (u + 1) 3) = 121
                · replace h := kOk_p c8 h
                  refine k_tsI G (dc d_SR_doneInTown 7 rfl) (off := 243) (tgt := 258) c8 (by decide) (by decide) (by decide) (by decide) ?_
                  refine k_aload_n G (dc d_SR_doneInTown 90 rfl) 1 rfl rfl ?_
                  refine k_getR G kc7 (dc d_SR_doneInTown 91 rfl) (okL_lt hu (o := 0) 0 rfl) (okL_k hu (o := 0) 0 rfl) 1 (by decide) rfl fl_RX10_19 (u + 3) (okL_r hu (o := 0) (c := 3) 0 rfl 1 rfl) ?_
                  refine k_iload_n G (dc d_SR_doneInTown 92 rfl) 0 rfl rfl ?_
                  obtain ⟨⟨x70, M71⟩, e69, h⟩ := kOk_b h
                  refine k_cVI G (dc d_SR_doneInTown 93 rfl) kc6 (okL_lt hu (o := 3) 3 rfl) (okL_k hu (o := 3) 3 rfl) mi_Tw_forgive mv_Tw_forgive rfl ml_RX10_114 (c_Tw_forgive (gst G) (okL_sub hu 3 (by decide +kernel)) e69) rfl rfl ⟨rfl, rfl⟩ rfl ⟨rfl, rfl⟩ ⟨rfl, rfl⟩ ?_
                  refine k_iconst G (dc d_SR_doneInTown 94 rfl) cI_m1 ?_
                  refine kJ h (fun r73 => KK X B L 2 0 0 M71 275 [] [.int r73]) (fun r73 h => ?_) (fun h => ?_)
                  · obtain ⟨t72, rfl⟩ : ∃ z, z = r73 := ⟨_, rfl⟩
                    show KK X B L 2 0 0 M71 275 [] [.int t72]
                    obtain ⟨z74, e75, h⟩ := kOk_b h
                    obtain ⟨e75, nz74, -⟩ := kz_ok e75
                    rw [e75]
                    exact (kOk_s h) _ _ _ _ rfl rfl nz74 (dc d_SR_doneInTown 99 rfl)
                  · refine k_icmp_eq G (dc d_SR_doneInTown 95 rfl) (tgt := 274) rfl (fun c76 => ?_) (fun c76 => ?_)
                    · replace h := kOk_p c76 h
                      refine k_iconst G (dc d_SR_doneInTown 98 rfl) cI_0 ?_
                      refine k_sub [] rfl ?_
                      have h9 := kOk_s h
                      exact h9
                    · replace h := kOk_n c76 h
                      refine k_iconst G (dc d_SR_doneInTown 96 rfl) cI_1 ?_
                      refine k_goto G (dc d_SR_doneInTown 97 rfl) (tgt := 275) rfl ?_
                      refine k_sub [] rfl ?_
                      have h9 := kOk_s h
                      exact h9
                · replace h := kOk_n c8 h
                  have hD80 : KK X B L 2 0 0 M 276 [(1, .int (M (u + 1) 5)), (0, .ref (B.1 + u))] [] := by
                    refine k_iconst G (dc d_SR_doneInTown 100 rfl) cI_0 ?_
                    obtain ⟨z78, e79, h⟩ := kOk_b h
                    obtain ⟨e79, nz78, -⟩ := kz_ok e79
                    rw [e79]
                    exact (kOk_s h) _ _ _ _ rfl rfl nz78 (dc d_SR_doneInTown 101 rfl)
                  rcases ts_out (M (u + 1) 3) 100 121 with ho | ⟨k9, h91, h92, h93⟩
                  · exact k_tableOut G (dc d_SR_doneInTown 7 rfl) (tgt := 276) ho rfl hD80
                  · have h94 : k9 = 100 ∨ k9 = 101 ∨ k9 = 102 ∨ k9 = 103 ∨ k9 = 104 ∨ k9 = 105 ∨ k9 = 106 ∨ k9 = 107 ∨ k9 = 108 ∨ k9 = 109 ∨ k9 = 110 ∨ k9 = 111 ∨ k9 = 112 ∨ k9 = 113 ∨ k9 = 114 ∨ k9 = 115 ∨ k9 = 116 ∨ k9 = 117 ∨ k9 = 118 ∨ k9 = 119 ∨ k9 = 120 ∨ k9 = 121 := by omega
                    rcases h94 with rfl | rfl | rfl | rfl | rfl | rfl | rfl | rfl | rfl | rfl | rfl | rfl | rfl | rfl | rfl | rfl | rfl | rfl | rfl | rfl | rfl | rfl
                    · exact absurd (h93.trans cI_100) c1
                    · exact k_tsI G (dc d_SR_doneInTown 7 rfl) (off := 261) (tgt := 276) (h93.trans cI_101) (by decide) (by decide) (by decide) (by decide) hD80
                    · exact k_tsI G (dc d_SR_doneInTown 7 rfl) (off := 261) (tgt := 276) (h93.trans cI_102) (by decide) (by decide) (by decide) (by decide) hD80
                    · exact k_tsI G (dc d_SR_doneInTown 7 rfl) (off := 261) (tgt := 276) (h93.trans cI_103) (by decide) (by decide) (by decide) (by decide) hD80
                    · exact k_tsI G (dc d_SR_doneInTown 7 rfl) (off := 261) (tgt := 276) (h93.trans cI_104) (by decide) (by decide) (by decide) (by decide) hD80
                    · exact k_tsI G (dc d_SR_doneInTown 7 rfl) (off := 261) (tgt := 276) (h93.trans cI_105) (by decide) (by decide) (by decide) (by decide) hD80
                    · exact absurd (h93.trans cI_106) c2
                    · exact k_tsI G (dc d_SR_doneInTown 7 rfl) (off := 261) (tgt := 276) (h93.trans cI_107) (by decide) (by decide) (by decide) (by decide) hD80
                    · exact k_tsI G (dc d_SR_doneInTown 7 rfl) (off := 261) (tgt := 276) (h93.trans cI_108) (by decide) (by decide) (by decide) (by decide) hD80
                    · exact absurd (h93.trans cI_109) c3
                    · exact k_tsI G (dc d_SR_doneInTown 7 rfl) (off := 261) (tgt := 276) (h93.trans cI_110) (by decide) (by decide) (by decide) (by decide) hD80
                    · exact absurd (h93.trans cI_111) c4
                    · exact absurd (h93.trans cI_112) c5
                    · exact k_tsI G (dc d_SR_doneInTown 7 rfl) (off := 261) (tgt := 276) (h93.trans cI_113) (by decide) (by decide) (by decide) (by decide) hD80
                    · exact absurd (h93.trans cI_114) c6
                    · exact absurd (h93.trans cI_115) c7
                    · exact k_tsI G (dc d_SR_doneInTown 7 rfl) (off := 261) (tgt := 276) (h93.trans cI_116) (by decide) (by decide) (by decide) (by decide) hD80
                    · exact k_tsI G (dc d_SR_doneInTown 7 rfl) (off := 261) (tgt := 276) (h93.trans cI_117) (by decide) (by decide) (by decide) (by decide) hD80
                    · exact k_tsI G (dc d_SR_doneInTown 7 rfl) (off := 261) (tgt := 276) (h93.trans cI_118) (by decide) (by decide) (by decide) (by decide) hD80
                    · exact k_tsI G (dc d_SR_doneInTown 7 rfl) (off := 261) (tgt := 276) (h93.trans cI_119) (by decide) (by decide) (by decide) (by decide) hD80
                    · exact k_tsI G (dc d_SR_doneInTown 7 rfl) (off := 261) (tgt := 276) (h93.trans cI_120) (by decide) (by decide) (by decide) (by decide) hD80
                    · exact absurd (h93.trans cI_121) c8
theorem c_SR_doneInTown {l : Launch} {B : KB} {L : KLay} {M : KMem} {u : Nat} (hst : l.stackTraces = false) (hx : B.2.2.2 = false) (hu : okL L u srT) {r : Int32} {M' : KMem} (e : m_SR_doneInTown u M = some (r, M')) : CtrN l B yX10_doneInTown cX10_doneInTown 2 (some .boolean) rm_SR_doneInTown [.ref (B.1 + u)] L M (some (.int r)) L M' :=
  mk_I rfl hst rfl (fun X hl G _ R => b_SR_doneInTown G hx hu ⟨_, e, R⟩)
def I_SR_load : List (Nat × Instr × Nat) := [(0, .aload_n 0, 1), (1, .getfield 10, 3), (4, .invokevirtual 53, 3), (7, .iconst (-1), 1), (8, .if_icmp .eq 13, 3), (11, .new 44, 3), (14, .dup, 1), (15, .ldc 57, 2), (17, .invokespecial 48, 3), (20, .athrow, 1), (21, .aload_n 0, 1), (22, .getfield 19, 3), (25, .getfield 59, 3), (28, .invokevirtual 63, 3), (31, .aload_n 0, 1), (32, .getfield 29, 3), (35, .invokevirtual 68, 3), (38, .aload_n 0, 1), (39, .getfield 29, 3), (42, .invokevirtual 71, 3), (45, .iconst 0, 1), (46, .istore_n 1, 1), (47, .aload_n 0, 1), (48, .getfield 10, 3), (51, .invokevirtual 74, 3), (54, .pop, 1), (55, .iconst 0, 1), (56, .istore_n 2, 1), (57, .iload_n 2, 1), (58, .bipush 120, 2), (60, .if_icmp .ge 39, 3), (63, .aload_n 0, 1), (64, .getfield 10, 3), (67, .invokevirtual 78, 3), (70, .ifCond .eq 29, 3), (73, .aload_n 0, 1), (74, .getfield 10, 3), (77, .invokevirtual 81, 3), (80, .ifCond .eq 10, 3), (83, .aload_n 0, 1), (84, .invokevirtual 84, 3), (87, .ifCond .ne 6, 3), (90, .iinc 1 1, 3), (93, .iinc 2 1, 3), (96, .goto (-39), 3), (99, .iload_n 1, 1), (100, .ireturn, 1)]
set_option maxRecDepth 100000 in
theorem d_SR_load : decA cX10_load I_SR_load = true := by decide +kernel
abbrev rm_SR_load : Room := ({ frames := 7, cells := 1, slots := 6, locals := 158 } : Room)
def m_SR_load_l57 (u : Nat) : (Int32 × Int32 × KMem) → Option ((Int32 × Int32 × KMem) ⊕ (Int32 × KMem)) := fun (v1_14, v2_15, M16) =>
 if 120 ≤ v2_15 then
 (some (.inr (v1_14, M16)))
 else
 (Option.bind (m_Tx_hasMore (u + 1) M16) fun x19 =>
 if x19 = 0 then
 (some (.inr (v1_14, M16)))
 else
 (Option.bind (m_Tx_readCommand (u + 1) M16) fun (x22, M23) =>
 Option.bind (α := Int32 × KMem) (if x22 = 0 then
 (some (v1_14 + 1, M23))
 else
 (Option.bind (m_SR_doneInTown u M23) fun (x29, M30) =>
 if x29 = 0 then
 (some (v1_14 + 1, M30))
 else
 (some (v1_14, M30)))) fun (v1_24, M25) =>
 some (.inl (v1_24, v2_15 + 1, M25))))
def m_SR_load (u : Nat) (M : KMem) : Option ((String ⊕ Int32) × KMem) :=
 Option.bind (m_Tx_firstError (u + 1) M) fun (x2, M3) =>
 if x2 = (-1) then
 (Option.bind (m_St_clear (u + 4) M3) fun M6 =>
 Option.bind (m_Me_forgetStates (u + 39) M6) fun M8 =>
 Option.bind (m_Me_emptySlots (u + 39) M8) fun M10 =>
 Option.bind (m_Tx_restart (u + 1) M10) fun (x12, M13) =>
 Option.bind (α := Int32 × KMem) (kLp (m_SR_load_l57 u) kFU (0, 0, M13)) fun (v1_32, M33) =>
 some (.inr v1_32, M33))
 else
 (some (.inl "java/lang/IllegalStateException", M3))
set_option maxHeartbeats 4000000 in
set_option maxRecDepth 100000 in
theorem b_SR_load {X : KX} {B : KB} {L : KLay} {M : KMem} {u : Nat} (G : Good X B RX10 cX10_load 3 rm_SR_load) (hx : B.2.2.2 = false) (hu : okL L u srT) (h : kOk (m_SR_load u M) (fun r => RXI X B L 3 RX10 cX10_load .int rm_SR_load r.1 r.2)) : KK X B L 3 0 0 M 0 [(0, .ref (B.1 + u))] [] := by
  unfold m_SR_load at h
  refine k_aload_n G (dc d_SR_load 0 rfl) 0 rfl rfl ?_
  refine k_getR G kc7 (dc d_SR_load 1 rfl) (okL_lt hu (o := 0) 0 rfl) (okL_k hu (o := 0) 0 rfl) 0 (by decide) rfl fl_RX10_10 (u + 1) (okL_r hu (o := 0) (c := 1) 0 rfl 0 rfl) ?_
  obtain ⟨⟨x2, M3⟩, e1, h⟩ := kOk_b h
  refine k_cVI G (dc d_SR_load 2 rfl) kc3 (okL_lt hu (o := 1) 1 rfl) (okL_k hu (o := 1) 1 rfl) mi_Tx_firstError mv_Tx_firstError rfl ml_RX10_53 (c_Tx_firstError (gst G) (okL_sub hu 1 (by decide +kernel)) e1) rfl rfl ⟨rfl, rfl⟩ rfl ⟨rfl, rfl⟩ ⟨rfl, rfl⟩ ?_
  refine k_iconst G (dc d_SR_load 3 rfl) cI_m1 ?_
  refine k_icmp_eq G (dc d_SR_load 4 rfl) (tgt := 21) rfl (fun c4 => ?_) (fun c4 => ?_)
  · replace h := kOk_p c4 h
    refine k_aload_n G (dc d_SR_load 10 rfl) 0 rfl rfl ?_
    refine k_getR G kc7 (dc d_SR_load 11 rfl) (okL_lt hu (o := 0) 0 rfl) (okL_k hu (o := 0) 0 rfl) 1 (by decide) rfl fl_RX10_19 (u + 3) (okL_r hu (o := 0) (c := 3) 0 rfl 1 rfl) ?_
    refine k_getR G kc6 (dc d_SR_load 12 rfl) (okL_lt hu (o := 3) 3 rfl) (okL_k hu (o := 3) 3 rfl) 0 (by decide) rfl fl_RX10_59 (u + 4) (okL_r hu (o := 3) (c := 4) 3 rfl 0 rfl) ?_
    obtain ⟨M6, e5, h⟩ := kOk_b h
    refine k_cVV G (dc d_SR_load 13 rfl) kc5 (okL_lt hu (o := 4) 4 rfl) (okL_k hu (o := 4) 4 rfl) mi_St_clear mv_St_clear rfl ml_RX10_63 (c_St_clear (gst G) (okL_sub hu 4 (by decide +kernel)) e5) rfl rfl ⟨rfl, rfl⟩ rfl ⟨rfl, rfl⟩ ⟨rfl, rfl⟩ ?_
    refine k_aload_n G (dc d_SR_load 14 rfl) 0 rfl rfl ?_
    refine k_getR G kc7 (dc d_SR_load 15 rfl) (okL_lt hu (o := 0) 0 rfl) (okL_k hu (o := 0) 0 rfl) 3 (by decide) rfl fl_RX10_29 (u + 39) (okL_r hu (o := 0) (c := 39) 0 rfl 3 rfl) ?_
    obtain ⟨M8, e7, h⟩ := kOk_b h
    refine k_cVV G (dc d_SR_load 16 rfl) kc2 (okL_lt hu (o := 39) 39 rfl) (okL_k hu (o := 39) 39 rfl) mi_Me_forgetStates mv_Me_forgetStates rfl ml_RX10_68 (c_Me_forgetStates (gst G) (okL_sub hu 39 (by decide +kernel)) e7) rfl rfl ⟨rfl, rfl⟩ rfl ⟨rfl, rfl⟩ ⟨rfl, rfl⟩ ?_
    refine k_aload_n G (dc d_SR_load 17 rfl) 0 rfl rfl ?_
    refine k_getR G kc7 (dc d_SR_load 18 rfl) (okL_lt hu (o := 0) 0 rfl) (okL_k hu (o := 0) 0 rfl) 3 (by decide) rfl fl_RX10_29 (u + 39) (okL_r hu (o := 0) (c := 39) 0 rfl 3 rfl) ?_
    obtain ⟨M10, e9, h⟩ := kOk_b h
    refine k_cVV G (dc d_SR_load 19 rfl) kc2 (okL_lt hu (o := 39) 39 rfl) (okL_k hu (o := 39) 39 rfl) mi_Me_emptySlots mv_Me_emptySlots rfl ml_RX10_71 (c_Me_emptySlots (gst G) (okL_sub hu 39 (by decide +kernel)) e9) rfl rfl ⟨rfl, rfl⟩ rfl ⟨rfl, rfl⟩ ⟨rfl, rfl⟩ ?_
    refine k_iconst G (dc d_SR_load 20 rfl) cI_0 ?_
    refine k_istore_n G (dc d_SR_load 21 rfl) (ls' := [(1, .int 0), (0, .ref (B.1 + u))]) rfl rfl rfl ?_
    refine k_aload_n G (dc d_SR_load 22 rfl) 1 rfl rfl ?_
    refine k_getR G kc7 (dc d_SR_load 23 rfl) (okL_lt hu (o := 0) 0 rfl) (okL_k hu (o := 0) 0 rfl) 0 (by decide) rfl fl_RX10_10 (u + 1) (okL_r hu (o := 0) (c := 1) 0 rfl 0 rfl) ?_
    obtain ⟨⟨x12, M13⟩, e11, h⟩ := kOk_b h
    refine k_cVI G (dc d_SR_load 24 rfl) kc3 (okL_lt hu (o := 1) 1 rfl) (okL_k hu (o := 1) 1 rfl) mi_Tx_restart mv_Tx_restart rfl ml_RX10_74 (c_Tx_restart (gst G) (okL_sub hu 1 (by decide +kernel)) e11) rfl rfl ⟨rfl, rfl⟩ rfl ⟨rfl, rfl⟩ ⟨rfl, rfl⟩ ?_
    refine k_pop G (dc d_SR_load 25 rfl) rfl ?_
    refine k_iconst G (dc d_SR_load 26 rfl) cI_0 ?_
    refine k_istore_n G (dc d_SR_load 27 rfl) (ls' := [(2, .int 0), (1, .int 0), (0, .ref (B.1 + u))]) rfl rfl rfl ?_
    refine kJ h (fun r34 => KK X B L 3 0 0 r34.2 99 [(1, .int r34.1)] []) (fun r34 h => ?_) (fun h => ?_)
    · obtain ⟨v1_32, M33⟩ := r34
      show KK X B L 3 0 0 M33 99 [(1, .int v1_32)] []
      refine k_iload_n G (dc d_SR_load 45 rfl) 0 rfl rfl ?_
      exact ((kOk_s h).1 _ rfl) _ _ _ _ rfl rfl rfl (dc d_SR_load 46 rfl)
    · refine k_sub [2, 1, 0] rfl ?_
      refine kLp_ok (P := fun s35 => KK X B L 3 0 0 s35.2.2 57 [(0, .ref (B.1 + u)), (1, .int s35.1), (2, .int s35.2.1)] []) (fun s35 h => ?_) kFU _ h
      obtain ⟨v1_14, v2_15, M16⟩ := s35
      unfold m_SR_load_l57 at h
      show KK X B L 3 0 0 M16 57 [(0, .ref (B.1 + u)), (1, .int v1_14), (2, .int v2_15)] []
      refine k_iload_n G (dc d_SR_load 28 rfl) 2 rfl rfl ?_
      refine k_bipush G (dc d_SR_load 29 rfl) cB_120 ?_
      refine k_icmp_ge G (dc d_SR_load 30 rfl) (tgt := 99) rfl (fun c17 => ?_) (fun c17 => ?_)
      · replace h := kOk_p c17 h
        refine k_sub [1] rfl ?_
        have h9 := kOk_s h
        exact h9
      · replace h := kOk_n c17 h
        refine k_aload_n G (dc d_SR_load 31 rfl) 0 rfl rfl ?_
        refine k_getR G kc7 (dc d_SR_load 32 rfl) (okL_lt hu (o := 0) 0 rfl) (okL_k hu (o := 0) 0 rfl) 0 (by decide) rfl fl_RX10_10 (u + 1) (okL_r hu (o := 0) (c := 1) 0 rfl 0 rfl) ?_
        obtain ⟨x19, e18, h⟩ := kOk_b h
        refine k_cVI G (dc d_SR_load 33 rfl) kc3 (okL_lt hu (o := 1) 1 rfl) (okL_k hu (o := 1) 1 rfl) mi_Tx_hasMore mv_Tx_hasMore rfl ml_RX10_78 (c_Tx_hasMore (gst G) (okL_sub hu 1 (by decide +kernel)) e18) rfl rfl ⟨rfl, rfl⟩ rfl ⟨rfl, rfl⟩ ⟨rfl, rfl⟩ ?_
        refine k_if_eq G (dc d_SR_load 34 rfl) (tgt := 99) rfl (fun c20 => ?_) (fun c20 => ?_)
        · replace h := kOk_p c20 h
          refine k_sub [1] rfl ?_
          have h9 := kOk_s h
          exact h9
        · replace h := kOk_n c20 h
          refine k_aload_n G (dc d_SR_load 35 rfl) 0 rfl rfl ?_
          refine k_getR G kc7 (dc d_SR_load 36 rfl) (okL_lt hu (o := 0) 0 rfl) (okL_k hu (o := 0) 0 rfl) 0 (by decide) rfl fl_RX10_10 (u + 1) (okL_r hu (o := 0) (c := 1) 0 rfl 0 rfl) ?_
          obtain ⟨⟨x22, M23⟩, e21, h⟩ := kOk_b h
          refine k_cVI G (dc d_SR_load 37 rfl) kc3 (okL_lt hu (o := 1) 1 rfl) (okL_k hu (o := 1) 1 rfl) mi_Tx_readCommand mv_Tx_readCommand rfl ml_RX10_81 (c_Tx_readCommand (gst G) (okL_sub hu 1 (by decide +kernel)) e21) rfl rfl ⟨rfl, rfl⟩ rfl ⟨rfl, rfl⟩ ⟨rfl, rfl⟩ ?_
          refine kJ h (fun r26 => KK X B L 3 0 0 r26.2 93 [(0, .ref (B.1 + u)), (1, .int r26.1), (2, .int v2_15)] []) (fun r26 h => ?_) (fun h => ?_)
          · obtain ⟨v1_24, M25⟩ := r26
            show KK X B L 3 0 0 M25 93 [(0, .ref (B.1 + u)), (1, .int v1_24), (2, .int v2_15)] []
            refine k_iinc G (dc d_SR_load 43 rfl) (ls' := [(2, .int (v2_15 + 1)), (0, .ref (B.1 + u)), (1, .int v1_24)]) 2 rfl cI_1 rfl rfl ?_
            refine k_goto G (dc d_SR_load 44 rfl) (tgt := 57) rfl ?_
            refine k_sub [1, 2, 0] rfl ?_
            have h9 := kOk_s h
            exact h9
          · refine k_if_eq G (dc d_SR_load 38 rfl) (tgt := 90) rfl (fun c27 => ?_) (fun c27 => ?_)
            · replace h := kOk_p c27 h
              refine k_iinc G (dc d_SR_load 42 rfl) (ls' := [(1, .int (v1_14 + 1)), (0, .ref (B.1 + u)), (2, .int v2_15)]) 1 rfl cI_1 rfl rfl ?_
              refine k_sub [1, 0, 2] rfl ?_
              have h9 := kOk_s h
              exact h9
            · replace h := kOk_n c27 h
              refine k_aload_n G (dc d_SR_load 39 rfl) 0 rfl rfl ?_
              obtain ⟨⟨x29, M30⟩, e28, h⟩ := kOk_b h
              refine k_cVI G (dc d_SR_load 40 rfl) kc7 (okL_lt hu (o := 0) 0 rfl) (okL_k hu (o := 0) 0 rfl) mi_SR_doneInTown mv_SR_doneInTown rfl ml_RX10_84 (c_SR_doneInTown (gst G) hx hu e28) rfl rfl ⟨rfl, rfl⟩ rfl ⟨rfl, rfl⟩ ⟨rfl, rfl⟩ ?_
              refine k_if_ne G (dc d_SR_load 41 rfl) (tgt := 93) rfl (fun c31 => ?_) (fun c31 => ?_)
              · replace h := kOk_n c31 h
                have h9 := kOk_s h
                exact h9
              · replace h := kOk_p c31 h
                refine k_iinc G (dc d_SR_load 42 rfl) (ls' := [(1, .int (v1_14 + 1)), (0, .ref (B.1 + u)), (2, .int v2_15)]) 1 rfl cI_1 rfl rfl ?_
                refine k_sub [1, 0, 2] rfl ?_
                have h9 := kOk_s h
                exact h9
  · replace h := kOk_n c4 h
    exact ((kOk_s h).2 _ rfl).2.1 _ _ _ _ _ 44 57 48 "the text is not a reform" ["java/lang/RuntimeException", "java/lang/Exception"] ts_RX10_44_48 sr_RX10_57 (dc d_SR_load 5 rfl) (dc d_SR_load 6 rfl) (dc d_SR_load 7 rfl) (dc d_SR_load 8 rfl) (dc d_SR_load 9 rfl) rfl rfl rfl rfl
theorem c_SR_load {l : Launch} {B : KB} {L : KLay} {M : KMem} {u : Nat} (hst : l.stackTraces = false) (hx : B.2.2.2 = false) (hu : okL L u srT) {r : String ⊕ Int32} {M' : KMem} (e : m_SR_load u M = some (r, M')) : CtrX l B yX10_load cX10_load 3 (some .int) rm_SR_load [.ref (B.1 + u)] L M (rI r) M' :=
  mkXI hx rfl hst rfl (fun X hl G R => b_SR_load G hx hu ⟨_, e, R⟩)
def I_SR_about : List (Nat × Instr × Nat) := [(0, .iload_n 1, 1), (1, .ifCond .lt 9, 3), (4, .iload_n 1, 1), (5, .bipush 11, 2), (7, .if_icmp .le 13, 3), (10, .new 33, 3), (13, .dup, 1), (14, .ldc 117, 2), (16, .invokespecial 37, 3), (19, .athrow, 1), (20, .aload_n 0, 1), (21, .getfield 19, 3), (24, .iload_n 1, 1), (25, .invokevirtual 119, 3), (28, .ireturn, 1)]
set_option maxRecDepth 100000 in
theorem d_SR_about : decA cX10_about I_SR_about = true := by decide +kernel
abbrev rm_SR_about : Room := ({ frames := 7, cells := 1, slots := 6, locals := 158 } : Room)
def m_SR_about (u : Nat) (p0 : Int32) (M : KMem) : Option ((String ⊕ Int32) × KMem) :=
 if p0 < 0 then
 (some (.inl "java/lang/IllegalArgumentException", M))
 else
 (if p0 ≤ 11 then
 (Option.bind (m_Tw_numberOfTown (u + 3) p0 M) fun (x4, M5) =>
 some (.inr x4, M5))
 else
 (some (.inl "java/lang/IllegalArgumentException", M)))
set_option maxHeartbeats 4000000 in
set_option maxRecDepth 100000 in
theorem b_SR_about {X : KX} {B : KB} {L : KLay} {M : KMem} {u : Nat} {p0 : Int32} (G : Good X B RX10 cX10_about 2 rm_SR_about) (hx : B.2.2.2 = false) (hu : okL L u srT) (h : kOk (m_SR_about u p0 M) (fun r => RXI X B L 2 RX10 cX10_about .int rm_SR_about r.1 r.2)) : KK X B L 2 0 0 M 0 [(0, .ref (B.1 + u)), (1, .int p0)] [] := by
  unfold m_SR_about at h
  refine k_iload_n G (dc d_SR_about 0 rfl) 1 rfl rfl ?_
  refine k_if_lt G (dc d_SR_about 1 rfl) (tgt := 10) rfl (fun c1 => ?_) (fun c1 => ?_)
  · replace h := kOk_p c1 h
    exact ((kOk_s h).2 _ rfl).2.1 _ _ _ _ _ 33 117 37 "no such number of the reform" ["java/lang/RuntimeException", "java/lang/Exception"] ts_RX10_33_37 sr_RX10_117 (dc d_SR_about 5 rfl) (dc d_SR_about 6 rfl) (dc d_SR_about 7 rfl) (dc d_SR_about 8 rfl) (dc d_SR_about 9 rfl) rfl rfl rfl rfl
  · replace h := kOk_n c1 h
    refine k_iload_n G (dc d_SR_about 2 rfl) 1 rfl rfl ?_
    refine k_bipush G (dc d_SR_about 3 rfl) cB_11 ?_
    refine k_icmp_le G (dc d_SR_about 4 rfl) (tgt := 20) rfl (fun c2 => ?_) (fun c2 => ?_)
    · replace h := kOk_p c2 h
      refine k_aload_n G (dc d_SR_about 10 rfl) 0 rfl rfl ?_
      refine k_getR G kc7 (dc d_SR_about 11 rfl) (okL_lt hu (o := 0) 0 rfl) (okL_k hu (o := 0) 0 rfl) 1 (by decide) rfl fl_RX10_19 (u + 3) (okL_r hu (o := 0) (c := 3) 0 rfl 1 rfl) ?_
      refine k_iload_n G (dc d_SR_about 12 rfl) 1 rfl rfl ?_
      obtain ⟨⟨x4, M5⟩, e3, h⟩ := kOk_b h
      refine k_cVI G (dc d_SR_about 13 rfl) kc6 (okL_lt hu (o := 3) 3 rfl) (okL_k hu (o := 3) 3 rfl) mi_Tw_numberOfTown mv_Tw_numberOfTown rfl ml_RX10_119 (c_Tw_numberOfTown (gst G) (okL_sub hu 3 (by decide +kernel)) e3) rfl rfl ⟨rfl, rfl⟩ rfl ⟨rfl, rfl⟩ ⟨rfl, rfl⟩ ?_
      exact ((kOk_s h).1 _ rfl) _ _ _ _ rfl rfl rfl (dc d_SR_about 14 rfl)
    · replace h := kOk_n c2 h
      exact ((kOk_s h).2 _ rfl).2.1 _ _ _ _ _ 33 117 37 "no such number of the reform" ["java/lang/RuntimeException", "java/lang/Exception"] ts_RX10_33_37 sr_RX10_117 (dc d_SR_about 5 rfl) (dc d_SR_about 6 rfl) (dc d_SR_about 7 rfl) (dc d_SR_about 8 rfl) (dc d_SR_about 9 rfl) rfl rfl rfl rfl
theorem c_SR_about {l : Launch} {B : KB} {L : KLay} {M : KMem} {u : Nat} {p0 : Int32} (hst : l.stackTraces = false) (hx : B.2.2.2 = false) (hu : okL L u srT) {r : String ⊕ Int32} {M' : KMem} (e : m_SR_about u p0 M = some (r, M')) : CtrX l B yX10_about cX10_about 2 (some .int) rm_SR_about [.ref (B.1 + u), .int p0] L M (rI r) M' :=
  mkXI hx rfl hst rfl (fun X hl G R => b_SR_about G hx hu ⟨_, e, R⟩)
def I_SR_requireSign : List (Nat × Instr × Nat) := [(0, .aload_n 0, 1), (1, .getfield 19, 3), (4, .iload_n 1, 1), (5, .invokevirtual 278, 3), (8, .ifCond .ne 14, 3), (11, .new 281, 3), (14, .dup, 1), (15, .ldc_w 283, 3), (18, .invokespecial 285, 3), (21, .athrow, 1), (22, .return_, 1)]
set_option maxRecDepth 100000 in
theorem d_SR_requireSign : decA cX10_requireSign I_SR_requireSign = true := by decide +kernel
abbrev rm_SR_requireSign : Room := ({ frames := 6, cells := 1, slots := 6, locals := 92 } : Room)
def m_SR_requireSign (u : Nat) (p0 : Int32) (M : KMem) : Option (Option String) :=
 Option.bind (m_Tw_hasSign (u + 3) p0 M) fun x2 =>
 if x2 = 0 then
 (some (some "java/lang/IndexOutOfBoundsException"))
 else
 (some none)
set_option maxHeartbeats 4000000 in
set_option maxRecDepth 100000 in
theorem b_SR_requireSign {X : KX} {B : KB} {L : KLay} {M : KMem} {u : Nat} {p0 : Int32} (G : Good X B RX10 cX10_requireSign 2 rm_SR_requireSign) (hx : B.2.2.2 = false) (hu : okL L u srT) (h : kOk (m_SR_requireSign u p0 M) (fun r => RXV X B L 2 RX10 cX10_requireSign rm_SR_requireSign r M)) : KK X B L 2 0 0 M 0 [(0, .ref (B.1 + u)), (1, .int p0)] [] := by
  unfold m_SR_requireSign at h
  refine k_aload_n G (dc d_SR_requireSign 0 rfl) 0 rfl rfl ?_
  refine k_getR G kc7 (dc d_SR_requireSign 1 rfl) (okL_lt hu (o := 0) 0 rfl) (okL_k hu (o := 0) 0 rfl) 1 (by decide) rfl fl_RX10_19 (u + 3) (okL_r hu (o := 0) (c := 3) 0 rfl 1 rfl) ?_
  refine k_iload_n G (dc d_SR_requireSign 2 rfl) 1 rfl rfl ?_
  obtain ⟨x2, e1, h⟩ := kOk_b h
  refine k_cVI G (dc d_SR_requireSign 3 rfl) kc6 (okL_lt hu (o := 3) 3 rfl) (okL_k hu (o := 3) 3 rfl) mi_Tw_hasSign mv_Tw_hasSign rfl ml_RX10_278 (c_Tw_hasSign (gst G) (okL_sub hu 3 (by decide +kernel)) e1) rfl rfl ⟨rfl, rfl⟩ rfl ⟨rfl, rfl⟩ ⟨rfl, rfl⟩ ?_
  refine k_if_ne G (dc d_SR_requireSign 4 rfl) (tgt := 22) rfl (fun c3 => ?_) (fun c3 => ?_)
  · replace h := kOk_n c3 h
    exact ((kOk_s h).1 rfl) _ _ _ _ rfl rfl (dc d_SR_requireSign 10 rfl)
  · replace h := kOk_p c3 h
    exact ((kOk_s h).2 _ rfl).2.2 _ _ _ _ _ 281 283 285 "no such sign" ["java/lang/RuntimeException", "java/lang/Exception"] ts_RX10_281_285 sr_RX10_283 (dc d_SR_requireSign 5 rfl) (dc d_SR_requireSign 6 rfl) (dc d_SR_requireSign 7 rfl) (dc d_SR_requireSign 8 rfl) (dc d_SR_requireSign 9 rfl) rfl rfl rfl rfl
theorem c_SR_requireSign {l : Launch} {B : KB} {L : KLay} {M : KMem} {u : Nat} {p0 : Int32} (hst : l.stackTraces = false) (hx : B.2.2.2 = false) (hu : okL L u srT) {r : Option String} (e : m_SR_requireSign u p0 M = some r) : CtrX l B yX10_requireSign cX10_requireSign 2 none rm_SR_requireSign [.ref (B.1 + u), .int p0] L M (rV r) M :=
  mkXV hx rfl hst rfl (fun X hl G R => b_SR_requireSign G hx hu ⟨_, e, R⟩)
def I_SR_signOf : List (Nat × Instr × Nat) := [(0, .aload_n 0, 1), (1, .iload_n 1, 1), (2, .invokevirtual 122, 3), (5, .iload_n 2, 1), (6, .ifCond .lt 9, 3), (9, .iload_n 2, 1), (10, .bipush 7, 2), (12, .if_icmp .le 13, 3), (15, .new 33, 3), (18, .dup, 1), (19, .ldc 125, 2), (21, .invokespecial 37, 3), (24, .athrow, 1), (25, .aload_n 0, 1), (26, .getfield 19, 3), (29, .iload_n 1, 1), (30, .iload_n 2, 1), (31, .invokevirtual 127, 3), (34, .ireturn, 1)]
set_option maxRecDepth 100000 in
theorem d_SR_signOf : decA cX10_signOf I_SR_signOf = true := by decide +kernel
abbrev rm_SR_signOf : Room := ({ frames := 7, cells := 2, slots := 12, locals := 137 } : Room)
def m_SR_signOf (u : Nat) (p0 : Int32) (p1 : Int32) (M : KMem) : Option ((String ⊕ Int32) × KMem) :=
 Option.bind (m_SR_requireSign u p0 M) fun r2 => match r2 with
 | some E3 => some (.inl E3, M)
 | none =>
 (if p1 < 0 then
 (some (.inl "java/lang/IllegalArgumentException", M))
 else
 (if p1 ≤ 7 then
 (Option.bind (m_Tw_numberOfSign (u + 3) p0 p1 M) fun (x7, M8) =>
 some (.inr x7, M8))
 else
 (some (.inl "java/lang/IllegalArgumentException", M))))
set_option maxHeartbeats 4000000 in
set_option maxRecDepth 100000 in
theorem b_SR_signOf {X : KX} {B : KB} {L : KLay} {M : KMem} {u : Nat} {p0 : Int32} {p1 : Int32} (G : Good X B RX10 cX10_signOf 3 rm_SR_signOf) (hx : B.2.2.2 = false) (hu : okL L u srT) (h : kOk (m_SR_signOf u p0 p1 M) (fun r => RXI X B L 3 RX10 cX10_signOf .int rm_SR_signOf r.1 r.2)) : KK X B L 3 0 0 M 0 [(0, .ref (B.1 + u)), (1, .int p0), (2, .int p1)] [] := by
  unfold m_SR_signOf at h
  refine k_aload_n G (dc d_SR_signOf 0 rfl) 0 rfl rfl ?_
  refine k_iload_n G (dc d_SR_signOf 1 rfl) 1 rfl rfl ?_
  obtain ⟨r2, e1, h⟩ := kOk_b h
  refine k_callVX G (dc d_SR_signOf 2 rfl) kc7 (okL_lt hu (o := 0) 0 rfl) (okL_k hu (o := 0) 0 rfl) mi_SR_requireSign mv_SR_requireSign rfl ml_RX10_122 (c_SR_requireSign (gst G) hx hu e1) rfl rfl ⟨rfl, rfl⟩ rfl ⟨rfl, rfl⟩ (fun v9 h9 => ?_) (fun E9 h9 => ?_)
  · obtain ⟨rfl, rfl⟩ := rV_inr h9
    show KK X B L 3 1 6 M 5 [(0, .ref (B.1 + u)), (1, .int p0), (2, .int p1)] []
    refine k_iload_n G (dc d_SR_signOf 3 rfl) 2 rfl rfl ?_
    refine k_if_lt G (dc d_SR_signOf 4 rfl) (tgt := 15) rfl (fun c4 => ?_) (fun c4 => ?_)
    · replace h := kOk_p c4 h
      exact ((kOk_s h).2 _ rfl).2.1 _ _ _ _ _ 33 125 37 "no such number of a sign" ["java/lang/RuntimeException", "java/lang/Exception"] ts_RX10_33_37 sr_RX10_125 (dc d_SR_signOf 8 rfl) (dc d_SR_signOf 9 rfl) (dc d_SR_signOf 10 rfl) (dc d_SR_signOf 11 rfl) (dc d_SR_signOf 12 rfl) rfl rfl rfl rfl
    · replace h := kOk_n c4 h
      refine k_iload_n G (dc d_SR_signOf 5 rfl) 2 rfl rfl ?_
      refine k_bipush G (dc d_SR_signOf 6 rfl) cB_7 ?_
      refine k_icmp_le G (dc d_SR_signOf 7 rfl) (tgt := 25) rfl (fun c5 => ?_) (fun c5 => ?_)
      · replace h := kOk_p c5 h
        refine k_aload_n G (dc d_SR_signOf 13 rfl) 0 rfl rfl ?_
        refine k_getR G kc7 (dc d_SR_signOf 14 rfl) (okL_lt hu (o := 0) 0 rfl) (okL_k hu (o := 0) 0 rfl) 1 (by decide) rfl fl_RX10_19 (u + 3) (okL_r hu (o := 0) (c := 3) 0 rfl 1 rfl) ?_
        refine k_iload_n G (dc d_SR_signOf 15 rfl) 1 rfl rfl ?_
        refine k_iload_n G (dc d_SR_signOf 16 rfl) 2 rfl rfl ?_
        obtain ⟨⟨x7, M8⟩, e6, h⟩ := kOk_b h
        refine k_cVI G (dc d_SR_signOf 17 rfl) kc6 (okL_lt hu (o := 3) 3 rfl) (okL_k hu (o := 3) 3 rfl) mi_Tw_numberOfSign mv_Tw_numberOfSign rfl ml_RX10_127 (c_Tw_numberOfSign (gst G) (okL_sub hu 3 (by decide +kernel)) e6) rfl rfl ⟨rfl, rfl⟩ rfl ⟨rfl, rfl⟩ ⟨rfl, rfl⟩ ?_
        exact ((kOk_s h).1 _ rfl) _ _ _ _ rfl rfl rfl (dc d_SR_signOf 18 rfl)
      · replace h := kOk_n c5 h
        exact ((kOk_s h).2 _ rfl).2.1 _ _ _ _ _ 33 125 37 "no such number of a sign" ["java/lang/RuntimeException", "java/lang/Exception"] ts_RX10_33_37 sr_RX10_125 (dc d_SR_signOf 8 rfl) (dc d_SR_signOf 9 rfl) (dc d_SR_signOf 10 rfl) (dc d_SR_signOf 11 rfl) (dc d_SR_signOf 12 rfl) rfl rfl rfl rfl
  · obtain rfl := rV_inl h9
    exact ((kOk_s h).2 _ rfl).1 _ _ _ _ _ rfl rfl
theorem c_SR_signOf {l : Launch} {B : KB} {L : KLay} {M : KMem} {u : Nat} {p0 : Int32} {p1 : Int32} (hst : l.stackTraces = false) (hx : B.2.2.2 = false) (hu : okL L u srT) {r : String ⊕ Int32} {M' : KMem} (e : m_SR_signOf u p0 p1 M = some (r, M')) : CtrX l B yX10_signOf cX10_signOf 3 (some .int) rm_SR_signOf [.ref (B.1 + u), .int p0, .int p1] L M (rI r) M' :=
  mkXI hx rfl hst rfl (fun X hl G R => b_SR_signOf G hx hu ⟨_, e, R⟩)
def I_SR_requireDecree : List (Nat × Instr × Nat) := [(0, .aload_n 0, 1), (1, .getfield 19, 3), (4, .getfield 59, 3), (7, .getfield 135, 3), (10, .iload_n 1, 1), (11, .invokevirtual 286, 3), (14, .ifCond .ne 14, 3), (17, .new 281, 3), (20, .dup, 1), (21, .ldc_w 289, 3), (24, .invokespecial 285, 3), (27, .athrow, 1), (28, .return_, 1)]
set_option maxRecDepth 100000 in
theorem d_SR_requireDecree : decA cX10_requireDecree I_SR_requireDecree = true := by decide +kernel
abbrev rm_SR_requireDecree : Room := ({ frames := 6, cells := 1, slots := 6, locals := 92 } : Room)
def m_SR_requireDecree (u : Nat) (p0 : Int32) (M : KMem) : Option (Option String) :=
 Option.bind (m_De_has (u + 5) p0 M) fun x2 =>
 if x2 = 0 then
 (some (some "java/lang/IndexOutOfBoundsException"))
 else
 (some none)
set_option maxHeartbeats 4000000 in
set_option maxRecDepth 100000 in
theorem b_SR_requireDecree {X : KX} {B : KB} {L : KLay} {M : KMem} {u : Nat} {p0 : Int32} (G : Good X B RX10 cX10_requireDecree 2 rm_SR_requireDecree) (hx : B.2.2.2 = false) (hu : okL L u srT) (h : kOk (m_SR_requireDecree u p0 M) (fun r => RXV X B L 2 RX10 cX10_requireDecree rm_SR_requireDecree r M)) : KK X B L 2 0 0 M 0 [(0, .ref (B.1 + u)), (1, .int p0)] [] := by
  unfold m_SR_requireDecree at h
  refine k_aload_n G (dc d_SR_requireDecree 0 rfl) 0 rfl rfl ?_
  refine k_getR G kc7 (dc d_SR_requireDecree 1 rfl) (okL_lt hu (o := 0) 0 rfl) (okL_k hu (o := 0) 0 rfl) 1 (by decide) rfl fl_RX10_19 (u + 3) (okL_r hu (o := 0) (c := 3) 0 rfl 1 rfl) ?_
  refine k_getR G kc6 (dc d_SR_requireDecree 2 rfl) (okL_lt hu (o := 3) 3 rfl) (okL_k hu (o := 3) 3 rfl) 0 (by decide) rfl fl_RX10_59 (u + 4) (okL_r hu (o := 3) (c := 4) 3 rfl 0 rfl) ?_
  refine k_getR G kc5 (dc d_SR_requireDecree 3 rfl) (okL_lt hu (o := 4) 4 rfl) (okL_k hu (o := 4) 4 rfl) 0 (by decide) rfl fl_RX10_135 (u + 5) (okL_r hu (o := 4) (c := 5) 4 rfl 0 rfl) ?_
  refine k_iload_n G (dc d_SR_requireDecree 4 rfl) 1 rfl rfl ?_
  obtain ⟨x2, e1, h⟩ := kOk_b h
  refine k_cVI G (dc d_SR_requireDecree 5 rfl) kc0 (okL_lt hu (o := 5) 5 rfl) (okL_k hu (o := 5) 5 rfl) mi_De_has mv_De_has rfl ml_RX10_286 (c_De_has (gst G) (okL_sub hu 5 (by decide +kernel)) e1) rfl rfl ⟨rfl, rfl⟩ rfl ⟨rfl, rfl⟩ ⟨rfl, rfl⟩ ?_
  refine k_if_ne G (dc d_SR_requireDecree 6 rfl) (tgt := 28) rfl (fun c3 => ?_) (fun c3 => ?_)
  · replace h := kOk_n c3 h
    exact ((kOk_s h).1 rfl) _ _ _ _ rfl rfl (dc d_SR_requireDecree 12 rfl)
  · replace h := kOk_p c3 h
    exact ((kOk_s h).2 _ rfl).2.2 _ _ _ _ _ 281 289 285 "no such decree" ["java/lang/RuntimeException", "java/lang/Exception"] ts_RX10_281_285 sr_RX10_289 (dc d_SR_requireDecree 7 rfl) (dc d_SR_requireDecree 8 rfl) (dc d_SR_requireDecree 9 rfl) (dc d_SR_requireDecree 10 rfl) (dc d_SR_requireDecree 11 rfl) rfl rfl rfl rfl
theorem c_SR_requireDecree {l : Launch} {B : KB} {L : KLay} {M : KMem} {u : Nat} {p0 : Int32} (hst : l.stackTraces = false) (hx : B.2.2.2 = false) (hu : okL L u srT) {r : Option String} (e : m_SR_requireDecree u p0 M = some r) : CtrX l B yX10_requireDecree cX10_requireDecree 2 none rm_SR_requireDecree [.ref (B.1 + u), .int p0] L M (rV r) M :=
  mkXV hx rfl hst rfl (fun X hl G R => b_SR_requireDecree G hx hu ⟨_, e, R⟩)
def I_SR_decreeOf : List (Nat × Instr × Nat) := [(0, .aload_n 0, 1), (1, .iload_n 1, 1), (2, .invokevirtual 130, 3), (5, .iload_n 2, 1), (6, .ifCond .lt 8, 3), (9, .iload_n 2, 1), (10, .iconst 4, 1), (11, .if_icmp .le 13, 3), (14, .new 33, 3), (17, .dup, 1), (18, .ldc 133, 2), (20, .invokespecial 37, 3), (23, .athrow, 1), (24, .aload_n 0, 1), (25, .getfield 19, 3), (28, .getfield 59, 3), (31, .getfield 135, 3), (34, .iload_n 1, 1), (35, .iload_n 2, 1), (36, .invokevirtual 139, 3), (39, .ireturn, 1)]
set_option maxRecDepth 100000 in
theorem d_SR_decreeOf : decA cX10_decreeOf I_SR_decreeOf = true := by decide +kernel
abbrev rm_SR_decreeOf : Room := ({ frames := 7, cells := 2, slots := 12, locals := 113 } : Room)
def m_SR_decreeOf (u : Nat) (p0 : Int32) (p1 : Int32) (M : KMem) : Option (String ⊕ Int32) :=
 Option.bind (m_SR_requireDecree u p0 M) fun r2 => match r2 with
 | some E3 => some (.inl E3)
 | none =>
 (if p1 < 0 then
 (some (.inl "java/lang/IllegalArgumentException"))
 else
 (if p1 ≤ 4 then
 (Option.bind (m_De_number (u + 5) p0 p1 M) fun x7 =>
 some (.inr x7))
 else
 (some (.inl "java/lang/IllegalArgumentException"))))
set_option maxHeartbeats 4000000 in
set_option maxRecDepth 100000 in
theorem b_SR_decreeOf {X : KX} {B : KB} {L : KLay} {M : KMem} {u : Nat} {p0 : Int32} {p1 : Int32} (G : Good X B RX10 cX10_decreeOf 3 rm_SR_decreeOf) (hx : B.2.2.2 = false) (hu : okL L u srT) (h : kOk (m_SR_decreeOf u p0 p1 M) (fun r => RXI X B L 3 RX10 cX10_decreeOf .int rm_SR_decreeOf r M)) : KK X B L 3 0 0 M 0 [(0, .ref (B.1 + u)), (1, .int p0), (2, .int p1)] [] := by
  unfold m_SR_decreeOf at h
  refine k_aload_n G (dc d_SR_decreeOf 0 rfl) 0 rfl rfl ?_
  refine k_iload_n G (dc d_SR_decreeOf 1 rfl) 1 rfl rfl ?_
  obtain ⟨r2, e1, h⟩ := kOk_b h
  refine k_callVX G (dc d_SR_decreeOf 2 rfl) kc7 (okL_lt hu (o := 0) 0 rfl) (okL_k hu (o := 0) 0 rfl) mi_SR_requireDecree mv_SR_requireDecree rfl ml_RX10_130 (c_SR_requireDecree (gst G) hx hu e1) rfl rfl ⟨rfl, rfl⟩ rfl ⟨rfl, rfl⟩ (fun v9 h9 => ?_) (fun E9 h9 => ?_)
  · obtain ⟨rfl, rfl⟩ := rV_inr h9
    show KK X B L 3 1 6 M 5 [(0, .ref (B.1 + u)), (1, .int p0), (2, .int p1)] []
    refine k_iload_n G (dc d_SR_decreeOf 3 rfl) 2 rfl rfl ?_
    refine k_if_lt G (dc d_SR_decreeOf 4 rfl) (tgt := 14) rfl (fun c4 => ?_) (fun c4 => ?_)
    · replace h := kOk_p c4 h
      exact ((kOk_s h).2 _ rfl).2.1 _ _ _ _ _ 33 133 37 "no such number of a decree" ["java/lang/RuntimeException", "java/lang/Exception"] ts_RX10_33_37 sr_RX10_133 (dc d_SR_decreeOf 8 rfl) (dc d_SR_decreeOf 9 rfl) (dc d_SR_decreeOf 10 rfl) (dc d_SR_decreeOf 11 rfl) (dc d_SR_decreeOf 12 rfl) rfl rfl rfl rfl
    · replace h := kOk_n c4 h
      refine k_iload_n G (dc d_SR_decreeOf 5 rfl) 2 rfl rfl ?_
      refine k_iconst G (dc d_SR_decreeOf 6 rfl) cI_4 ?_
      refine k_icmp_le G (dc d_SR_decreeOf 7 rfl) (tgt := 24) rfl (fun c5 => ?_) (fun c5 => ?_)
      · replace h := kOk_p c5 h
        refine k_aload_n G (dc d_SR_decreeOf 13 rfl) 0 rfl rfl ?_
        refine k_getR G kc7 (dc d_SR_decreeOf 14 rfl) (okL_lt hu (o := 0) 0 rfl) (okL_k hu (o := 0) 0 rfl) 1 (by decide) rfl fl_RX10_19 (u + 3) (okL_r hu (o := 0) (c := 3) 0 rfl 1 rfl) ?_
        refine k_getR G kc6 (dc d_SR_decreeOf 15 rfl) (okL_lt hu (o := 3) 3 rfl) (okL_k hu (o := 3) 3 rfl) 0 (by decide) rfl fl_RX10_59 (u + 4) (okL_r hu (o := 3) (c := 4) 3 rfl 0 rfl) ?_
        refine k_getR G kc5 (dc d_SR_decreeOf 16 rfl) (okL_lt hu (o := 4) 4 rfl) (okL_k hu (o := 4) 4 rfl) 0 (by decide) rfl fl_RX10_135 (u + 5) (okL_r hu (o := 4) (c := 5) 4 rfl 0 rfl) ?_
        refine k_iload_n G (dc d_SR_decreeOf 17 rfl) 1 rfl rfl ?_
        refine k_iload_n G (dc d_SR_decreeOf 18 rfl) 2 rfl rfl ?_
        obtain ⟨x7, e6, h⟩ := kOk_b h
        refine k_cVI G (dc d_SR_decreeOf 19 rfl) kc0 (okL_lt hu (o := 5) 5 rfl) (okL_k hu (o := 5) 5 rfl) mi_De_number mv_De_number rfl ml_RX10_139 (c_De_number (gst G) (okL_sub hu 5 (by decide +kernel)) e6) rfl rfl ⟨rfl, rfl⟩ rfl ⟨rfl, rfl⟩ ⟨rfl, rfl⟩ ?_
        exact ((kOk_s h).1 _ rfl) _ _ _ _ rfl rfl rfl (dc d_SR_decreeOf 20 rfl)
      · replace h := kOk_n c5 h
        exact ((kOk_s h).2 _ rfl).2.1 _ _ _ _ _ 33 133 37 "no such number of a decree" ["java/lang/RuntimeException", "java/lang/Exception"] ts_RX10_33_37 sr_RX10_133 (dc d_SR_decreeOf 8 rfl) (dc d_SR_decreeOf 9 rfl) (dc d_SR_decreeOf 10 rfl) (dc d_SR_decreeOf 11 rfl) (dc d_SR_decreeOf 12 rfl) rfl rfl rfl rfl
  · obtain rfl := rV_inl h9
    exact ((kOk_s h).2 _ rfl).1 _ _ _ _ _ rfl rfl
theorem c_SR_decreeOf {l : Launch} {B : KB} {L : KLay} {M : KMem} {u : Nat} {p0 : Int32} {p1 : Int32} (hst : l.stackTraces = false) (hx : B.2.2.2 = false) (hu : okL L u srT) {r : String ⊕ Int32} (e : m_SR_decreeOf u p0 p1 M = some r) : CtrX l B yX10_decreeOf cX10_decreeOf 3 (some .int) rm_SR_decreeOf [.ref (B.1 + u), .int p0, .int p1] L M (rI r) M :=
  mkXI hx rfl hst rfl (fun X hl G R => b_SR_decreeOf G hx hu ⟨_, e, R⟩)
def I_SR_requireGuild : List (Nat × Instr × Nat) := [(0, .iload_n 0, 1), (1, .ifCond .lt 8, 3), (4, .iload_n 0, 1), (5, .iconst 4, 1), (6, .if_icmp .lt 14, 3), (9, .new 281, 3), (12, .dup, 1), (13, .ldc_w 291, 3), (16, .invokespecial 285, 3), (19, .athrow, 1), (20, .return_, 1)]
set_option maxRecDepth 100000 in
theorem d_SR_requireGuild : decA cX10_requireGuild I_SR_requireGuild = true := by decide +kernel
abbrev rm_SR_requireGuild : Room := ({ frames := 6, cells := 1, slots := 6, locals := 92 } : Room)
def m_SR_requireGuild (p0 : Int32) : Option (Option String) :=
 if p0 < 0 then
 (some (some "java/lang/IndexOutOfBoundsException"))
 else
 (if p0 < 4 then
 (some none)
 else
 (some (some "java/lang/IndexOutOfBoundsException")))
set_option maxHeartbeats 4000000 in
set_option maxRecDepth 100000 in
theorem b_SR_requireGuild {X : KX} {B : KB} {L : KLay} {M : KMem} {p0 : Int32} (G : Good X B RX10 cX10_requireGuild 1 rm_SR_requireGuild) (hx : B.2.2.2 = false)  (h : kOk (m_SR_requireGuild p0) (fun r => RXV X B L 1 RX10 cX10_requireGuild rm_SR_requireGuild r M)) : KK X B L 1 0 0 M 0 [(0, .int p0)] [] := by
  unfold m_SR_requireGuild at h
  refine k_iload_n G (dc d_SR_requireGuild 0 rfl) 0 rfl rfl ?_
  refine k_if_lt G (dc d_SR_requireGuild 1 rfl) (tgt := 9) rfl (fun c1 => ?_) (fun c1 => ?_)
  · replace h := kOk_p c1 h
    exact ((kOk_s h).2 _ rfl).2.2 _ _ _ _ _ 281 291 285 "no such guild" ["java/lang/RuntimeException", "java/lang/Exception"] ts_RX10_281_285 sr_RX10_291 (dc d_SR_requireGuild 5 rfl) (dc d_SR_requireGuild 6 rfl) (dc d_SR_requireGuild 7 rfl) (dc d_SR_requireGuild 8 rfl) (dc d_SR_requireGuild 9 rfl) rfl rfl rfl rfl
  · replace h := kOk_n c1 h
    refine k_iload_n G (dc d_SR_requireGuild 2 rfl) 0 rfl rfl ?_
    refine k_iconst G (dc d_SR_requireGuild 3 rfl) cI_4 ?_
    refine k_icmp_lt G (dc d_SR_requireGuild 4 rfl) (tgt := 20) rfl (fun c2 => ?_) (fun c2 => ?_)
    · replace h := kOk_p c2 h
      exact ((kOk_s h).1 rfl) _ _ _ _ rfl rfl (dc d_SR_requireGuild 10 rfl)
    · replace h := kOk_n c2 h
      exact ((kOk_s h).2 _ rfl).2.2 _ _ _ _ _ 281 291 285 "no such guild" ["java/lang/RuntimeException", "java/lang/Exception"] ts_RX10_281_285 sr_RX10_291 (dc d_SR_requireGuild 5 rfl) (dc d_SR_requireGuild 6 rfl) (dc d_SR_requireGuild 7 rfl) (dc d_SR_requireGuild 8 rfl) (dc d_SR_requireGuild 9 rfl) rfl rfl rfl rfl
theorem c_SR_requireGuild {l : Launch} {B : KB} {L : KLay} {M : KMem} {p0 : Int32} (hst : l.stackTraces = false) (hx : B.2.2.2 = false)  {r : Option String} (e : m_SR_requireGuild p0 = some r) : CtrX l B yX10_requireGuild cX10_requireGuild 1 none rm_SR_requireGuild [.int p0] L M (rV r) M :=
  mkXV hx rfl hst rfl (fun X hl G R => b_SR_requireGuild G hx  ⟨_, e, R⟩)
def I_SR_guildOf : List (Nat × Instr × Nat) := [(0, .iload_n 1, 1), (1, .invokestatic 143, 3), (4, .iload_n 2, 1), (5, .ifCond .lt 8, 3), (8, .iload_n 2, 1), (9, .iconst 3, 1), (10, .if_icmp .le 13, 3), (13, .new 33, 3), (16, .dup, 1), (17, .ldc 146, 2), (19, .invokespecial 37, 3), (22, .athrow, 1), (23, .aload_n 0, 1), (24, .getfield 19, 3), (27, .iload_n 1, 1), (28, .iload_n 2, 1), (29, .invokevirtual 148, 3), (32, .ireturn, 1)]
set_option maxRecDepth 100000 in
theorem d_SR_guildOf : decA cX10_guildOf I_SR_guildOf = true := by decide +kernel
abbrev rm_SR_guildOf : Room := ({ frames := 7, cells := 2, slots := 12, locals := 112 } : Room)
def m_SR_guildOf (u : Nat) (p0 : Int32) (p1 : Int32) (M : KMem) : Option (String ⊕ Int32) :=
 Option.bind (m_SR_requireGuild p0) fun r2 => match r2 with
 | some E3 => some (.inl E3)
 | none =>
 (if p1 < 0 then
 (some (.inl "java/lang/IllegalArgumentException"))
 else
 (if p1 ≤ 3 then
 (Option.bind (m_Tw_numberOfGuild (u + 3) p0 p1 M) fun x7 =>
 some (.inr x7))
 else
 (some (.inl "java/lang/IllegalArgumentException"))))
set_option maxHeartbeats 4000000 in
set_option maxRecDepth 100000 in
theorem b_SR_guildOf {X : KX} {B : KB} {L : KLay} {M : KMem} {u : Nat} {p0 : Int32} {p1 : Int32} (G : Good X B RX10 cX10_guildOf 3 rm_SR_guildOf) (hx : B.2.2.2 = false) (hu : okL L u srT) (h : kOk (m_SR_guildOf u p0 p1 M) (fun r => RXI X B L 3 RX10 cX10_guildOf .int rm_SR_guildOf r M)) : KK X B L 3 0 0 M 0 [(0, .ref (B.1 + u)), (1, .int p0), (2, .int p1)] [] := by
  unfold m_SR_guildOf at h
  refine k_iload_n G (dc d_SR_guildOf 0 rfl) 1 rfl rfl ?_
  obtain ⟨r2, e1, h⟩ := kOk_b h
  refine k_callSX G (dc d_SR_guildOf 1 rfl) mi_SR_requireGuild ms_SR_requireGuild ml_RX10_143 (c_SR_requireGuild (gst G) hx  e1) rfl rfl ⟨rfl, rfl⟩ rfl ⟨rfl, rfl⟩ (fun v9 h9 => ?_) (fun E9 h9 => ?_)
  · obtain ⟨rfl, rfl⟩ := rV_inr h9
    show KK X B L 3 1 6 M 4 [(0, .ref (B.1 + u)), (1, .int p0), (2, .int p1)] []
    refine k_iload_n G (dc d_SR_guildOf 2 rfl) 2 rfl rfl ?_
    refine k_if_lt G (dc d_SR_guildOf 3 rfl) (tgt := 13) rfl (fun c4 => ?_) (fun c4 => ?_)
    · replace h := kOk_p c4 h
      exact ((kOk_s h).2 _ rfl).2.1 _ _ _ _ _ 33 146 37 "no such number of a guild" ["java/lang/RuntimeException", "java/lang/Exception"] ts_RX10_33_37 sr_RX10_146 (dc d_SR_guildOf 7 rfl) (dc d_SR_guildOf 8 rfl) (dc d_SR_guildOf 9 rfl) (dc d_SR_guildOf 10 rfl) (dc d_SR_guildOf 11 rfl) rfl rfl rfl rfl
    · replace h := kOk_n c4 h
      refine k_iload_n G (dc d_SR_guildOf 4 rfl) 2 rfl rfl ?_
      refine k_iconst G (dc d_SR_guildOf 5 rfl) cI_3 ?_
      refine k_icmp_le G (dc d_SR_guildOf 6 rfl) (tgt := 23) rfl (fun c5 => ?_) (fun c5 => ?_)
      · replace h := kOk_p c5 h
        refine k_aload_n G (dc d_SR_guildOf 12 rfl) 0 rfl rfl ?_
        refine k_getR G kc7 (dc d_SR_guildOf 13 rfl) (okL_lt hu (o := 0) 0 rfl) (okL_k hu (o := 0) 0 rfl) 1 (by decide) rfl fl_RX10_19 (u + 3) (okL_r hu (o := 0) (c := 3) 0 rfl 1 rfl) ?_
        refine k_iload_n G (dc d_SR_guildOf 14 rfl) 1 rfl rfl ?_
        refine k_iload_n G (dc d_SR_guildOf 15 rfl) 2 rfl rfl ?_
        obtain ⟨x7, e6, h⟩ := kOk_b h
        refine k_cVI G (dc d_SR_guildOf 16 rfl) kc6 (okL_lt hu (o := 3) 3 rfl) (okL_k hu (o := 3) 3 rfl) mi_Tw_numberOfGuild mv_Tw_numberOfGuild rfl ml_RX10_148 (c_Tw_numberOfGuild (gst G) (okL_sub hu 3 (by decide +kernel)) e6) rfl rfl ⟨rfl, rfl⟩ rfl ⟨rfl, rfl⟩ ⟨rfl, rfl⟩ ?_
        exact ((kOk_s h).1 _ rfl) _ _ _ _ rfl rfl rfl (dc d_SR_guildOf 17 rfl)
      · replace h := kOk_n c5 h
        exact ((kOk_s h).2 _ rfl).2.1 _ _ _ _ _ 33 146 37 "no such number of a guild" ["java/lang/RuntimeException", "java/lang/Exception"] ts_RX10_33_37 sr_RX10_146 (dc d_SR_guildOf 7 rfl) (dc d_SR_guildOf 8 rfl) (dc d_SR_guildOf 9 rfl) (dc d_SR_guildOf 10 rfl) (dc d_SR_guildOf 11 rfl) rfl rfl rfl rfl
  · obtain rfl := rV_inl h9
    exact ((kOk_s h).2 _ rfl).1 _ _ _ _ _ rfl rfl
theorem c_SR_guildOf {l : Launch} {B : KB} {L : KLay} {M : KMem} {u : Nat} {p0 : Int32} {p1 : Int32} (hst : l.stackTraces = false) (hx : B.2.2.2 = false) (hu : okL L u srT) {r : String ⊕ Int32} (e : m_SR_guildOf u p0 p1 M = some r) : CtrX l B yX10_guildOf cX10_guildOf 3 (some .int) rm_SR_guildOf [.ref (B.1 + u), .int p0, .int p1] L M (rI r) M :=
  mkXI hx rfl hst rfl (fun X hl G R => b_SR_guildOf G hx hu ⟨_, e, R⟩)
def I_SR_right : List (Nat × Instr × Nat) := [(0, .aload_n 0, 1), (1, .iload_n 1, 1), (2, .invokevirtual 122, 3), (5, .iload_n 2, 1), (6, .ifCond .eq 18, 3), (9, .iload_n 2, 1), (10, .iconst 1, 1), (11, .if_icmp .eq 13, 3), (14, .new 33, 3), (17, .dup, 1), (18, .ldc 151, 2), (20, .invokespecial 37, 3), (23, .athrow, 1), (24, .aload_n 0, 1), (25, .getfield 19, 3), (28, .iload_n 1, 1), (29, .iload_n 2, 1), (30, .iconst 1, 1), (31, .if_icmp .ne 7, 3), (34, .iconst 1, 1), (35, .goto 4, 3), (38, .iconst 0, 1), (39, .invokevirtual 153, 3), (42, .ireturn, 1)]
set_option maxRecDepth 100000 in
theorem d_SR_right : decA cX10_right I_SR_right = true := by decide +kernel
abbrev rm_SR_right : Room := ({ frames := 7, cells := 2, slots := 12, locals := 168 } : Room)
def m_SR_right (u : Nat) (p0 : Int32) (p1 : Int32) (M : KMem) : Option ((String ⊕ Int32) × KMem) :=
 Option.bind (m_SR_requireSign u p0 M) fun r2 => match r2 with
 | some E3 => some (.inl E3, M)
 | none =>
 (if p1 = 0 then
 (Option.bind (α := Int32) (if p1 = 1 then
 (some 1)
 else
 (some 0)) fun t5 =>
 Option.bind (m_Tw_spelled (u + 3) p0 t5 M) fun (x8, M9) =>
 some (.inr x8, M9))
 else
 (if p1 = 1 then
 (Option.bind (α := Int32) (if p1 = 1 then
 (some 1)
 else
 (some 0)) fun t12 =>
 Option.bind (m_Tw_spelled (u + 3) p0 t12 M) fun (x15, M16) =>
 some (.inr x15, M16))
 else
 (some (.inl "java/lang/IllegalArgumentException", M))))
set_option maxHeartbeats 4000000 in
set_option maxRecDepth 100000 in
theorem b_SR_right {X : KX} {B : KB} {L : KLay} {M : KMem} {u : Nat} {p0 : Int32} {p1 : Int32} (G : Good X B RX10 cX10_right 3 rm_SR_right) (hx : B.2.2.2 = false) (hu : okL L u srT) (h : kOk (m_SR_right u p0 p1 M) (fun r => RXI X B L 3 RX10 cX10_right .int rm_SR_right r.1 r.2)) : KK X B L 3 0 0 M 0 [(0, .ref (B.1 + u)), (1, .int p0), (2, .int p1)] [] := by
  unfold m_SR_right at h
  refine k_aload_n G (dc d_SR_right 0 rfl) 0 rfl rfl ?_
  refine k_iload_n G (dc d_SR_right 1 rfl) 1 rfl rfl ?_
  obtain ⟨r2, e1, h⟩ := kOk_b h
  refine k_callVX G (dc d_SR_right 2 rfl) kc7 (okL_lt hu (o := 0) 0 rfl) (okL_k hu (o := 0) 0 rfl) mi_SR_requireSign mv_SR_requireSign rfl ml_RX10_122 (c_SR_requireSign (gst G) hx hu e1) rfl rfl ⟨rfl, rfl⟩ rfl ⟨rfl, rfl⟩ (fun v9 h9 => ?_) (fun E9 h9 => ?_)
  · obtain ⟨rfl, rfl⟩ := rV_inr h9
    show KK X B L 3 1 6 M 5 [(0, .ref (B.1 + u)), (1, .int p0), (2, .int p1)] []
    refine k_iload_n G (dc d_SR_right 3 rfl) 2 rfl rfl ?_
    refine k_if_eq G (dc d_SR_right 4 rfl) (tgt := 24) rfl (fun c4 => ?_) (fun c4 => ?_)
    · replace h := kOk_p c4 h
      refine k_aload_n G (dc d_SR_right 13 rfl) 0 rfl rfl ?_
      refine k_getR G kc7 (dc d_SR_right 14 rfl) (okL_lt hu (o := 0) 0 rfl) (okL_k hu (o := 0) 0 rfl) 1 (by decide) rfl fl_RX10_19 (u + 3) (okL_r hu (o := 0) (c := 3) 0 rfl 1 rfl) ?_
      refine k_iload_n G (dc d_SR_right 15 rfl) 1 rfl rfl ?_
      refine k_iload_n G (dc d_SR_right 16 rfl) 2 rfl rfl ?_
      refine k_iconst G (dc d_SR_right 17 rfl) cI_1 ?_
      refine kJ h (fun r6 => KK X B L 3 1 6 M 39 [] [.int r6, .int p0, .ref (B.1 + (u + 3))]) (fun r6 h => ?_) (fun h => ?_)
      · obtain ⟨t5, rfl⟩ : ∃ z, z = r6 := ⟨_, rfl⟩
        show KK X B L 3 1 6 M 39 [] [.int t5, .int p0, .ref (B.1 + (u + 3))]
        obtain ⟨⟨x8, M9⟩, e7, h⟩ := kOk_b h
        refine k_cVI G (dc d_SR_right 22 rfl) kc6 (okL_lt hu (o := 3) 3 rfl) (okL_k hu (o := 3) 3 rfl) mi_Tw_spelled mv_Tw_spelled rfl ml_RX10_153 (c_Tw_spelled (gst G) (okL_sub hu 3 (by decide +kernel)) e7) rfl rfl ⟨rfl, rfl⟩ rfl ⟨rfl, rfl⟩ ⟨rfl, rfl⟩ ?_
        exact ((kOk_s h).1 _ rfl) _ _ _ _ rfl rfl rfl (dc d_SR_right 23 rfl)
      · refine k_icmp_ne G (dc d_SR_right 18 rfl) (tgt := 38) rfl (fun c10 => ?_) (fun c10 => ?_)
        · replace h := kOk_n c10 h
          refine k_iconst G (dc d_SR_right 21 rfl) cI_0 ?_
          refine k_sub [] rfl ?_
          have h9 := kOk_s h
          exact h9
        · replace h := kOk_p c10 h
          refine k_iconst G (dc d_SR_right 19 rfl) cI_1 ?_
          refine k_goto G (dc d_SR_right 20 rfl) (tgt := 39) rfl ?_
          refine k_sub [] rfl ?_
          have h9 := kOk_s h
          exact h9
    · replace h := kOk_n c4 h
      refine k_iload_n G (dc d_SR_right 5 rfl) 2 rfl rfl ?_
      refine k_iconst G (dc d_SR_right 6 rfl) cI_1 ?_
      refine k_icmp_eq G (dc d_SR_right 7 rfl) (tgt := 24) rfl (fun c11 => ?_) (fun c11 => ?_)
      · replace h := kOk_p c11 h
        refine k_aload_n G (dc d_SR_right 13 rfl) 0 rfl rfl ?_
        refine k_getR G kc7 (dc d_SR_right 14 rfl) (okL_lt hu (o := 0) 0 rfl) (okL_k hu (o := 0) 0 rfl) 1 (by decide) rfl fl_RX10_19 (u + 3) (okL_r hu (o := 0) (c := 3) 0 rfl 1 rfl) ?_
        refine k_iload_n G (dc d_SR_right 15 rfl) 1 rfl rfl ?_
        refine k_iload_n G (dc d_SR_right 16 rfl) 2 rfl rfl ?_
        refine k_iconst G (dc d_SR_right 17 rfl) cI_1 ?_
        refine kJ h (fun r13 => KK X B L 3 1 6 M 39 [] [.int r13, .int p0, .ref (B.1 + (u + 3))]) (fun r13 h => ?_) (fun h => ?_)
        · obtain ⟨t12, rfl⟩ : ∃ z, z = r13 := ⟨_, rfl⟩
          show KK X B L 3 1 6 M 39 [] [.int t12, .int p0, .ref (B.1 + (u + 3))]
          obtain ⟨⟨x15, M16⟩, e14, h⟩ := kOk_b h
          refine k_cVI G (dc d_SR_right 22 rfl) kc6 (okL_lt hu (o := 3) 3 rfl) (okL_k hu (o := 3) 3 rfl) mi_Tw_spelled mv_Tw_spelled rfl ml_RX10_153 (c_Tw_spelled (gst G) (okL_sub hu 3 (by decide +kernel)) e14) rfl rfl ⟨rfl, rfl⟩ rfl ⟨rfl, rfl⟩ ⟨rfl, rfl⟩ ?_
          exact ((kOk_s h).1 _ rfl) _ _ _ _ rfl rfl rfl (dc d_SR_right 23 rfl)
        · refine k_icmp_ne G (dc d_SR_right 18 rfl) (tgt := 38) rfl (fun c17 => ?_) (fun c17 => ?_)
          · replace h := kOk_n c17 h
            refine k_iconst G (dc d_SR_right 21 rfl) cI_0 ?_
            refine k_sub [] rfl ?_
            have h9 := kOk_s h
            exact h9
          · replace h := kOk_p c17 h
            refine k_iconst G (dc d_SR_right 19 rfl) cI_1 ?_
            refine k_goto G (dc d_SR_right 20 rfl) (tgt := 39) rfl ?_
            refine k_sub [] rfl ?_
            have h9 := kOk_s h
            exact h9
      · replace h := kOk_n c11 h
        exact ((kOk_s h).2 _ rfl).2.1 _ _ _ _ _ 33 151 37 "no such way" ["java/lang/RuntimeException", "java/lang/Exception"] ts_RX10_33_37 sr_RX10_151 (dc d_SR_right 8 rfl) (dc d_SR_right 9 rfl) (dc d_SR_right 10 rfl) (dc d_SR_right 11 rfl) (dc d_SR_right 12 rfl) rfl rfl rfl rfl
  · obtain rfl := rV_inl h9
    exact ((kOk_s h).2 _ rfl).1 _ _ _ _ _ rfl rfl
theorem c_SR_right {l : Launch} {B : KB} {L : KLay} {M : KMem} {u : Nat} {p0 : Int32} {p1 : Int32} (hst : l.stackTraces = false) (hx : B.2.2.2 = false) (hu : okL L u srT) {r : String ⊕ Int32} {M' : KMem} (e : m_SR_right u p0 p1 M = some (r, M')) : CtrX l B yX10_right cX10_right 3 (some .int) rm_SR_right [.ref (B.1 + u), .int p0, .int p1] L M (rI r) M' :=
  mkXI hx rfl hst rfl (fun X hl G R => b_SR_right G hx hu ⟨_, e, R⟩)
def I_SR_requireSetting : List (Nat × Instr × Nat) := [(0, .iload_n 0, 1), (1, .ifCond .lt 8, 3), (4, .iload_n 0, 1), (5, .iconst 2, 1), (6, .if_icmp .lt 14, 3), (9, .new 33, 3), (12, .dup, 1), (13, .ldc_w 295, 3), (16, .invokespecial 37, 3), (19, .athrow, 1), (20, .return_, 1)]
set_option maxRecDepth 100000 in
theorem d_SR_requireSetting : decA cX10_requireSetting I_SR_requireSetting = true := by decide +kernel
abbrev rm_SR_requireSetting : Room := ({ frames := 6, cells := 1, slots := 6, locals := 92 } : Room)
def m_SR_requireSetting (p0 : Int32) : Option (Option String) :=
 if p0 < 0 then
 (some (some "java/lang/IllegalArgumentException"))
 else
 (if p0 < 2 then
 (some none)
 else
 (some (some "java/lang/IllegalArgumentException")))
set_option maxHeartbeats 4000000 in
set_option maxRecDepth 100000 in
theorem b_SR_requireSetting {X : KX} {B : KB} {L : KLay} {M : KMem} {p0 : Int32} (G : Good X B RX10 cX10_requireSetting 1 rm_SR_requireSetting) (hx : B.2.2.2 = false)  (h : kOk (m_SR_requireSetting p0) (fun r => RXV X B L 1 RX10 cX10_requireSetting rm_SR_requireSetting r M)) : KK X B L 1 0 0 M 0 [(0, .int p0)] [] := by
  unfold m_SR_requireSetting at h
  refine k_iload_n G (dc d_SR_requireSetting 0 rfl) 0 rfl rfl ?_
  refine k_if_lt G (dc d_SR_requireSetting 1 rfl) (tgt := 9) rfl (fun c1 => ?_) (fun c1 => ?_)
  · replace h := kOk_p c1 h
    exact ((kOk_s h).2 _ rfl).2.2 _ _ _ _ _ 33 295 37 "no such setting" ["java/lang/RuntimeException", "java/lang/Exception"] ts_RX10_33_37 sr_RX10_295 (dc d_SR_requireSetting 5 rfl) (dc d_SR_requireSetting 6 rfl) (dc d_SR_requireSetting 7 rfl) (dc d_SR_requireSetting 8 rfl) (dc d_SR_requireSetting 9 rfl) rfl rfl rfl rfl
  · replace h := kOk_n c1 h
    refine k_iload_n G (dc d_SR_requireSetting 2 rfl) 0 rfl rfl ?_
    refine k_iconst G (dc d_SR_requireSetting 3 rfl) cI_2 ?_
    refine k_icmp_lt G (dc d_SR_requireSetting 4 rfl) (tgt := 20) rfl (fun c2 => ?_) (fun c2 => ?_)
    · replace h := kOk_p c2 h
      exact ((kOk_s h).1 rfl) _ _ _ _ rfl rfl (dc d_SR_requireSetting 10 rfl)
    · replace h := kOk_n c2 h
      exact ((kOk_s h).2 _ rfl).2.2 _ _ _ _ _ 33 295 37 "no such setting" ["java/lang/RuntimeException", "java/lang/Exception"] ts_RX10_33_37 sr_RX10_295 (dc d_SR_requireSetting 5 rfl) (dc d_SR_requireSetting 6 rfl) (dc d_SR_requireSetting 7 rfl) (dc d_SR_requireSetting 8 rfl) (dc d_SR_requireSetting 9 rfl) rfl rfl rfl rfl
theorem c_SR_requireSetting {l : Launch} {B : KB} {L : KLay} {M : KMem} {p0 : Int32} (hst : l.stackTraces = false) (hx : B.2.2.2 = false)  {r : Option String} (e : m_SR_requireSetting p0 = some r) : CtrX l B yX10_requireSetting cX10_requireSetting 1 none rm_SR_requireSetting [.int p0] L M (rV r) M :=
  mkXV hx rfl hst rfl (fun X hl G R => b_SR_requireSetting G hx  ⟨_, e, R⟩)
def I_SR_setting : List (Nat × Instr × Nat) := [(0, .iload_n 1, 1), (1, .invokestatic 157, 3), (4, .aload_n 0, 1), (5, .getfield 19, 3), (8, .getfield 59, 3), (11, .getfield 160, 3), (14, .iload_n 1, 1), (15, .iaload, 1), (16, .ireturn, 1)]
set_option maxRecDepth 100000 in
theorem d_SR_setting : decA cX10_setting I_SR_setting = true := by decide +kernel
abbrev rm_SR_setting : Room := ({ frames := 7, cells := 1, slots := 6, locals := 112 } : Room)
def m_SR_setting (u : Nat) (p0 : Int32) (M : KMem) : Option (String ⊕ Int32) :=
 Option.bind (m_SR_requireSetting p0) fun r2 => match r2 with
 | some E3 => some (.inl E3)
 | none =>
 (Option.bind (rdI M (u + 15) 2 p0) fun x5 =>
 some (.inr x5))
set_option maxHeartbeats 4000000 in
set_option maxRecDepth 100000 in
theorem b_SR_setting {X : KX} {B : KB} {L : KLay} {M : KMem} {u : Nat} {p0 : Int32} (G : Good X B RX10 cX10_setting 2 rm_SR_setting) (hx : B.2.2.2 = false) (hu : okL L u srT) (h : kOk (m_SR_setting u p0 M) (fun r => RXI X B L 2 RX10 cX10_setting .int rm_SR_setting r M)) : KK X B L 2 0 0 M 0 [(0, .ref (B.1 + u)), (1, .int p0)] [] := by
  unfold m_SR_setting at h
  refine k_iload_n G (dc d_SR_setting 0 rfl) 1 rfl rfl ?_
  obtain ⟨r2, e1, h⟩ := kOk_b h
  refine k_callSX G (dc d_SR_setting 1 rfl) mi_SR_requireSetting ms_SR_requireSetting ml_RX10_157 (c_SR_requireSetting (gst G) hx  e1) rfl rfl ⟨rfl, rfl⟩ rfl ⟨rfl, rfl⟩ (fun v9 h9 => ?_) (fun E9 h9 => ?_)
  · obtain ⟨rfl, rfl⟩ := rV_inr h9
    show KK X B L 2 1 6 M 4 [(0, .ref (B.1 + u)), (1, .int p0)] []
    refine k_aload_n G (dc d_SR_setting 2 rfl) 0 rfl rfl ?_
    refine k_getR G kc7 (dc d_SR_setting 3 rfl) (okL_lt hu (o := 0) 0 rfl) (okL_k hu (o := 0) 0 rfl) 1 (by decide) rfl fl_RX10_19 (u + 3) (okL_r hu (o := 0) (c := 3) 0 rfl 1 rfl) ?_
    refine k_getR G kc6 (dc d_SR_setting 4 rfl) (okL_lt hu (o := 3) 3 rfl) (okL_k hu (o := 3) 3 rfl) 0 (by decide) rfl fl_RX10_59 (u + 4) (okL_r hu (o := 3) (c := 4) 3 rfl 0 rfl) ?_
    refine k_getR G kc5 (dc d_SR_setting 5 rfl) (okL_lt hu (o := 4) 4 rfl) (okL_k hu (o := 4) 4 rfl) 10 (by decide) rfl fl_RX10_160 (u + 15) (okL_r hu (o := 4) (c := 15) 4 rfl 9 rfl) ?_
    refine k_iload_n G (dc d_SR_setting 6 rfl) 1 rfl rfl ?_
    obtain ⟨x5, e4, h⟩ := kOk_b h
    refine k_ild G (dc d_SR_setting 7 rfl) (okL_lt hu (o := 15) 15 rfl) (okL_k hu (o := 15) 15 rfl) (okL_n hu (o := 15) 15 rfl) e4 ?_
    exact ((kOk_s h).1 _ rfl) _ _ _ _ rfl rfl rfl (dc d_SR_setting 8 rfl)
  · obtain rfl := rV_inl h9
    exact ((kOk_s h).2 _ rfl).1 _ _ _ _ _ rfl rfl
theorem c_SR_setting {l : Launch} {B : KB} {L : KLay} {M : KMem} {u : Nat} {p0 : Int32} (hst : l.stackTraces = false) (hx : B.2.2.2 = false) (hu : okL L u srT) {r : String ⊕ Int32} (e : m_SR_setting u p0 M = some r) : CtrX l B yX10_setting cX10_setting 2 (some .int) rm_SR_setting [.ref (B.1 + u), .int p0] L M (rI r) M :=
  mkXI hx rfl hst rfl (fun X hl G R => b_SR_setting G hx hu ⟨_, e, R⟩)
