/-! laid by wip/whole/lay.py: SR_simulate, SR_requireSlot, SR_save, SR_restore -/
def I_SR_simulate : List (Nat × Instr × Nat) := [(0, .iload_n 3, 1), (1, .iconst 1, 1), (2, .if_icmp .lt 9, 3), (5, .iload_n 3, 1), (6, .bipush 60, 2), (8, .if_icmp .le 13, 3), (11, .new 33, 3), (14, .dup, 1), (15, .ldc 239, 2), (17, .invokespecial 37, 3), (20, .athrow, 1), (21, .aload_n 0, 1), (22, .getfield 23, 3), (25, .getfield 59, 3), (28, .aload_n 0, 1), (29, .getfield 19, 3), (32, .getfield 59, 3), (35, .invokevirtual 230, 3), (38, .aload_n 0, 1), (39, .getfield 23, 3), (42, .invokevirtual 241, 3), (45, .istore 4, 2), (47, .lload_n 1, 1), (48, .lstore 5, 2), (50, .iconst 0, 1), (51, .istore 7, 2), (53, .iload 7, 2), (55, .iload_n 3, 1), (56, .if_icmp .ge 34, 3), (59, .lload 5, 2), (61, .ldc2_w 244, 3), (64, .lmul, 1), (65, .ldc2_w 246, 3), (68, .ladd, 1), (69, .lstore 5, 2), (71, .aload_n 0, 1), (72, .getfield 23, 3), (75, .lload 5, 2), (77, .bipush 33, 2), (79, .lushr, 1), (80, .l2i, 1), (81, .invokestatic 248, 3), (84, .iinc 7 1, 3), (87, .goto (-34), 3), (90, .aload_n 0, 1), (91, .getfield 23, 3), (94, .invokevirtual 241, 3), (97, .iload 4, 2), (99, .isub, 1), (100, .istore 7, 2), (102, .sipush 10000, 3), (105, .iload 7, 2), (107, .sipush 10000, 3), (110, .irem, 1), (111, .imul, 1), (112, .bipush 100, 2), (114, .aload_n 0, 1), (115, .getfield 23, 3), (118, .invokevirtual 254, 3), (121, .imul, 1), (122, .iadd, 1), (123, .bipush 10, 2), (125, .aload_n 0, 1), (126, .getfield 23, 3), (129, .invokevirtual 257, 3), (132, .imul, 1), (133, .iadd, 1), (134, .aload_n 0, 1), (135, .getfield 23, 3), (138, .getfield 59, 3), (141, .getfield 172, 3), (144, .iadd, 1), (145, .ireturn, 1)]
set_option maxRecDepth 100000 in
theorem d_SR_simulate : decA cX10_simulate I_SR_simulate = true := by decide +kernel
abbrev rm_SR_simulate : Room := ({ frames := 7, cells := 1, slots := 6, locals := 159 } : Room)
def m_SR_simulate_l53 (u : Nat) (p1 : Int32) : (Int64 × Int32 × KMem) → Option ((Int64 × Int32 × KMem) ⊕ KMem) := fun (v5_7, v7_8, M9) =>
 if p1 ≤ v7_8 then
 (some (.inr M9))
 else
 (Option.bind (m_Si_takeTurn (u + 21) ((jushrL ((v5_7 * 6364136223846793005) + 1442695040888963407) 33).toInt32) M9) fun M12 =>
 some (.inl ((v5_7 * 6364136223846793005) + 1442695040888963407, v7_8 + 1, M12)))
def m_SR_simulate (u : Nat) (p0 : Int64) (p1 : Int32) (M : KMem) : Option ((String ⊕ Int32) × KMem) :=
 if p1 < 1 then
 (some (.inl "java/lang/IllegalArgumentException", M))
 else
 (if p1 ≤ 60 then
 (Option.bind (m_St_copyFrom (u + 22) (u + 4) M) fun M4 =>
 Option.bind (m_Tw_allFines (u + 21) M4) fun x6 =>
 Option.bind (α := KMem) (kLp (m_SR_simulate_l53 u p1) kFU (p0, 0, M4)) fun M13 =>
 Option.bind (m_Tw_allFines (u + 21) M13) fun x15 =>
 Option.bind (m_Tw_lettersOfRights (u + 21) M13) fun x17 =>
 Option.bind (m_Tw_wrongSigns (u + 21) M13) fun x19 =>
 some (.inr ((((10000 * (jrem (x15 - x6) 10000)) + (100 * x17)) + (10 * x19)) + (M13 (u + 22) 1)), M13))
 else
 (some (.inl "java/lang/IllegalArgumentException", M)))
set_option maxHeartbeats 4000000 in
set_option maxRecDepth 100000 in
theorem b_SR_simulate {X : KX} {B : KB} {L : KLay} {M : KMem} {u : Nat} {p0 : Int64} {p1 : Int32} (G : Good X B RX10 cX10_simulate 8 rm_SR_simulate) (hx : B.2.2.2 = false) (hu : okL L u srT) (h : kOk (m_SR_simulate u p0 p1 M) (fun r => RXI X B L 8 RX10 cX10_simulate .int rm_SR_simulate r.1 r.2)) : KK X B L 8 0 0 M 0 [(0, .ref (B.1 + u)), (1, .long p0), (3, .int p1)] [] := by
  unfold m_SR_simulate at h
  refine k_iload_n G (dc d_SR_simulate 0 rfl) 2 rfl rfl ?_
  refine k_iconst G (dc d_SR_simulate 1 rfl) cI_1 ?_
  refine k_icmp_lt G (dc d_SR_simulate 2 rfl) (tgt := 11) rfl (fun c1 => ?_) (fun c1 => ?_)
  · replace h := kOk_p c1 h
    exact ((kOk_s h).2 _ rfl).2.1 _ _ _ _ _ 33 239 37 "no such number of turns" ["java/lang/RuntimeException", "java/lang/Exception"] ts_RX10_33_37 sr_RX10_239 (dc d_SR_simulate 6 rfl) (dc d_SR_simulate 7 rfl) (dc d_SR_simulate 8 rfl) (dc d_SR_simulate 9 rfl) (dc d_SR_simulate 10 rfl) rfl rfl rfl rfl
  · replace h := kOk_n c1 h
    refine k_iload_n G (dc d_SR_simulate 3 rfl) 2 rfl rfl ?_
    refine k_bipush G (dc d_SR_simulate 4 rfl) cB_60 ?_
    refine k_icmp_le G (dc d_SR_simulate 5 rfl) (tgt := 21) rfl (fun c2 => ?_) (fun c2 => ?_)
    · replace h := kOk_p c2 h
      refine k_aload_n G (dc d_SR_simulate 11 rfl) 0 rfl rfl ?_
      refine k_getR G kc7 (dc d_SR_simulate 12 rfl) (okL_lt hu (o := 0) 0 rfl) (okL_k hu (o := 0) 0 rfl) 2 (by decide) rfl fl_RX10_23 (u + 21) (okL_r hu (o := 0) (c := 21) 0 rfl 2 rfl) ?_
      refine k_getR G kc6 (dc d_SR_simulate 13 rfl) (okL_lt hu (o := 21) 21 rfl) (okL_k hu (o := 21) 21 rfl) 0 (by decide) rfl fl_RX10_59 (u + 22) (okL_r hu (o := 21) (c := 22) 21 rfl 0 rfl) ?_
      refine k_aload_n G (dc d_SR_simulate 14 rfl) 0 rfl rfl ?_
      refine k_getR G kc7 (dc d_SR_simulate 15 rfl) (okL_lt hu (o := 0) 0 rfl) (okL_k hu (o := 0) 0 rfl) 1 (by decide) rfl fl_RX10_19 (u + 3) (okL_r hu (o := 0) (c := 3) 0 rfl 1 rfl) ?_
      refine k_getR G kc6 (dc d_SR_simulate 16 rfl) (okL_lt hu (o := 3) 3 rfl) (okL_k hu (o := 3) 3 rfl) 0 (by decide) rfl fl_RX10_59 (u + 4) (okL_r hu (o := 3) (c := 4) 3 rfl 0 rfl) ?_
      obtain ⟨M4, e3, h⟩ := kOk_b h
      refine k_cVV G (dc d_SR_simulate 17 rfl) kc5 (okL_lt hu (o := 22) 22 rfl) (okL_k hu (o := 22) 22 rfl) mi_St_copyFrom mv_St_copyFrom rfl ml_RX10_230 (c_St_copyFrom (gst G) hx (okL_sub hu 22 (by decide +kernel)) (okL_sub hu 4 (by decide +kernel)) e3) rfl rfl ⟨rfl, rfl⟩ rfl ⟨rfl, rfl⟩ ⟨rfl, rfl⟩ ?_
      refine k_aload_n G (dc d_SR_simulate 18 rfl) 0 rfl rfl ?_
      refine k_getR G kc7 (dc d_SR_simulate 19 rfl) (okL_lt hu (o := 0) 0 rfl) (okL_k hu (o := 0) 0 rfl) 2 (by decide) rfl fl_RX10_23 (u + 21) (okL_r hu (o := 0) (c := 21) 0 rfl 2 rfl) ?_
      obtain ⟨x6, e5, h⟩ := kOk_b h
      refine k_cVI G (dc d_SR_simulate 20 rfl) kc6 (okL_lt hu (o := 21) 21 rfl) (okL_k hu (o := 21) 21 rfl) mi_Tw_allFines mv_Tw_allFines rfl ml_RX10_241 (c_Tw_allFines (gst G) (okL_sub hu 21 (by decide +kernel)) e5) rfl rfl ⟨rfl, rfl⟩ rfl ⟨rfl, rfl⟩ ⟨rfl, rfl⟩ ?_
      refine k_istore G (dc d_SR_simulate 21 rfl) (ls' := [(4, .int x6), (0, .ref (B.1 + u)), (1, .long p0), (3, .int p1)]) rfl rfl ?_
      refine k_lload_n G (dc d_SR_simulate 22 rfl) 2 rfl rfl ?_
      refine k_lstore G (dc d_SR_simulate 23 rfl) (ls' := [(5, .long p0), (4, .int x6), (0, .ref (B.1 + u)), (1, .long p0), (3, .int p1)]) rfl rfl ?_
      refine k_iconst G (dc d_SR_simulate 24 rfl) cI_0 ?_
      refine k_istore G (dc d_SR_simulate 25 rfl) (ls' := [(7, .int 0), (5, .long p0), (4, .int x6), (0, .ref (B.1 + u)), (1, .long p0), (3, .int p1)]) rfl rfl ?_
      refine kJ h (fun r20 => KK X B L 8 0 0 r20 90 [(0, .ref (B.1 + u)), (4, .int x6)] []) (fun r20 h => ?_) (fun h => ?_)
      · obtain ⟨M13, rfl⟩ : ∃ z, z = r20 := ⟨_, rfl⟩
        show KK X B L 8 0 0 M13 90 [(0, .ref (B.1 + u)), (4, .int x6)] []
        refine k_aload_n G (dc d_SR_simulate 44 rfl) 0 rfl rfl ?_
        refine k_getR G kc7 (dc d_SR_simulate 45 rfl) (okL_lt hu (o := 0) 0 rfl) (okL_k hu (o := 0) 0 rfl) 2 (by decide) rfl fl_RX10_23 (u + 21) (okL_r hu (o := 0) (c := 21) 0 rfl 2 rfl) ?_
        obtain ⟨x15, e14, h⟩ := kOk_b h
        refine k_cVI G (dc d_SR_simulate 46 rfl) kc6 (okL_lt hu (o := 21) 21 rfl) (okL_k hu (o := 21) 21 rfl) mi_Tw_allFines mv_Tw_allFines rfl ml_RX10_241 (c_Tw_allFines (gst G) (okL_sub hu 21 (by decide +kernel)) e14) rfl rfl ⟨rfl, rfl⟩ rfl ⟨rfl, rfl⟩ ⟨rfl, rfl⟩ ?_
        refine k_iload G (dc d_SR_simulate 47 rfl) 1 rfl ?_
        refine k_isub G (dc d_SR_simulate 48 rfl) ?_
        refine k_istore G (dc d_SR_simulate 49 rfl) (ls' := [(7, .int (x15 - x6)), (0, .ref (B.1 + u)), (4, .int x6)]) rfl rfl ?_
        refine k_sipush G (dc d_SR_simulate 50 rfl) cS_10000 ?_
        refine k_iload G (dc d_SR_simulate 51 rfl) 0 rfl ?_
        refine k_sipush G (dc d_SR_simulate 52 rfl) cS_10000 ?_
        refine k_irem G (dc d_SR_simulate 53 rfl) czI_10000 ?_
        refine k_imul G (dc d_SR_simulate 54 rfl) ?_
        refine k_bipush G (dc d_SR_simulate 55 rfl) cB_100 ?_
        refine k_aload_n G (dc d_SR_simulate 56 rfl) 1 rfl rfl ?_
        refine k_getR G kc7 (dc d_SR_simulate 57 rfl) (okL_lt hu (o := 0) 0 rfl) (okL_k hu (o := 0) 0 rfl) 2 (by decide) rfl fl_RX10_23 (u + 21) (okL_r hu (o := 0) (c := 21) 0 rfl 2 rfl) ?_
        obtain ⟨x17, e16, h⟩ := kOk_b h
        refine k_cVI G (dc d_SR_simulate 58 rfl) kc6 (okL_lt hu (o := 21) 21 rfl) (okL_k hu (o := 21) 21 rfl) mi_Tw_lettersOfRights mv_Tw_lettersOfRights rfl ml_RX10_254 (c_Tw_lettersOfRights (gst G) (okL_sub hu 21 (by decide +kernel)) e16) rfl rfl ⟨rfl, rfl⟩ rfl ⟨rfl, rfl⟩ ⟨rfl, rfl⟩ ?_
        refine k_imul G (dc d_SR_simulate 59 rfl) ?_
        refine k_iadd G (dc d_SR_simulate 60 rfl) ?_
        refine k_bipush G (dc d_SR_simulate 61 rfl) cB_10 ?_
        refine k_aload_n G (dc d_SR_simulate 62 rfl) 1 rfl rfl ?_
        refine k_getR G kc7 (dc d_SR_simulate 63 rfl) (okL_lt hu (o := 0) 0 rfl) (okL_k hu (o := 0) 0 rfl) 2 (by decide) rfl fl_RX10_23 (u + 21) (okL_r hu (o := 0) (c := 21) 0 rfl 2 rfl) ?_
        obtain ⟨x19, e18, h⟩ := kOk_b h
        refine k_cVI G (dc d_SR_simulate 64 rfl) kc6 (okL_lt hu (o := 21) 21 rfl) (okL_k hu (o := 21) 21 rfl) mi_Tw_wrongSigns mv_Tw_wrongSigns rfl ml_RX10_257 (c_Tw_wrongSigns (gst G) (okL_sub hu 21 (by decide +kernel)) e18) rfl rfl ⟨rfl, rfl⟩ rfl ⟨rfl, rfl⟩ ⟨rfl, rfl⟩ ?_
        refine k_imul G (dc d_SR_simulate 65 rfl) ?_
        refine k_iadd G (dc d_SR_simulate 66 rfl) ?_
        refine k_aload_n G (dc d_SR_simulate 67 rfl) 1 rfl rfl ?_
        refine k_getR G kc7 (dc d_SR_simulate 68 rfl) (okL_lt hu (o := 0) 0 rfl) (okL_k hu (o := 0) 0 rfl) 2 (by decide) rfl fl_RX10_23 (u + 21) (okL_r hu (o := 0) (c := 21) 0 rfl 2 rfl) ?_
        refine k_getR G kc6 (dc d_SR_simulate 69 rfl) (okL_lt hu (o := 21) 21 rfl) (okL_k hu (o := 21) 21 rfl) 0 (by decide) rfl fl_RX10_59 (u + 22) (okL_r hu (o := 21) (c := 22) 21 rfl 0 rfl) ?_
        refine k_getI G kc5 (dc d_SR_simulate 70 rfl) (okL_lt hu (o := 22) 22 rfl) (okL_k hu (o := 22) 22 rfl) 1 (by decide) rfl fl_RX10_172 ?_
        refine k_iadd G (dc d_SR_simulate 71 rfl) ?_
        exact ((kOk_s h).1 _ rfl) _ _ _ _ rfl rfl rfl (dc d_SR_simulate 72 rfl)
      · refine k_sub [3, 5, 2, 1, 0] rfl ?_
        refine kLp_ok (P := fun s21 => KK X B L 8 0 0 s21.2.2 53 [(0, .ref (B.1 + u)), (3, .int p1), (4, .int x6), (5, .long s21.1), (7, .int s21.2.1)] []) (fun s21 h => ?_) kFU _ h
        obtain ⟨v5_7, v7_8, M9⟩ := s21
        unfold m_SR_simulate_l53 at h
        show KK X B L 8 0 0 M9 53 [(0, .ref (B.1 + u)), (3, .int p1), (4, .int x6), (5, .long v5_7), (7, .int v7_8)] []
        refine k_iload G (dc d_SR_simulate 26 rfl) 4 rfl ?_
        refine k_iload_n G (dc d_SR_simulate 27 rfl) 1 rfl rfl ?_
        refine k_icmp_ge G (dc d_SR_simulate 28 rfl) (tgt := 90) rfl (fun c10 => ?_) (fun c10 => ?_)
        · replace h := kOk_p c10 h
          refine k_sub [0, 2] rfl ?_
          have h9 := kOk_s h
          exact h9
        · replace h := kOk_n c10 h
          refine k_lload G (dc d_SR_simulate 29 rfl) 3 rfl ?_
          refine k_ldc2 G (dc d_SR_simulate 30 rfl) ld_RX10_244 ?_
          refine k_lmul G (dc d_SR_simulate 31 rfl) ?_
          refine k_ldc2 G (dc d_SR_simulate 32 rfl) ld_RX10_246 ?_
          refine k_ladd G (dc d_SR_simulate 33 rfl) ?_
          refine k_lstore G (dc d_SR_simulate 34 rfl) (ls' := [(5, .long ((v5_7 * 6364136223846793005) + 1442695040888963407)), (0, .ref (B.1 + u)), (3, .int p1), (4, .int x6), (7, .int v7_8)]) rfl rfl ?_
          refine k_aload_n G (dc d_SR_simulate 35 rfl) 1 rfl rfl ?_
          refine k_getR G kc7 (dc d_SR_simulate 36 rfl) (okL_lt hu (o := 0) 0 rfl) (okL_k hu (o := 0) 0 rfl) 2 (by decide) rfl fl_RX10_23 (u + 21) (okL_r hu (o := 0) (c := 21) 0 rfl 2 rfl) ?_
          refine k_lload G (dc d_SR_simulate 37 rfl) 0 rfl ?_
          refine k_bipush G (dc d_SR_simulate 38 rfl) cB_33 ?_
          refine k_lushr G (dc d_SR_simulate 39 rfl) ?_
          refine k_l2i G (dc d_SR_simulate 40 rfl) ?_
          obtain ⟨M12, e11, h⟩ := kOk_b h
          refine k_cSV G (dc d_SR_simulate 41 rfl) mi_Si_takeTurn ms_Si_takeTurn ml_RX10_248 (c_Si_takeTurn (gst G) hx (okL_sub hu 21 (by decide +kernel)) e11) rfl rfl ⟨rfl, rfl⟩ rfl ⟨rfl, rfl⟩ ⟨rfl, rfl⟩ ?_
          refine k_iinc G (dc d_SR_simulate 42 rfl) (ls' := [(7, .int (v7_8 + 1)), (5, .long ((v5_7 * 6364136223846793005) + 1442695040888963407)), (0, .ref (B.1 + u)), (3, .int p1), (4, .int x6)]) 4 rfl cI_1 rfl rfl ?_
          refine k_goto G (dc d_SR_simulate 43 rfl) (tgt := 53) rfl ?_
          refine k_sub [2, 3, 4, 1, 0] rfl ?_
          have h9 := kOk_s h
          exact h9
    · replace h := kOk_n c2 h
      exact ((kOk_s h).2 _ rfl).2.1 _ _ _ _ _ 33 239 37 "no such number of turns" ["java/lang/RuntimeException", "java/lang/Exception"] ts_RX10_33_37 sr_RX10_239 (dc d_SR_simulate 6 rfl) (dc d_SR_simulate 7 rfl) (dc d_SR_simulate 8 rfl) (dc d_SR_simulate 9 rfl) (dc d_SR_simulate 10 rfl) rfl rfl rfl rfl
theorem c_SR_simulate {l : Launch} {B : KB} {L : KLay} {M : KMem} {u : Nat} {p0 : Int64} {p1 : Int32} (hst : l.stackTraces = false) (hx : B.2.2.2 = false) (hu : okL L u srT) {r : String ⊕ Int32} {M' : KMem} (e : m_SR_simulate u p0 p1 M = some (r, M')) : CtrX l B yX10_simulate cX10_simulate 8 (some .int) rm_SR_simulate [.ref (B.1 + u), .long p0, .int p1] L M (rI r) M' :=
  mkXI hx rfl hst rfl (fun X hl G R => b_SR_simulate G hx hu ⟨_, e, R⟩)
def I_SR_requireSlot : List (Nat × Instr × Nat) := [(0, .iload_n 0, 1), (1, .ifCond .lt 8, 3), (4, .iload_n 0, 1), (5, .iconst 2, 1), (6, .if_icmp .lt 14, 3), (9, .new 281, 3), (12, .dup, 1), (13, .ldc_w 293, 3), (16, .invokespecial 285, 3), (19, .athrow, 1), (20, .return_, 1)]
set_option maxRecDepth 100000 in
theorem d_SR_requireSlot : decA cX10_requireSlot I_SR_requireSlot = true := by decide +kernel
abbrev rm_SR_requireSlot : Room := ({ frames := 6, cells := 1, slots := 6, locals := 92 } : Room)
def m_SR_requireSlot (p0 : Int32) : Option (Option String) :=
 if p0 < 0 then
 (some (some "java/lang/IndexOutOfBoundsException"))
 else
 (if p0 < 2 then
 (some none)
 else
 (some (some "java/lang/IndexOutOfBoundsException")))
set_option maxHeartbeats 4000000 in
set_option maxRecDepth 100000 in
theorem b_SR_requireSlot {X : KX} {B : KB} {L : KLay} {M : KMem} {p0 : Int32} (G : Good X B RX10 cX10_requireSlot 1 rm_SR_requireSlot) (hx : B.2.2.2 = false)  (h : kOk (m_SR_requireSlot p0) (fun r => RXV X B L 1 RX10 cX10_requireSlot rm_SR_requireSlot r M)) : KK X B L 1 0 0 M 0 [(0, .int p0)] [] := by
  unfold m_SR_requireSlot at h
  refine k_iload_n G (dc d_SR_requireSlot 0 rfl) 0 rfl rfl ?_
  refine k_if_lt G (dc d_SR_requireSlot 1 rfl) (tgt := 9) rfl (fun c1 => ?_) (fun c1 => ?_)
  · replace h := kOk_p c1 h
    exact ((kOk_s h).2 _ rfl).2.2 _ _ _ _ _ 281 293 285 "no such save slot" ["java/lang/RuntimeException", "java/lang/Exception"] ts_RX10_281_285 sr_RX10_293 (dc d_SR_requireSlot 5 rfl) (dc d_SR_requireSlot 6 rfl) (dc d_SR_requireSlot 7 rfl) (dc d_SR_requireSlot 8 rfl) (dc d_SR_requireSlot 9 rfl) rfl rfl rfl rfl
  · replace h := kOk_n c1 h
    refine k_iload_n G (dc d_SR_requireSlot 2 rfl) 0 rfl rfl ?_
    refine k_iconst G (dc d_SR_requireSlot 3 rfl) cI_2 ?_
    refine k_icmp_lt G (dc d_SR_requireSlot 4 rfl) (tgt := 20) rfl (fun c2 => ?_) (fun c2 => ?_)
    · replace h := kOk_p c2 h
      exact ((kOk_s h).1 rfl) _ _ _ _ rfl rfl (dc d_SR_requireSlot 10 rfl)
    · replace h := kOk_n c2 h
      exact ((kOk_s h).2 _ rfl).2.2 _ _ _ _ _ 281 293 285 "no such save slot" ["java/lang/RuntimeException", "java/lang/Exception"] ts_RX10_281_285 sr_RX10_293 (dc d_SR_requireSlot 5 rfl) (dc d_SR_requireSlot 6 rfl) (dc d_SR_requireSlot 7 rfl) (dc d_SR_requireSlot 8 rfl) (dc d_SR_requireSlot 9 rfl) rfl rfl rfl rfl
theorem c_SR_requireSlot {l : Launch} {B : KB} {L : KLay} {M : KMem} {p0 : Int32} (hst : l.stackTraces = false) (hx : B.2.2.2 = false)  {r : Option String} (e : m_SR_requireSlot p0 = some r) : CtrX l B yX10_requireSlot cX10_requireSlot 1 none rm_SR_requireSlot [.int p0] L M (rV r) M :=
  mkXV hx rfl hst rfl (fun X hl G R => b_SR_requireSlot G hx  ⟨_, e, R⟩)
def I_SR_save : List (Nat × Instr × Nat) := [(0, .iload_n 1, 1), (1, .invokestatic 260, 3), (4, .aload_n 0, 1), (5, .getfield 29, 3), (8, .iload_n 1, 1), (9, .aload_n 0, 1), (10, .getfield 19, 3), (13, .getfield 59, 3), (16, .invokevirtual 263, 3), (19, .aload_n 0, 1), (20, .getfield 19, 3), (23, .getfield 59, 3), (26, .getfield 267, 3), (29, .ireturn, 1)]
set_option maxRecDepth 100000 in
theorem d_SR_save : decA cX10_save I_SR_save = true := by decide +kernel
abbrev rm_SR_save : Room := ({ frames := 7, cells := 1, slots := 6, locals := 125 } : Room)
def m_SR_save (u : Nat) (p0 : Int32) (M : KMem) : Option ((String ⊕ Int32) × KMem) :=
 Option.bind (m_SR_requireSlot p0) fun r2 => match r2 with
 | some E3 => some (.inl E3, M)
 | none =>
 (Option.bind (m_Me_fillSlot (u + 39) p0 (u + 4) M) fun M5 =>
 some (.inr (M5 (u + 4) 11), M5))
set_option maxHeartbeats 4000000 in
set_option maxRecDepth 100000 in
theorem b_SR_save {X : KX} {B : KB} {L : KLay} {M : KMem} {u : Nat} {p0 : Int32} (G : Good X B RX10 cX10_save 2 rm_SR_save) (hx : B.2.2.2 = false) (hu : okL L u srT) (h : kOk (m_SR_save u p0 M) (fun r => RXI X B L 2 RX10 cX10_save .int rm_SR_save r.1 r.2)) : KK X B L 2 0 0 M 0 [(0, .ref (B.1 + u)), (1, .int p0)] [] := by
  unfold m_SR_save at h
  refine k_iload_n G (dc d_SR_save 0 rfl) 1 rfl rfl ?_
  obtain ⟨r2, e1, h⟩ := kOk_b h
  refine k_callSX G (dc d_SR_save 1 rfl) mi_SR_requireSlot ms_SR_requireSlot ml_RX10_260 (c_SR_requireSlot (gst G) hx  e1) rfl rfl ⟨rfl, rfl⟩ rfl ⟨rfl, rfl⟩ (fun v9 h9 => ?_) (fun E9 h9 => ?_)
  · obtain ⟨rfl, rfl⟩ := rV_inr h9
    show KK X B L 2 1 6 M 4 [(0, .ref (B.1 + u)), (1, .int p0)] []
    refine k_aload_n G (dc d_SR_save 2 rfl) 0 rfl rfl ?_
    refine k_getR G kc7 (dc d_SR_save 3 rfl) (okL_lt hu (o := 0) 0 rfl) (okL_k hu (o := 0) 0 rfl) 3 (by decide) rfl fl_RX10_29 (u + 39) (okL_r hu (o := 0) (c := 39) 0 rfl 3 rfl) ?_
    refine k_iload_n G (dc d_SR_save 4 rfl) 1 rfl rfl ?_
    refine k_aload_n G (dc d_SR_save 5 rfl) 0 rfl rfl ?_
    refine k_getR G kc7 (dc d_SR_save 6 rfl) (okL_lt hu (o := 0) 0 rfl) (okL_k hu (o := 0) 0 rfl) 1 (by decide) rfl fl_RX10_19 (u + 3) (okL_r hu (o := 0) (c := 3) 0 rfl 1 rfl) ?_
    refine k_getR G kc6 (dc d_SR_save 7 rfl) (okL_lt hu (o := 3) 3 rfl) (okL_k hu (o := 3) 3 rfl) 0 (by decide) rfl fl_RX10_59 (u + 4) (okL_r hu (o := 3) (c := 4) 3 rfl 0 rfl) ?_
    obtain ⟨M5, e4, h⟩ := kOk_b h
    refine k_cVV G (dc d_SR_save 8 rfl) kc2 (okL_lt hu (o := 39) 39 rfl) (okL_k hu (o := 39) 39 rfl) mi_Me_fillSlot mv_Me_fillSlot rfl ml_RX10_263 (c_Me_fillSlot (gst G) hx (okL_sub hu 39 (by decide +kernel)) (okL_sub hu 4 (by decide +kernel)) e4) rfl rfl ⟨rfl, rfl⟩ rfl ⟨rfl, rfl⟩ ⟨rfl, rfl⟩ ?_
    refine k_aload_n G (dc d_SR_save 9 rfl) 0 rfl rfl ?_
    refine k_getR G kc7 (dc d_SR_save 10 rfl) (okL_lt hu (o := 0) 0 rfl) (okL_k hu (o := 0) 0 rfl) 1 (by decide) rfl fl_RX10_19 (u + 3) (okL_r hu (o := 0) (c := 3) 0 rfl 1 rfl) ?_
    refine k_getR G kc6 (dc d_SR_save 11 rfl) (okL_lt hu (o := 3) 3 rfl) (okL_k hu (o := 3) 3 rfl) 0 (by decide) rfl fl_RX10_59 (u + 4) (okL_r hu (o := 3) (c := 4) 3 rfl 0 rfl) ?_
    refine k_getI G kc5 (dc d_SR_save 12 rfl) (okL_lt hu (o := 4) 4 rfl) (okL_k hu (o := 4) 4 rfl) 11 (by decide) rfl fl_RX10_267 ?_
    exact ((kOk_s h).1 _ rfl) _ _ _ _ rfl rfl rfl (dc d_SR_save 13 rfl)
  · obtain rfl := rV_inl h9
    exact ((kOk_s h).2 _ rfl).1 _ _ _ _ _ rfl rfl
theorem c_SR_save {l : Launch} {B : KB} {L : KLay} {M : KMem} {u : Nat} {p0 : Int32} (hst : l.stackTraces = false) (hx : B.2.2.2 = false) (hu : okL L u srT) {r : String ⊕ Int32} {M' : KMem} (e : m_SR_save u p0 M = some (r, M')) : CtrX l B yX10_save cX10_save 2 (some .int) rm_SR_save [.ref (B.1 + u), .int p0] L M (rI r) M' :=
  mkXI hx rfl hst rfl (fun X hl G R => b_SR_save G hx hu ⟨_, e, R⟩)
def I_SR_restore : List (Nat × Instr × Nat) := [(0, .iload_n 1, 1), (1, .invokestatic 260, 3), (4, .aload_n 0, 1), (5, .getfield 29, 3), (8, .iload_n 1, 1), (9, .invokevirtual 270, 3), (12, .ifCond .ne 14, 3), (15, .new 44, 3), (18, .dup, 1), (19, .ldc_w 273, 3), (22, .invokespecial 48, 3), (25, .athrow, 1), (26, .aload_n 0, 1), (27, .getfield 29, 3), (30, .iload_n 1, 1), (31, .aload_n 0, 1), (32, .getfield 19, 3), (35, .getfield 59, 3), (38, .invokevirtual 275, 3), (41, .aload_n 0, 1), (42, .getfield 29, 3), (45, .invokevirtual 68, 3), (48, .aload_n 0, 1), (49, .getfield 19, 3), (52, .getfield 59, 3), (55, .getfield 267, 3), (58, .ireturn, 1)]
set_option maxRecDepth 100000 in
theorem d_SR_restore : decA cX10_restore I_SR_restore = true := by decide +kernel
abbrev rm_SR_restore : Room := ({ frames := 7, cells := 2, slots := 12, locals := 125 } : Room)
def m_SR_restore (u : Nat) (p0 : Int32) (M : KMem) : Option ((String ⊕ Int32) × KMem) :=
 Option.bind (m_SR_requireSlot p0) fun r2 => match r2 with
 | some E3 => some (.inl E3, M)
 | none =>
 (Option.bind (m_Me_isFilled (u + 39) p0 M) fun x5 =>
 if x5 = 0 then
 (some (.inl "java/lang/IllegalStateException", M))
 else
 (Option.bind (m_Me_copySlot (u + 39) p0 (u + 4) M) fun M8 =>
 Option.bind (m_Me_forgetStates (u + 39) M8) fun M10 =>
 some (.inr (M10 (u + 4) 11), M10)))
set_option maxHeartbeats 4000000 in
set_option maxRecDepth 100000 in
theorem b_SR_restore {X : KX} {B : KB} {L : KLay} {M : KMem} {u : Nat} {p0 : Int32} (G : Good X B RX10 cX10_restore 2 rm_SR_restore) (hx : B.2.2.2 = false) (hu : okL L u srT) (h : kOk (m_SR_restore u p0 M) (fun r => RXI X B L 2 RX10 cX10_restore .int rm_SR_restore r.1 r.2)) : KK X B L 2 0 0 M 0 [(0, .ref (B.1 + u)), (1, .int p0)] [] := by
  unfold m_SR_restore at h
  refine k_iload_n G (dc d_SR_restore 0 rfl) 1 rfl rfl ?_
  obtain ⟨r2, e1, h⟩ := kOk_b h
  refine k_callSX G (dc d_SR_restore 1 rfl) mi_SR_requireSlot ms_SR_requireSlot ml_RX10_260 (c_SR_requireSlot (gst G) hx  e1) rfl rfl ⟨rfl, rfl⟩ rfl ⟨rfl, rfl⟩ (fun v9 h9 => ?_) (fun E9 h9 => ?_)
  · obtain ⟨rfl, rfl⟩ := rV_inr h9
    show KK X B L 2 1 6 M 4 [(0, .ref (B.1 + u)), (1, .int p0)] []
    refine k_aload_n G (dc d_SR_restore 2 rfl) 0 rfl rfl ?_
    refine k_getR G kc7 (dc d_SR_restore 3 rfl) (okL_lt hu (o := 0) 0 rfl) (okL_k hu (o := 0) 0 rfl) 3 (by decide) rfl fl_RX10_29 (u + 39) (okL_r hu (o := 0) (c := 39) 0 rfl 3 rfl) ?_
    refine k_iload_n G (dc d_SR_restore 4 rfl) 1 rfl rfl ?_
    obtain ⟨x5, e4, h⟩ := kOk_b h
    refine k_cVI G (dc d_SR_restore 5 rfl) kc2 (okL_lt hu (o := 39) 39 rfl) (okL_k hu (o := 39) 39 rfl) mi_Me_isFilled mv_Me_isFilled rfl ml_RX10_270 (c_Me_isFilled (gst G) (okL_sub hu 39 (by decide +kernel)) e4) rfl rfl ⟨rfl, rfl⟩ rfl ⟨rfl, rfl⟩ ⟨rfl, rfl⟩ ?_
    refine k_if_ne G (dc d_SR_restore 6 rfl) (tgt := 26) rfl (fun c6 => ?_) (fun c6 => ?_)
    · replace h := kOk_n c6 h
      refine k_aload_n G (dc d_SR_restore 12 rfl) 0 rfl rfl ?_
      refine k_getR G kc7 (dc d_SR_restore 13 rfl) (okL_lt hu (o := 0) 0 rfl) (okL_k hu (o := 0) 0 rfl) 3 (by decide) rfl fl_RX10_29 (u + 39) (okL_r hu (o := 0) (c := 39) 0 rfl 3 rfl) ?_
      refine k_iload_n G (dc d_SR_restore 14 rfl) 1 rfl rfl ?_
      refine k_aload_n G (dc d_SR_restore 15 rfl) 0 rfl rfl ?_
      refine k_getR G kc7 (dc d_SR_restore 16 rfl) (okL_lt hu (o := 0) 0 rfl) (okL_k hu (o := 0) 0 rfl) 1 (by decide) rfl fl_RX10_19 (u + 3) (okL_r hu (o := 0) (c := 3) 0 rfl 1 rfl) ?_
      refine k_getR G kc6 (dc d_SR_restore 17 rfl) (okL_lt hu (o := 3) 3 rfl) (okL_k hu (o := 3) 3 rfl) 0 (by decide) rfl fl_RX10_59 (u + 4) (okL_r hu (o := 3) (c := 4) 3 rfl 0 rfl) ?_
      obtain ⟨M8, e7, h⟩ := kOk_b h
      refine k_cVV G (dc d_SR_restore 18 rfl) kc2 (okL_lt hu (o := 39) 39 rfl) (okL_k hu (o := 39) 39 rfl) mi_Me_copySlot mv_Me_copySlot rfl ml_RX10_275 (c_Me_copySlot (gst G) hx (okL_sub hu 39 (by decide +kernel)) (okL_sub hu 4 (by decide +kernel)) e7) rfl rfl ⟨rfl, rfl⟩ rfl ⟨rfl, rfl⟩ ⟨rfl, rfl⟩ ?_
      refine k_aload_n G (dc d_SR_restore 19 rfl) 0 rfl rfl ?_
      refine k_getR G kc7 (dc d_SR_restore 20 rfl) (okL_lt hu (o := 0) 0 rfl) (okL_k hu (o := 0) 0 rfl) 3 (by decide) rfl fl_RX10_29 (u + 39) (okL_r hu (o := 0) (c := 39) 0 rfl 3 rfl) ?_
      obtain ⟨M10, e9, h⟩ := kOk_b h
      refine k_cVV G (dc d_SR_restore 21 rfl) kc2 (okL_lt hu (o := 39) 39 rfl) (okL_k hu (o := 39) 39 rfl) mi_Me_forgetStates mv_Me_forgetStates rfl ml_RX10_68 (c_Me_forgetStates (gst G) (okL_sub hu 39 (by decide +kernel)) e9) rfl rfl ⟨rfl, rfl⟩ rfl ⟨rfl, rfl⟩ ⟨rfl, rfl⟩ ?_
      refine k_aload_n G (dc d_SR_restore 22 rfl) 0 rfl rfl ?_
      refine k_getR G kc7 (dc d_SR_restore 23 rfl) (okL_lt hu (o := 0) 0 rfl) (okL_k hu (o := 0) 0 rfl) 1 (by decide) rfl fl_RX10_19 (u + 3) (okL_r hu (o := 0) (c := 3) 0 rfl 1 rfl) ?_
      refine k_getR G kc6 (dc d_SR_restore 24 rfl) (okL_lt hu (o := 3) 3 rfl) (okL_k hu (o := 3) 3 rfl) 0 (by decide) rfl fl_RX10_59 (u + 4) (okL_r hu (o := 3) (c := 4) 3 rfl 0 rfl) ?_
      refine k_getI G kc5 (dc d_SR_restore 25 rfl) (okL_lt hu (o := 4) 4 rfl) (okL_k hu (o := 4) 4 rfl) 11 (by decide) rfl fl_RX10_267 ?_
      exact ((kOk_s h).1 _ rfl) _ _ _ _ rfl rfl rfl (dc d_SR_restore 26 rfl)
    · replace h := kOk_p c6 h
      exact ((kOk_s h).2 _ rfl).2.2 _ _ _ _ _ 44 273 48 "nothing has been saved in the slot" ["java/lang/RuntimeException", "java/lang/Exception"] ts_RX10_44_48 sr_RX10_273 (dc d_SR_restore 7 rfl) (dc d_SR_restore 8 rfl) (dc d_SR_restore 9 rfl) (dc d_SR_restore 10 rfl) (dc d_SR_restore 11 rfl) rfl rfl rfl rfl
  · obtain rfl := rV_inl h9
    exact ((kOk_s h).2 _ rfl).1 _ _ _ _ _ rfl rfl
theorem c_SR_restore {l : Launch} {B : KB} {L : KLay} {M : KMem} {u : Nat} {p0 : Int32} (hst : l.stackTraces = false) (hx : B.2.2.2 = false) (hu : okL L u srT) {r : String ⊕ Int32} {M' : KMem} (e : m_SR_restore u p0 M = some (r, M')) : CtrX l B yX10_restore cX10_restore 2 (some .int) rm_SR_restore [.ref (B.1 + u), .int p0] L M (rI r) M' :=
  mkXI hx rfl hst rfl (fun X hl G R => b_SR_restore G hx hu ⟨_, e, R⟩)
