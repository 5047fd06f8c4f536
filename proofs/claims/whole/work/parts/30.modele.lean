/-! laid by wip/whole/lay.py: Mo_sumOf, Mo_told, Mo_about, Mo_ofSign, Mo_signOf, Mo_decreeOf, Mo_ofGuild, Mo_guildOf, Mo_right, Mo_setting, Mo_acts, Mo_sign, Mo_decree, Mo_revoke -/
def I_Mo_sumOf : List (Nat × Instr × Nat) := [(0, .iconst 0, 1), (1, .istore_n 2, 1), (2, .iconst 0, 1), (3, .istore_n 3, 1), (4, .iload_n 3, 1), (5, .aload_n 0, 1), (6, .getfield 7, 3), (9, .iconst 0, 1), (10, .iaload, 1), (11, .if_icmp .ge 53, 3), (14, .iload_n 2, 1), (15, .iload_n 1, 1), (16, .ifCond .ne 19, 3), (19, .aload_n 0, 1), (20, .getfield 7, 3), (23, .iload_n 3, 1), (24, .iconst 1, 1), (25, .invokestatic 67, 3), (28, .iaload, 1), (29, .invokestatic 53, 3), (32, .goto 24, 3), (35, .iload_n 1, 1), (36, .iconst 1, 1), (37, .if_icmp .ne 14, 3), (40, .aload_n 0, 1), (41, .iload_n 3, 1), (42, .invokevirtual 73, 3), (45, .invokestatic 53, 3), (48, .goto 8, 3), (51, .aload_n 0, 1), (52, .iload_n 3, 1), (53, .invokevirtual 102, 3), (56, .iadd, 1), (57, .istore_n 2, 1), (58, .iinc 3 1, 3), (61, .goto (-57), 3), (64, .iload_n 2, 1), (65, .ireturn, 1)]
set_option maxRecDepth 100000 in
theorem d_Mo_sumOf : decA cX11_sumOf I_Mo_sumOf = true := by decide +kernel
abbrev rm_Mo_sumOf : Room := ({ frames := 7, cells := 0, slots := 0, locals := 164 } : Room)
def m_Mo_sumOf_l4 (u : Nat) (p0 : Int32) : (Int32 × Int32 × KMem) → Option ((Int32 × Int32 × KMem) ⊕ (Int32 × KMem)) := fun (v2_1, v3_2, M3) =>
 Option.bind (rdI M3 (u + 1) 108 0) fun x5 =>
 if x5 ≤ v3_2 then
 (some (.inr (v2_1, M3)))
 else
 (Option.bind (α := Int32 × KMem) (if p0 = 0 then
 (Option.bind (m_Mo_of v3_2 1) fun x20 =>
 Option.bind (rdI M3 (u + 1) 108 x20) fun x22 =>
 Option.bind (m_Mo_lettersOf x22) fun x24 =>
 some (x24, M3))
 else
 (if p0 = 1 then
 (Option.bind (m_Mo_rightOf u v3_2 M3) fun x16 =>
 Option.bind (m_Mo_lettersOf x16) fun x18 =>
 some (x18, M3))
 else
 (Option.bind (m_Mo_costOf u v3_2 M3) fun (x13, M14) =>
 some (x13, M14)))) fun (t7, M8) =>
 some (.inl (v2_1 + t7, v3_2 + 1, M8)))
def m_Mo_sumOf (u : Nat) (p0 : Int32) (M : KMem) : Option (Int32 × KMem) :=
 Option.bind (α := Int32 × KMem) (kLp (m_Mo_sumOf_l4 u p0) kFU (0, 0, M)) fun (v2_25, M26) =>
 some (v2_25, M26)
set_option maxHeartbeats 4000000 in
set_option maxRecDepth 100000 in
theorem b_Mo_sumOf {X : KX} {B : KB} {L : KLay} {M : KMem} {u : Nat} {p0 : Int32} (G : Good X B RX11 cX11_sumOf 4 rm_Mo_sumOf) (hu : okL L u moT) (h : kOk (m_Mo_sumOf u p0 M) (fun r => RI X B L 4 cX11_sumOf .int rm_Mo_sumOf r.1 r.2)) : KK X B L 4 0 0 M 0 [(0, .ref (B.1 + u)), (1, .int p0)] [] := by
  unfold m_Mo_sumOf at h
  refine k_iconst G (dc d_Mo_sumOf 0 rfl) cI_0 ?_
  refine k_istore_n G (dc d_Mo_sumOf 1 rfl) (ls' := [(2, .int 0), (0, .ref (B.1 + u)), (1, .int p0)]) rfl rfl rfl ?_
  refine k_iconst G (dc d_Mo_sumOf 2 rfl) cI_0 ?_
  refine k_istore_n G (dc d_Mo_sumOf 3 rfl) (ls' := [(3, .int 0), (2, .int 0), (0, .ref (B.1 + u)), (1, .int p0)]) rfl rfl rfl ?_
  refine kJ h (fun r27 => KK X B L 4 0 0 r27.2 64 [(2, .int r27.1)] []) (fun r27 h => ?_) (fun h => ?_)
  · obtain ⟨v2_25, M26⟩ := r27
    show KK X B L 4 0 0 M26 64 [(2, .int v2_25)] []
    refine k_iload_n G (dc d_Mo_sumOf 36 rfl) 0 rfl rfl ?_
    exact (kOk_s h) _ _ _ _ rfl rfl rfl (dc d_Mo_sumOf 37 rfl)
  · refine k_sub [2, 3, 1, 0] rfl ?_
    refine kLp_ok (P := fun s28 => KK X B L 4 0 0 s28.2.2 4 [(0, .ref (B.1 + u)), (1, .int p0), (2, .int s28.1), (3, .int s28.2.1)] []) (fun s28 h => ?_) kFU _ h
    obtain ⟨v2_1, v3_2, M3⟩ := s28
    unfold m_Mo_sumOf_l4 at h
    show KK X B L 4 0 0 M3 4 [(0, .ref (B.1 + u)), (1, .int p0), (2, .int v2_1), (3, .int v3_2)] []
    refine k_iload_n G (dc d_Mo_sumOf 4 rfl) 3 rfl rfl ?_
    refine k_aload_n G (dc d_Mo_sumOf 5 rfl) 0 rfl rfl ?_
    refine k_getR G kc8 (dc d_Mo_sumOf 6 rfl) (okL_lt hu (o := 0) 0 rfl) (okL_k hu (o := 0) 0 rfl) 1 (by decide) rfl fl_RX11_7 (u + 1) (okL_r hu (o := 0) (c := 1) 0 rfl 0 rfl) ?_
    refine k_iconst G (dc d_Mo_sumOf 7 rfl) cI_0 ?_
    obtain ⟨x5, e4, h⟩ := kOk_b h
    refine k_ild G (dc d_Mo_sumOf 8 rfl) (okL_lt hu (o := 1) 1 rfl) (okL_k hu (o := 1) 1 rfl) (okL_n hu (o := 1) 1 rfl) e4 ?_
    refine k_icmp_ge G (dc d_Mo_sumOf 9 rfl) (tgt := 64) rfl (fun c6 => ?_) (fun c6 => ?_)
    · replace h := kOk_p c6 h
      refine k_sub [2] rfl ?_
      have h9 := kOk_s h
      exact h9
    · replace h := kOk_n c6 h
      refine k_iload_n G (dc d_Mo_sumOf 10 rfl) 2 rfl rfl ?_
      refine k_iload_n G (dc d_Mo_sumOf 11 rfl) 1 rfl rfl ?_
      refine kJ h (fun r9 => KK X B L 4 0 0 r9.2 56 [(0, .ref (B.1 + u)), (1, .int p0), (3, .int v3_2)] [.int r9.1, .int v2_1]) (fun r9 h => ?_) (fun h => ?_)
      · obtain ⟨t7, M8⟩ := r9
        show KK X B L 4 0 0 M8 56 [(0, .ref (B.1 + u)), (1, .int p0), (3, .int v3_2)] [.int t7, .int v2_1]
        refine k_iadd G (dc d_Mo_sumOf 32 rfl) ?_
        refine k_istore_n G (dc d_Mo_sumOf 33 rfl) (ls' := [(2, .int (v2_1 + t7)), (0, .ref (B.1 + u)), (1, .int p0), (3, .int v3_2)]) rfl rfl rfl ?_
        refine k_iinc G (dc d_Mo_sumOf 34 rfl) (ls' := [(3, .int (v3_2 + 1)), (2, .int (v2_1 + t7)), (0, .ref (B.1 + u)), (1, .int p0)]) 3 rfl cI_1 rfl rfl ?_
        refine k_goto G (dc d_Mo_sumOf 35 rfl) (tgt := 4) rfl ?_
        refine k_sub [2, 3, 1, 0] rfl ?_
        have h9 := kOk_s h
        exact h9
      · refine k_if_ne G (dc d_Mo_sumOf 12 rfl) (tgt := 35) rfl (fun c10 => ?_) (fun c10 => ?_)
        · replace h := kOk_n c10 h
          refine k_iload_n G (dc d_Mo_sumOf 21 rfl) 1 rfl rfl ?_
          refine k_iconst G (dc d_Mo_sumOf 22 rfl) cI_1 ?_
          refine k_icmp_ne G (dc d_Mo_sumOf 23 rfl) (tgt := 51) rfl (fun c11 => ?_) (fun c11 => ?_)
          · replace h := kOk_n c11 h
            refine k_aload_n G (dc d_Mo_sumOf 29 rfl) 0 rfl rfl ?_
            refine k_iload_n G (dc d_Mo_sumOf 30 rfl) 3 rfl rfl ?_
            obtain ⟨⟨x13, M14⟩, e12, h⟩ := kOk_b h
            refine k_cVI G (dc d_Mo_sumOf 31 rfl) kc8 (okL_lt hu (o := 0) 0 rfl) (okL_k hu (o := 0) 0 rfl) mi_Mo_costOf mv_Mo_costOf rfl ml_RX11_102 (c_Mo_costOf (gst G) hu e12) rfl rfl ⟨rfl, rfl⟩ rfl ⟨rfl, rfl⟩ ⟨rfl, rfl⟩ ?_
            refine k_sub [0, 1, 3] rfl ?_
            have h9 := kOk_s h
            exact h9
          · replace h := kOk_p c11 h
            refine k_aload_n G (dc d_Mo_sumOf 24 rfl) 0 rfl rfl ?_
            refine k_iload_n G (dc d_Mo_sumOf 25 rfl) 3 rfl rfl ?_
            obtain ⟨x16, e15, h⟩ := kOk_b h
            refine k_cVI G (dc d_Mo_sumOf 26 rfl) kc8 (okL_lt hu (o := 0) 0 rfl) (okL_k hu (o := 0) 0 rfl) mi_Mo_rightOf mv_Mo_rightOf rfl ml_RX11_73 (c_Mo_rightOf (gst G) hu e15) rfl rfl ⟨rfl, rfl⟩ rfl ⟨rfl, rfl⟩ ⟨rfl, rfl⟩ ?_
            obtain ⟨x18, e17, h⟩ := kOk_b h
            refine k_cSI G (dc d_Mo_sumOf 27 rfl) mi_Mo_lettersOf ms_Mo_lettersOf ml_RX11_53 (c_Mo_lettersOf (gst G)  e17) rfl rfl ⟨rfl, rfl⟩ rfl ⟨rfl, rfl⟩ ⟨rfl, rfl⟩ ?_
            refine k_goto G (dc d_Mo_sumOf 28 rfl) (tgt := 56) rfl ?_
            refine k_sub [0, 1, 3] rfl ?_
            have h9 := kOk_s h
            exact h9
        · replace h := kOk_p c10 h
          refine k_aload_n G (dc d_Mo_sumOf 13 rfl) 0 rfl rfl ?_
          refine k_getR G kc8 (dc d_Mo_sumOf 14 rfl) (okL_lt hu (o := 0) 0 rfl) (okL_k hu (o := 0) 0 rfl) 1 (by decide) rfl fl_RX11_7 (u + 1) (okL_r hu (o := 0) (c := 1) 0 rfl 0 rfl) ?_
          refine k_iload_n G (dc d_Mo_sumOf 15 rfl) 3 rfl rfl ?_
          refine k_iconst G (dc d_Mo_sumOf 16 rfl) cI_1 ?_
          obtain ⟨x20, e19, h⟩ := kOk_b h
          refine k_cSI G (dc d_Mo_sumOf 17 rfl) mi_Mo_of ms_Mo_of ml_RX11_67 (c_Mo_of (gst G)  e19) rfl rfl ⟨rfl, rfl⟩ rfl ⟨rfl, rfl⟩ ⟨rfl, rfl⟩ ?_
          obtain ⟨x22, e21, h⟩ := kOk_b h
          refine k_ild G (dc d_Mo_sumOf 18 rfl) (okL_lt hu (o := 1) 1 rfl) (okL_k hu (o := 1) 1 rfl) (okL_n hu (o := 1) 1 rfl) e21 ?_
          obtain ⟨x24, e23, h⟩ := kOk_b h
          refine k_cSI G (dc d_Mo_sumOf 19 rfl) mi_Mo_lettersOf ms_Mo_lettersOf ml_RX11_53 (c_Mo_lettersOf (gst G)  e23) rfl rfl ⟨rfl, rfl⟩ rfl ⟨rfl, rfl⟩ ⟨rfl, rfl⟩ ?_
          refine k_goto G (dc d_Mo_sumOf 20 rfl) (tgt := 56) rfl ?_
          refine k_sub [0, 1, 3] rfl ?_
          have h9 := kOk_s h
          exact h9
theorem c_Mo_sumOf {l : Launch} {B : KB} {L : KLay} {M : KMem} {u : Nat} {p0 : Int32} (hst : l.stackTraces = false) (hu : okL L u moT) {r : Int32} {M' : KMem} (e : m_Mo_sumOf u p0 M = some (r, M')) : CtrN l B yX11_sumOf cX11_sumOf 4 (some .int) rm_Mo_sumOf [.ref (B.1 + u), .int p0] L M (some (.int r)) L M' :=
  mk_I rfl hst rfl (fun X hl G _ R => b_Mo_sumOf G hu ⟨_, e, R⟩)
def I_Mo_told : List (Nat × Instr × Nat) := [(0, .iload_n 1, 1), (1, .tableswitch 92 0 11 #[63, 70, 78, 92, 92, 92, 92, 92, 92, 83, 83, 83], 63), (64, .aload_n 0, 1), (65, .getfield 7, 3), (68, .iconst 0, 1), (69, .iaload, 1), (70, .ireturn, 1), (71, .aload_n 0, 1), (72, .getfield 7, 3), (75, .bipush 41, 2), (77, .iaload, 1), (78, .ireturn, 1), (79, .aload_n 0, 1), (80, .invokevirtual 105, 3), (83, .ireturn, 1), (84, .aload_n 0, 1), (85, .iload_n 1, 1), (86, .bipush 9, 2), (88, .isub, 1), (89, .invokevirtual 204, 3), (92, .ireturn, 1), (93, .aload_n 0, 1), (94, .getfield 7, 3), (97, .bipush 92, 2), (99, .iload_n 1, 1), (100, .iadd, 1), (101, .iconst 3, 1), (102, .isub, 1), (103, .iaload, 1), (104, .ireturn, 1)]
set_option maxRecDepth 100000 in
theorem d_Mo_told : decA cX11_told I_Mo_told = true := by decide +kernel
abbrev rm_Mo_told : Room := ({ frames := 8, cells := 0, slots := 0, locals := 187 } : Room)
def m_Mo_told (u : Nat) (p0 : Int32) (M : KMem) : Option (Int32 × KMem) :=
 if p0 = 0 then
 (Option.bind (rdI M (u + 1) 108 0) fun x6 =>
 some (x6, M))
 else
 (if p0 = 1 then
 (Option.bind (rdI M (u + 1) 108 41) fun x9 =>
 some (x9, M))
 else
 (if p0 = 2 then
 (Option.bind (m_Mo_wrongs u M) fun x12 =>
 some (x12, M))
 else
 (if p0 = 9 ∨ p0 = 10 ∨ p0 = 11 then
 (Option.bind (m_Mo_sumOf u (p0 - 9) M) fun (x15, M16) =>
 some (x15, M16))
 else
 (Option.bind (rdI M (u + 1) 108 ((92 + p0) - 3)) fun x19 =>
 some (x19, M)))))
set_option maxHeartbeats 4000000 in
set_option maxRecDepth 100000 in
theorem b_Mo_told {X : KX} {B : KB} {L : KLay} {M : KMem} {u : Nat} {p0 : Int32} (G : Good X B RX11 cX11_told 2 rm_Mo_told) (hu : okL L u moT) (h : kOk (m_Mo_told u p0 M) (fun r => RI X B L 2 cX11_told .int rm_Mo_told r.1 r.2)) : KK X B L 2 0 0 M 0 [(0, .ref (B.1 + u)), (1, .int p0)] [] := by
  unfold m_Mo_told at h
  refine k_iload_n G (dc d_Mo_told 0 rfl) 1 rfl rfl ?_
  by_cases c1 : p0 = 0
  · replace h := kOk_p c1 h
    refine k_tsI G (dc d_Mo_told 1 rfl) (off := 63) (tgt := 64) c1 (by decide) (by decide) (by decide) (by decide) ?_
    refine k_aload_n G (dc d_Mo_told 2 rfl) 0 rfl rfl ?_
    refine k_getR G kc8 (dc d_Mo_told 3 rfl) (okL_lt hu (o := 0) 0 rfl) (okL_k hu (o := 0) 0 rfl) 1 (by decide) rfl fl_RX11_7 (u + 1) (okL_r hu (o := 0) (c := 1) 0 rfl 0 rfl) ?_
    refine k_iconst G (dc d_Mo_told 4 rfl) cI_0 ?_
    obtain ⟨x6, e5, h⟩ := kOk_b h
    refine k_ild G (dc d_Mo_told 5 rfl) (okL_lt hu (o := 1) 1 rfl) (okL_k hu (o := 1) 1 rfl) (okL_n hu (o := 1) 1 rfl) e5 ?_
    exact (kOk_s h) _ _ _ _ rfl rfl rfl (dc d_Mo_told 6 rfl)
  · replace h := kOk_n c1 h
    by_cases c2 : p0 = 1
    · replace h := kOk_p c2 h
      refine k_tsI G (dc d_Mo_told 1 rfl) (off := 70) (tgt := 71) c2 (by decide) (by decide) (by decide) (by decide) ?_
      refine k_aload_n G (dc d_Mo_told 7 rfl) 0 rfl rfl ?_
      refine k_getR G kc8 (dc d_Mo_told 8 rfl) (okL_lt hu (o := 0) 0 rfl) (okL_k hu (o := 0) 0 rfl) 1 (by decide) rfl fl_RX11_7 (u + 1) (okL_r hu (o := 0) (c := 1) 0 rfl 0 rfl) ?_
      refine k_bipush G (dc d_Mo_told 9 rfl) cB_41 ?_
      obtain ⟨x9, e8, h⟩ := kOk_b h
      refine k_ild G (dc d_Mo_told 10 rfl) (okL_lt hu (o := 1) 1 rfl) (okL_k hu (o := 1) 1 rfl) (okL_n hu (o := 1) 1 rfl) e8 ?_
      exact (kOk_s h) _ _ _ _ rfl rfl rfl (dc d_Mo_told 11 rfl)
    · replace h := kOk_n c2 h
      by_cases c3 : p0 = 2
      · replace h := kOk_p c3 h
        refine k_tsI G (dc d_Mo_told 1 rfl) (off := 78) (tgt := 79) c3 (by decide) (by decide) (by decide) (by decide) ?_
        refine k_aload_n G (dc d_Mo_told 12 rfl) 0 rfl rfl ?_
        obtain ⟨x12, e11, h⟩ := kOk_b h
        refine k_cVI G (dc d_Mo_told 13 rfl) kc8 (okL_lt hu (o := 0) 0 rfl) (okL_k hu (o := 0) 0 rfl) mi_Mo_wrongs mv_Mo_wrongs rfl ml_RX11_105 (c_Mo_wrongs (gst G) hu e11) rfl rfl ⟨rfl, rfl⟩ rfl ⟨rfl, rfl⟩ ⟨rfl, rfl⟩ ?_
        exact (kOk_s h) _ _ _ _ rfl rfl rfl (dc d_Mo_told 14 rfl)
      · replace h := kOk_n c3 h
        by_cases c4 : p0 = 9 ∨ p0 = 10 ∨ p0 = 11
        · replace h := kOk_p c4 h
          have hA17 : KK X B L 2 0 0 M 84 [(0, .ref (B.1 + u)), (1, .int p0)] [] := by
            refine k_aload_n G (dc d_Mo_told 15 rfl) 0 rfl rfl ?_
            refine k_iload_n G (dc d_Mo_told 16 rfl) 1 rfl rfl ?_
            refine k_bipush G (dc d_Mo_told 17 rfl) cB_9 ?_
            refine k_isub G (dc d_Mo_told 18 rfl) ?_
            obtain ⟨⟨x15, M16⟩, e14, h⟩ := kOk_b h
            refine k_cVI G (dc d_Mo_told 19 rfl) kc8 (okL_lt hu (o := 0) 0 rfl) (okL_k hu (o := 0) 0 rfl) mi_Mo_sumOf mv_Mo_sumOf rfl ml_RX11_204 (c_Mo_sumOf (gst G) hu e14) rfl rfl ⟨rfl, rfl⟩ rfl ⟨rfl, rfl⟩ ⟨rfl, rfl⟩ ?_
            exact (kOk_s h) _ _ _ _ rfl rfl rfl (dc d_Mo_told 20 rfl)
          rcases c4 with c4 | c4 | c4
          · exact k_tsI G (dc d_Mo_told 1 rfl) (off := 83) (tgt := 84) c4 (by decide) (by decide) (by decide) (by decide) hA17
          · exact k_tsI G (dc d_Mo_told 1 rfl) (off := 83) (tgt := 84) c4 (by decide) (by decide) (by decide) (by decide) hA17
          · exact k_tsI G (dc d_Mo_told 1 rfl) (off := 83) (tgt := 84) c4 (by decide) (by decide) (by decide) (by decide) hA17
        · replace h := kOk_n c4 h
          have hD20 : KK X B L 2 0 0 M 93 [(0, .ref (B.1 + u)), (1, .int p0)] [] := by
            refine k_aload_n G (dc d_Mo_told 21 rfl) 0 rfl rfl ?_
            refine k_getR G kc8 (dc d_Mo_told 22 rfl) (okL_lt hu (o := 0) 0 rfl) (okL_k hu (o := 0) 0 rfl) 1 (by decide) rfl fl_RX11_7 (u + 1) (okL_r hu (o := 0) (c := 1) 0 rfl 0 rfl) ?_
            refine k_bipush G (dc d_Mo_told 23 rfl) cB_92 ?_
            refine k_iload_n G (dc d_Mo_told 24 rfl) 1 rfl rfl ?_
            refine k_iadd G (dc d_Mo_told 25 rfl) ?_
            refine k_iconst G (dc d_Mo_told 26 rfl) cI_3 ?_
            refine k_isub G (dc d_Mo_told 27 rfl) ?_
            obtain ⟨x19, e18, h⟩ := kOk_b h
            refine k_ild G (dc d_Mo_told 28 rfl) (okL_lt hu (o := 1) 1 rfl) (okL_k hu (o := 1) 1 rfl) (okL_n hu (o := 1) 1 rfl) e18 ?_
            exact (kOk_s h) _ _ _ _ rfl rfl rfl (dc d_Mo_told 29 rfl)
          rcases ts_out p0 0 11 with ho | ⟨k9, h91, h92, h93⟩
          · exact k_tableOut G (dc d_Mo_told 1 rfl) (tgt := 93) ho rfl hD20
          · have h94 : k9 = 0 ∨ k9 = 1 ∨ k9 = 2 ∨ k9 = 3 ∨ k9 = 4 ∨ k9 = 5 ∨ k9 = 6 ∨ k9 = 7 ∨ k9 = 8 ∨ k9 = 9 ∨ k9 = 10 ∨ k9 = 11 := by omega
            rcases h94 with rfl | rfl | rfl | rfl | rfl | rfl | rfl | rfl | rfl | rfl | rfl | rfl
            · exact absurd (h93.trans cI_0) c1
            · exact absurd (h93.trans cI_1) c2
            · exact absurd (h93.trans cI_2) c3
            · exact k_tsI G (dc d_Mo_told 1 rfl) (off := 92) (tgt := 93) (h93.trans cI_3) (by decide) (by decide) (by decide) (by decide) hD20
            · exact k_tsI G (dc d_Mo_told 1 rfl) (off := 92) (tgt := 93) (h93.trans cI_4) (by decide) (by decide) (by decide) (by decide) hD20
            · exact k_tsI G (dc d_Mo_told 1 rfl) (off := 92) (tgt := 93) (h93.trans cI_5) (by decide) (by decide) (by decide) (by decide) hD20
            · exact k_tsI G (dc d_Mo_told 1 rfl) (off := 92) (tgt := 93) (h93.trans cI_6) (by decide) (by decide) (by decide) (by decide) hD20
            · exact k_tsI G (dc d_Mo_told 1 rfl) (off := 92) (tgt := 93) (h93.trans cI_7) (by decide) (by decide) (by decide) (by decide) hD20
            · exact k_tsI G (dc d_Mo_told 1 rfl) (off := 92) (tgt := 93) (h93.trans cI_8) (by decide) (by decide) (by decide) (by decide) hD20
            · exact absurd (Or.inl (h93.trans cI_9)) c4
            · exact absurd (Or.inr (Or.inl (h93.trans cI_10))) c4
            · exact absurd (Or.inr (Or.inr ((h93.trans cI_11)))) c4
theorem c_Mo_told {l : Launch} {B : KB} {L : KLay} {M : KMem} {u : Nat} {p0 : Int32} (hst : l.stackTraces = false) (hu : okL L u moT) {r : Int32} {M' : KMem} (e : m_Mo_told u p0 M = some (r, M')) : CtrN l B yX11_told cX11_told 2 (some .int) rm_Mo_told [.ref (B.1 + u), .int p0] L M (some (.int r)) L M' :=
  mk_I rfl hst rfl (fun X hl G _ R => b_Mo_told G hu ⟨_, e, R⟩)
def I_Mo_about : List (Nat × Instr × Nat) := [(0, .aload_n 0, 1), (1, .iload_n 1, 1), (2, .iconst 0, 1), (3, .bipush 11, 2), (5, .invokestatic 41, 3), (8, .ifCond .eq 7, 3), (11, .iconst 0, 1), (12, .goto 4, 3), (15, .iconst 1, 1), (16, .invokevirtual 164, 3), (19, .ifCond .eq 11, 3), (22, .aload_n 0, 1), (23, .iload_n 1, 1), (24, .invokevirtual 207, 3), (27, .goto 4, 3), (30, .iconst 0, 1), (31, .ireturn, 1)]
set_option maxRecDepth 100000 in
theorem d_Mo_about : decA cX11_about I_Mo_about = true := by decide +kernel
abbrev rm_Mo_about : Room := ({ frames := 9, cells := 0, slots := 0, locals := 208 } : Room)
def m_Mo_about (u : Nat) (p0 : Int32) (M : KMem) : Option (Int32 × KMem) :=
 Option.bind (m_Mo_in p0 0 11) fun x2 =>
 Option.bind (α := Int32) (if x2 = 0 then
 (some 1)
 else
 (some 0)) fun t3 =>
 Option.bind (m_Mo_holds u t3 M) fun (x6, M7) =>
 Option.bind (α := Int32 × KMem) (if x6 = 0 then
 (some (0, M7))
 else
 (Option.bind (m_Mo_told u p0 M7) fun (x13, M14) =>
 some (x13, M14))) fun (t8, M9) =>
 some (t8, M9)
set_option maxHeartbeats 4000000 in
set_option maxRecDepth 100000 in
theorem b_Mo_about {X : KX} {B : KB} {L : KLay} {M : KMem} {u : Nat} {p0 : Int32} (G : Good X B RX11 cX11_about 2 rm_Mo_about) (hu : okL L u moT) (h : kOk (m_Mo_about u p0 M) (fun r => RI X B L 2 cX11_about .int rm_Mo_about r.1 r.2)) : KK X B L 2 0 0 M 0 [(0, .ref (B.1 + u)), (1, .int p0)] [] := by
  unfold m_Mo_about at h
  refine k_aload_n G (dc d_Mo_about 0 rfl) 0 rfl rfl ?_
  refine k_iload_n G (dc d_Mo_about 1 rfl) 1 rfl rfl ?_
  refine k_iconst G (dc d_Mo_about 2 rfl) cI_0 ?_
  refine k_bipush G (dc d_Mo_about 3 rfl) cB_11 ?_
  obtain ⟨x2, e1, h⟩ := kOk_b h
  refine k_cSI G (dc d_Mo_about 4 rfl) mi_Mo_in ms_Mo_in ml_RX11_41 (c_Mo_in (gst G)  e1) rfl rfl ⟨rfl, rfl⟩ rfl ⟨rfl, rfl⟩ ⟨rfl, rfl⟩ ?_
  refine kJ h (fun r4 => KK X B L 2 0 0 M 16 [(0, .ref (B.1 + u)), (1, .int p0)] [.int r4, .ref (B.1 + u)]) (fun r4 h => ?_) (fun h => ?_)
  · obtain ⟨t3, rfl⟩ : ∃ z, z = r4 := ⟨_, rfl⟩
    show KK X B L 2 0 0 M 16 [(0, .ref (B.1 + u)), (1, .int p0)] [.int t3, .ref (B.1 + u)]
    obtain ⟨⟨x6, M7⟩, e5, h⟩ := kOk_b h
    refine k_cVI G (dc d_Mo_about 9 rfl) kc8 (okL_lt hu (o := 0) 0 rfl) (okL_k hu (o := 0) 0 rfl) mi_Mo_holds mv_Mo_holds rfl ml_RX11_164 (c_Mo_holds (gst G) hu e5) rfl rfl ⟨rfl, rfl⟩ rfl ⟨rfl, rfl⟩ ⟨rfl, rfl⟩ ?_
    refine kJ h (fun r10 => KK X B L 2 0 0 r10.2 31 [] [.int r10.1]) (fun r10 h => ?_) (fun h => ?_)
    · obtain ⟨t8, M9⟩ := r10
      show KK X B L 2 0 0 M9 31 [] [.int t8]
      exact (kOk_s h) _ _ _ _ rfl rfl rfl (dc d_Mo_about 16 rfl)
    · refine k_if_eq G (dc d_Mo_about 10 rfl) (tgt := 30) rfl (fun c11 => ?_) (fun c11 => ?_)
      · replace h := kOk_p c11 h
        refine k_iconst G (dc d_Mo_about 15 rfl) cI_0 ?_
        refine k_sub [] rfl ?_
        have h9 := kOk_s h
        exact h9
      · replace h := kOk_n c11 h
        refine k_aload_n G (dc d_Mo_about 11 rfl) 0 rfl rfl ?_
        refine k_iload_n G (dc d_Mo_about 12 rfl) 1 rfl rfl ?_
        obtain ⟨⟨x13, M14⟩, e12, h⟩ := kOk_b h
        refine k_cVI G (dc d_Mo_about 13 rfl) kc8 (okL_lt hu (o := 0) 0 rfl) (okL_k hu (o := 0) 0 rfl) mi_Mo_told mv_Mo_told rfl ml_RX11_207 (c_Mo_told (gst G) hu e12) rfl rfl ⟨rfl, rfl⟩ rfl ⟨rfl, rfl⟩ ⟨rfl, rfl⟩ ?_
        refine k_goto G (dc d_Mo_about 14 rfl) (tgt := 31) rfl ?_
        refine k_sub [] rfl ?_
        have h9 := kOk_s h
        exact h9
  · refine k_if_eq G (dc d_Mo_about 5 rfl) (tgt := 15) rfl (fun c15 => ?_) (fun c15 => ?_)
    · replace h := kOk_p c15 h
      refine k_iconst G (dc d_Mo_about 8 rfl) cI_1 ?_
      have h9 := kOk_s h
      exact h9
    · replace h := kOk_n c15 h
      refine k_iconst G (dc d_Mo_about 6 rfl) cI_0 ?_
      refine k_goto G (dc d_Mo_about 7 rfl) (tgt := 16) rfl ?_
      have h9 := kOk_s h
      exact h9
theorem c_Mo_about {l : Launch} {B : KB} {L : KLay} {M : KMem} {u : Nat} {p0 : Int32} (hst : l.stackTraces = false) (hu : okL L u moT) {r : Int32} {M' : KMem} (e : m_Mo_about u p0 M = some (r, M')) : CtrN l B yX11_about cX11_about 2 (some .int) rm_Mo_about [.ref (B.1 + u), .int p0] L M (some (.int r)) L M' :=
  mk_I rfl hst rfl (fun X hl G _ R => b_Mo_about G hu ⟨_, e, R⟩)
def I_Mo_ofSign : List (Nat × Instr × Nat) := [(0, .iload_n 2, 1), (1, .tableswitch 74 3 7 #[35, 49, 55, 61, 61], 35), (36, .aload_n 0, 1), (37, .iload_n 1, 1), (38, .invokevirtual 85, 3), (41, .ifCond .eq 7, 3), (44, .iconst 1, 1), (45, .goto 4, 3), (48, .iconst 0, 1), (49, .ireturn, 1), (50, .aload_n 0, 1), (51, .iload_n 1, 1), (52, .invokevirtual 82, 3), (55, .ireturn, 1), (56, .aload_n 0, 1), (57, .iload_n 1, 1), (58, .invokevirtual 102, 3), (61, .ireturn, 1), (62, .aload_n 0, 1), (63, .getfield 7, 3), (66, .iload_n 1, 1), (67, .iload_n 2, 1), (68, .iconst 3, 1), (69, .isub, 1), (70, .invokestatic 67, 3), (73, .iaload, 1), (74, .ireturn, 1), (75, .aload_n 0, 1), (76, .getfield 7, 3), (79, .iload_n 1, 1), (80, .iload_n 2, 1), (81, .invokestatic 67, 3), (84, .iaload, 1), (85, .ireturn, 1)]
set_option maxRecDepth 100000 in
theorem d_Mo_ofSign : decA cX11_ofSign I_Mo_ofSign = true := by decide +kernel
abbrev rm_Mo_ofSign : Room := ({ frames := 7, cells := 0, slots := 0, locals := 164 } : Room)
def m_Mo_ofSign (u : Nat) (p0 : Int32) (p1 : Int32) (M : KMem) : Option (Int32 × KMem) :=
 if p1 = 3 then
 (Option.bind (m_Mo_isWrong u p0 M) fun x6 =>
 Option.bind (α := Int32) (if x6 = 0 then
 (some 0)
 else
 (some 1)) fun t7 =>
 some (t7, M))
 else
 (if p1 = 4 then
 (Option.bind (m_Mo_apartBy u p0 M) fun (x12, M13) =>
 some (x12, M13))
 else
 (if p1 = 5 then
 (Option.bind (m_Mo_costOf u p0 M) fun (x16, M17) =>
 some (x16, M17))
 else
 (if p1 = 6 ∨ p1 = 7 then
 (Option.bind (m_Mo_of p0 (p1 - 3)) fun x20 =>
 Option.bind (rdI M (u + 1) 108 x20) fun x22 =>
 some (x22, M))
 else
 (Option.bind (m_Mo_of p0 p1) fun x25 =>
 Option.bind (rdI M (u + 1) 108 x25) fun x27 =>
 some (x27, M)))))
set_option maxHeartbeats 4000000 in
set_option maxRecDepth 100000 in
theorem b_Mo_ofSign {X : KX} {B : KB} {L : KLay} {M : KMem} {u : Nat} {p0 : Int32} {p1 : Int32} (G : Good X B RX11 cX11_ofSign 3 rm_Mo_ofSign) (hu : okL L u moT) (h : kOk (m_Mo_ofSign u p0 p1 M) (fun r => RI X B L 3 cX11_ofSign .int rm_Mo_ofSign r.1 r.2)) : KK X B L 3 0 0 M 0 [(0, .ref (B.1 + u)), (1, .int p0), (2, .int p1)] [] := by
  unfold m_Mo_ofSign at h
  refine k_iload_n G (dc d_Mo_ofSign 0 rfl) 2 rfl rfl ?_
  by_cases c1 : p1 = 3
  · replace h := kOk_p c1 h
    refine k_tsI G (dc d_Mo_ofSign 1 rfl) (off := 35) (tgt := 36) c1 (by decide) (by decide) (by decide) (by decide) ?_
    refine k_aload_n G (dc d_Mo_ofSign 2 rfl) 0 rfl rfl ?_
    refine k_iload_n G (dc d_Mo_ofSign 3 rfl) 1 rfl rfl ?_
    obtain ⟨x6, e5, h⟩ := kOk_b h
    refine k_cVI G (dc d_Mo_ofSign 4 rfl) kc8 (okL_lt hu (o := 0) 0 rfl) (okL_k hu (o := 0) 0 rfl) mi_Mo_isWrong mv_Mo_isWrong rfl ml_RX11_85 (c_Mo_isWrong (gst G) hu e5) rfl rfl ⟨rfl, rfl⟩ rfl ⟨rfl, rfl⟩ ⟨rfl, rfl⟩ ?_
    refine kJ h (fun r8 => KK X B L 3 0 0 M 49 [] [.int r8]) (fun r8 h => ?_) (fun h => ?_)
    · obtain ⟨t7, rfl⟩ : ∃ z, z = r8 := ⟨_, rfl⟩
      show KK X B L 3 0 0 M 49 [] [.int t7]
      exact (kOk_s h) _ _ _ _ rfl rfl rfl (dc d_Mo_ofSign 9 rfl)
    · refine k_if_eq G (dc d_Mo_ofSign 5 rfl) (tgt := 48) rfl (fun c9 => ?_) (fun c9 => ?_)
      · replace h := kOk_p c9 h
        refine k_iconst G (dc d_Mo_ofSign 8 rfl) cI_0 ?_
        refine k_sub [] rfl ?_
        have h9 := kOk_s h
        exact h9
      · replace h := kOk_n c9 h
        refine k_iconst G (dc d_Mo_ofSign 6 rfl) cI_1 ?_
        refine k_goto G (dc d_Mo_ofSign 7 rfl) (tgt := 49) rfl ?_
        refine k_sub [] rfl ?_
        have h9 := kOk_s h
        exact h9
  · replace h := kOk_n c1 h
    by_cases c2 : p1 = 4
    · replace h := kOk_p c2 h
      refine k_tsI G (dc d_Mo_ofSign 1 rfl) (off := 49) (tgt := 50) c2 (by decide) (by decide) (by decide) (by decide) ?_
      refine k_aload_n G (dc d_Mo_ofSign 10 rfl) 0 rfl rfl ?_
      refine k_iload_n G (dc d_Mo_ofSign 11 rfl) 1 rfl rfl ?_
      obtain ⟨⟨x12, M13⟩, e11, h⟩ := kOk_b h
      refine k_cVI G (dc d_Mo_ofSign 12 rfl) kc8 (okL_lt hu (o := 0) 0 rfl) (okL_k hu (o := 0) 0 rfl) mi_Mo_apartBy mv_Mo_apartBy rfl ml_RX11_82 (c_Mo_apartBy (gst G) hu e11) rfl rfl ⟨rfl, rfl⟩ rfl ⟨rfl, rfl⟩ ⟨rfl, rfl⟩ ?_
      exact (kOk_s h) _ _ _ _ rfl rfl rfl (dc d_Mo_ofSign 13 rfl)
    · replace h := kOk_n c2 h
      by_cases c3 : p1 = 5
      · replace h := kOk_p c3 h
        refine k_tsI G (dc d_Mo_ofSign 1 rfl) (off := 55) (tgt := 56) c3 (by decide) (by decide) (by decide) (by decide) ?_
        refine k_aload_n G (dc d_Mo_ofSign 14 rfl) 0 rfl rfl ?_
        refine k_iload_n G (dc d_Mo_ofSign 15 rfl) 1 rfl rfl ?_
        obtain ⟨⟨x16, M17⟩, e15, h⟩ := kOk_b h
        refine k_cVI G (dc d_Mo_ofSign 16 rfl) kc8 (okL_lt hu (o := 0) 0 rfl) (okL_k hu (o := 0) 0 rfl) mi_Mo_costOf mv_Mo_costOf rfl ml_RX11_102 (c_Mo_costOf (gst G) hu e15) rfl rfl ⟨rfl, rfl⟩ rfl ⟨rfl, rfl⟩ ⟨rfl, rfl⟩ ?_
        exact (kOk_s h) _ _ _ _ rfl rfl rfl (dc d_Mo_ofSign 17 rfl)
      · replace h := kOk_n c3 h
        by_cases c4 : p1 = 6 ∨ p1 = 7
        · replace h := kOk_p c4 h
          have hA23 : KK X B L 3 0 0 M 62 [(0, .ref (B.1 + u)), (1, .int p0), (2, .int p1)] [] := by
            refine k_aload_n G (dc d_Mo_ofSign 18 rfl) 0 rfl rfl ?_
            refine k_getR G kc8 (dc d_Mo_ofSign 19 rfl) (okL_lt hu (o := 0) 0 rfl) (okL_k hu (o := 0) 0 rfl) 1 (by decide) rfl fl_RX11_7 (u + 1) (okL_r hu (o := 0) (c := 1) 0 rfl 0 rfl) ?_
            refine k_iload_n G (dc d_Mo_ofSign 20 rfl) 1 rfl rfl ?_
            refine k_iload_n G (dc d_Mo_ofSign 21 rfl) 2 rfl rfl ?_
            refine k_iconst G (dc d_Mo_ofSign 22 rfl) cI_3 ?_
            refine k_isub G (dc d_Mo_ofSign 23 rfl) ?_
            obtain ⟨x20, e19, h⟩ := kOk_b h
            refine k_cSI G (dc d_Mo_ofSign 24 rfl) mi_Mo_of ms_Mo_of ml_RX11_67 (c_Mo_of (gst G)  e19) rfl rfl ⟨rfl, rfl⟩ rfl ⟨rfl, rfl⟩ ⟨rfl, rfl⟩ ?_
            obtain ⟨x22, e21, h⟩ := kOk_b h
            refine k_ild G (dc d_Mo_ofSign 25 rfl) (okL_lt hu (o := 1) 1 rfl) (okL_k hu (o := 1) 1 rfl) (okL_n hu (o := 1) 1 rfl) e21 ?_
            exact (kOk_s h) _ _ _ _ rfl rfl rfl (dc d_Mo_ofSign 26 rfl)
          rcases c4 with c4 | c4
          · exact k_tsI G (dc d_Mo_ofSign 1 rfl) (off := 61) (tgt := 62) c4 (by decide) (by decide) (by decide) (by decide) hA23
          · exact k_tsI G (dc d_Mo_ofSign 1 rfl) (off := 61) (tgt := 62) c4 (by decide) (by decide) (by decide) (by decide) hA23
        · replace h := kOk_n c4 h
          have hD28 : KK X B L 3 0 0 M 75 [(0, .ref (B.1 + u)), (1, .int p0), (2, .int p1)] [] := by
            refine k_aload_n G (dc d_Mo_ofSign 27 rfl) 0 rfl rfl ?_
            refine k_getR G kc8 (dc d_Mo_ofSign 28 rfl) (okL_lt hu (o := 0) 0 rfl) (okL_k hu (o := 0) 0 rfl) 1 (by decide) rfl fl_RX11_7 (u + 1) (okL_r hu (o := 0) (c := 1) 0 rfl 0 rfl) ?_
            refine k_iload_n G (dc d_Mo_ofSign 29 rfl) 1 rfl rfl ?_
            refine k_iload_n G (dc d_Mo_ofSign 30 rfl) 2 rfl rfl ?_
            obtain ⟨x25, e24, h⟩ := kOk_b h
            refine k_cSI G (dc d_Mo_ofSign 31 rfl) mi_Mo_of ms_Mo_of ml_RX11_67 (c_Mo_of (gst G)  e24) rfl rfl ⟨rfl, rfl⟩ rfl ⟨rfl, rfl⟩ ⟨rfl, rfl⟩ ?_
            obtain ⟨x27, e26, h⟩ := kOk_b h
            refine k_ild G (dc d_Mo_ofSign 32 rfl) (okL_lt hu (o := 1) 1 rfl) (okL_k hu (o := 1) 1 rfl) (okL_n hu (o := 1) 1 rfl) e26 ?_
            exact (kOk_s h) _ _ _ _ rfl rfl rfl (dc d_Mo_ofSign 33 rfl)
          rcases ts_out p1 3 7 with ho | ⟨k9, h91, h92, h93⟩
          · exact k_tableOut G (dc d_Mo_ofSign 1 rfl) (tgt := 75) ho rfl hD28
          · have h94 : k9 = 3 ∨ k9 = 4 ∨ k9 = 5 ∨ k9 = 6 ∨ k9 = 7 := by omega
            rcases h94 with rfl | rfl | rfl | rfl | rfl
            · exact absurd (h93.trans cI_3) c1
            · exact absurd (h93.trans cI_4) c2
            · exact absurd (h93.trans cI_5) c3
            · exact absurd (Or.inl (h93.trans cI_6)) c4
            · exact absurd (Or.inr ((h93.trans cI_7))) c4
theorem c_Mo_ofSign {l : Launch} {B : KB} {L : KLay} {M : KMem} {u : Nat} {p0 : Int32} {p1 : Int32} (hst : l.stackTraces = false) (hu : okL L u moT) {r : Int32} {M' : KMem} (e : m_Mo_ofSign u p0 p1 M = some (r, M')) : CtrN l B yX11_ofSign cX11_ofSign 3 (some .int) rm_Mo_ofSign [.ref (B.1 + u), .int p0, .int p1] L M (some (.int r)) L M' :=
  mk_I rfl hst rfl (fun X hl G _ R => b_Mo_ofSign G hu ⟨_, e, R⟩)
def I_Mo_signOf : List (Nat × Instr × Nat) := [(0, .aload_n 0, 1), (1, .aload_n 0, 1), (2, .iload_n 1, 1), (3, .invokevirtual 146, 3), (6, .ifCond .ne 7, 3), (9, .iconst 1, 1), (10, .goto 18, 3), (13, .iload_n 2, 1), (14, .iconst 0, 1), (15, .bipush 7, 2), (17, .invokestatic 41, 3), (20, .ifCond .eq 7, 3), (23, .iconst 0, 1), (24, .goto 4, 3), (27, .iconst 2, 1), (28, .invokevirtual 164, 3), (31, .ifCond .eq 12, 3), (34, .aload_n 0, 1), (35, .iload_n 1, 1), (36, .iload_n 2, 1), (37, .invokevirtual 210, 3), (40, .goto 4, 3), (43, .iconst 0, 1), (44, .ireturn, 1)]
set_option maxRecDepth 100000 in
theorem d_Mo_signOf : decA cX11_signOf I_Mo_signOf = true := by decide +kernel
abbrev rm_Mo_signOf : Room := ({ frames := 8, cells := 0, slots := 0, locals := 186 } : Room)
def m_Mo_signOf (u : Nat) (p0 : Int32) (p1 : Int32) (M : KMem) : Option (Int32 × KMem) :=
 Option.bind (m_Mo_isSign u p0 M) fun x2 =>
 Option.bind (α := Int32) (if x2 = 0 then
 (some 1)
 else
 (Option.bind (m_Mo_in p1 0 7) fun x17 =>
 if x17 = 0 then
 (some 2)
 else
 (some 0))) fun t3 =>
 Option.bind (m_Mo_holds u t3 M) fun (x6, M7) =>
 Option.bind (α := Int32 × KMem) (if x6 = 0 then
 (some (0, M7))
 else
 (Option.bind (m_Mo_ofSign u p0 p1 M7) fun (x13, M14) =>
 some (x13, M14))) fun (t8, M9) =>
 some (t8, M9)
set_option maxHeartbeats 4000000 in
set_option maxRecDepth 100000 in
theorem b_Mo_signOf {X : KX} {B : KB} {L : KLay} {M : KMem} {u : Nat} {p0 : Int32} {p1 : Int32} (G : Good X B RX11 cX11_signOf 3 rm_Mo_signOf) (hu : okL L u moT) (h : kOk (m_Mo_signOf u p0 p1 M) (fun r => RI X B L 3 cX11_signOf .int rm_Mo_signOf r.1 r.2)) : KK X B L 3 0 0 M 0 [(0, .ref (B.1 + u)), (1, .int p0), (2, .int p1)] [] := by
  unfold m_Mo_signOf at h
  refine k_aload_n G (dc d_Mo_signOf 0 rfl) 0 rfl rfl ?_
  refine k_aload_n G (dc d_Mo_signOf 1 rfl) 0 rfl rfl ?_
  refine k_iload_n G (dc d_Mo_signOf 2 rfl) 1 rfl rfl ?_
  obtain ⟨x2, e1, h⟩ := kOk_b h
  refine k_cVI G (dc d_Mo_signOf 3 rfl) kc8 (okL_lt hu (o := 0) 0 rfl) (okL_k hu (o := 0) 0 rfl) mi_Mo_isSign mv_Mo_isSign rfl ml_RX11_146 (c_Mo_isSign (gst G) hu e1) rfl rfl ⟨rfl, rfl⟩ rfl ⟨rfl, rfl⟩ ⟨rfl, rfl⟩ ?_
  refine kJ h (fun r4 => KK X B L 3 0 0 M 28 [(0, .ref (B.1 + u)), (1, .int p0), (2, .int p1)] [.int r4, .ref (B.1 + u)]) (fun r4 h => ?_) (fun h => ?_)
  · obtain ⟨t3, rfl⟩ : ∃ z, z = r4 := ⟨_, rfl⟩
    show KK X B L 3 0 0 M 28 [(0, .ref (B.1 + u)), (1, .int p0), (2, .int p1)] [.int t3, .ref (B.1 + u)]
    obtain ⟨⟨x6, M7⟩, e5, h⟩ := kOk_b h
    refine k_cVI G (dc d_Mo_signOf 15 rfl) kc8 (okL_lt hu (o := 0) 0 rfl) (okL_k hu (o := 0) 0 rfl) mi_Mo_holds mv_Mo_holds rfl ml_RX11_164 (c_Mo_holds (gst G) hu e5) rfl rfl ⟨rfl, rfl⟩ rfl ⟨rfl, rfl⟩ ⟨rfl, rfl⟩ ?_
    refine kJ h (fun r10 => KK X B L 3 0 0 r10.2 44 [] [.int r10.1]) (fun r10 h => ?_) (fun h => ?_)
    · obtain ⟨t8, M9⟩ := r10
      show KK X B L 3 0 0 M9 44 [] [.int t8]
      exact (kOk_s h) _ _ _ _ rfl rfl rfl (dc d_Mo_signOf 23 rfl)
    · refine k_if_eq G (dc d_Mo_signOf 16 rfl) (tgt := 43) rfl (fun c11 => ?_) (fun c11 => ?_)
      · replace h := kOk_p c11 h
        refine k_iconst G (dc d_Mo_signOf 22 rfl) cI_0 ?_
        refine k_sub [] rfl ?_
        have h9 := kOk_s h
        exact h9
      · replace h := kOk_n c11 h
        refine k_aload_n G (dc d_Mo_signOf 17 rfl) 0 rfl rfl ?_
        refine k_iload_n G (dc d_Mo_signOf 18 rfl) 1 rfl rfl ?_
        refine k_iload_n G (dc d_Mo_signOf 19 rfl) 2 rfl rfl ?_
        obtain ⟨⟨x13, M14⟩, e12, h⟩ := kOk_b h
        refine k_cVI G (dc d_Mo_signOf 20 rfl) kc8 (okL_lt hu (o := 0) 0 rfl) (okL_k hu (o := 0) 0 rfl) mi_Mo_ofSign mv_Mo_ofSign rfl ml_RX11_210 (c_Mo_ofSign (gst G) hu e12) rfl rfl ⟨rfl, rfl⟩ rfl ⟨rfl, rfl⟩ ⟨rfl, rfl⟩ ?_
        refine k_goto G (dc d_Mo_signOf 21 rfl) (tgt := 44) rfl ?_
        refine k_sub [] rfl ?_
        have h9 := kOk_s h
        exact h9
  · refine k_if_ne G (dc d_Mo_signOf 4 rfl) (tgt := 13) rfl (fun c15 => ?_) (fun c15 => ?_)
    · replace h := kOk_n c15 h
      refine k_iload_n G (dc d_Mo_signOf 7 rfl) 2 rfl rfl ?_
      refine k_iconst G (dc d_Mo_signOf 8 rfl) cI_0 ?_
      refine k_bipush G (dc d_Mo_signOf 9 rfl) cB_7 ?_
      obtain ⟨x17, e16, h⟩ := kOk_b h
      refine k_cSI G (dc d_Mo_signOf 10 rfl) mi_Mo_in ms_Mo_in ml_RX11_41 (c_Mo_in (gst G)  e16) rfl rfl ⟨rfl, rfl⟩ rfl ⟨rfl, rfl⟩ ⟨rfl, rfl⟩ ?_
      refine k_if_eq G (dc d_Mo_signOf 11 rfl) (tgt := 27) rfl (fun c18 => ?_) (fun c18 => ?_)
      · replace h := kOk_p c18 h
        refine k_iconst G (dc d_Mo_signOf 14 rfl) cI_2 ?_
        have h9 := kOk_s h
        exact h9
      · replace h := kOk_n c18 h
        refine k_iconst G (dc d_Mo_signOf 12 rfl) cI_0 ?_
        refine k_goto G (dc d_Mo_signOf 13 rfl) (tgt := 28) rfl ?_
        have h9 := kOk_s h
        exact h9
    · replace h := kOk_p c15 h
      refine k_iconst G (dc d_Mo_signOf 5 rfl) cI_1 ?_
      refine k_goto G (dc d_Mo_signOf 6 rfl) (tgt := 28) rfl ?_
      have h9 := kOk_s h
      exact h9
theorem c_Mo_signOf {l : Launch} {B : KB} {L : KLay} {M : KMem} {u : Nat} {p0 : Int32} {p1 : Int32} (hst : l.stackTraces = false) (hu : okL L u moT) {r : Int32} {M' : KMem} (e : m_Mo_signOf u p0 p1 M = some (r, M')) : CtrN l B yX11_signOf cX11_signOf 3 (some .int) rm_Mo_signOf [.ref (B.1 + u), .int p0, .int p1] L M (some (.int r)) L M' :=
  mk_I rfl hst rfl (fun X hl G _ R => b_Mo_signOf G hu ⟨_, e, R⟩)
def I_Mo_decreeOf : List (Nat × Instr × Nat) := [(0, .aload_n 0, 1), (1, .aload_n 0, 1), (2, .iload_n 1, 1), (3, .invokevirtual 140, 3), (6, .ifCond .ne 7, 3), (9, .iconst 1, 1), (10, .goto 17, 3), (13, .iload_n 2, 1), (14, .iconst 0, 1), (15, .iconst 4, 1), (16, .invokestatic 41, 3), (19, .ifCond .eq 7, 3), (22, .iconst 0, 1), (23, .goto 4, 3), (26, .iconst 2, 1), (27, .invokevirtual 164, 3), (30, .ifCond .eq 16, 3), (33, .aload_n 0, 1), (34, .getfield 7, 3), (37, .iload_n 1, 1), (38, .iload_n 2, 1), (39, .invokestatic 57, 3), (42, .iaload, 1), (43, .goto 4, 3), (46, .iconst 0, 1), (47, .ireturn, 1)]
set_option maxRecDepth 100000 in
theorem d_Mo_decreeOf : decA cX11_decreeOf I_Mo_decreeOf = true := by decide +kernel
abbrev rm_Mo_decreeOf : Room := ({ frames := 2, cells := 0, slots := 0, locals := 43 } : Room)
def m_Mo_decreeOf (u : Nat) (p0 : Int32) (p1 : Int32) (M : KMem) : Option (Int32 × KMem) :=
 Option.bind (m_Mo_isDecree u p0 M) fun x2 =>
 Option.bind (α := Int32) (if x2 = 0 then
 (some 1)
 else
 (Option.bind (m_Mo_in p1 0 4) fun x17 =>
 if x17 = 0 then
 (some 2)
 else
 (some 0))) fun t3 =>
 Option.bind (m_Mo_holds u t3 M) fun (x6, M7) =>
 Option.bind (α := Int32) (if x6 = 0 then
 (some 0)
 else
 (Option.bind (m_Mo_ofDecree p0 p1) fun x12 =>
 Option.bind (rdI M7 (u + 1) 108 x12) fun x14 =>
 some x14)) fun t8 =>
 some (t8, M7)
set_option maxHeartbeats 4000000 in
set_option maxRecDepth 100000 in
theorem b_Mo_decreeOf {X : KX} {B : KB} {L : KLay} {M : KMem} {u : Nat} {p0 : Int32} {p1 : Int32} (G : Good X B RX11 cX11_decreeOf 3 rm_Mo_decreeOf) (hu : okL L u moT) (h : kOk (m_Mo_decreeOf u p0 p1 M) (fun r => RI X B L 3 cX11_decreeOf .int rm_Mo_decreeOf r.1 r.2)) : KK X B L 3 0 0 M 0 [(0, .ref (B.1 + u)), (1, .int p0), (2, .int p1)] [] := by
  unfold m_Mo_decreeOf at h
  refine k_aload_n G (dc d_Mo_decreeOf 0 rfl) 0 rfl rfl ?_
  refine k_aload_n G (dc d_Mo_decreeOf 1 rfl) 0 rfl rfl ?_
  refine k_iload_n G (dc d_Mo_decreeOf 2 rfl) 1 rfl rfl ?_
  obtain ⟨x2, e1, h⟩ := kOk_b h
  refine k_cVI G (dc d_Mo_decreeOf 3 rfl) kc8 (okL_lt hu (o := 0) 0 rfl) (okL_k hu (o := 0) 0 rfl) mi_Mo_isDecree mv_Mo_isDecree rfl ml_RX11_140 (c_Mo_isDecree (gst G) hu e1) rfl rfl ⟨rfl, rfl⟩ rfl ⟨rfl, rfl⟩ ⟨rfl, rfl⟩ ?_
  refine kJ h (fun r4 => KK X B L 3 0 0 M 27 [(0, .ref (B.1 + u)), (1, .int p0), (2, .int p1)] [.int r4, .ref (B.1 + u)]) (fun r4 h => ?_) (fun h => ?_)
  · obtain ⟨t3, rfl⟩ : ∃ z, z = r4 := ⟨_, rfl⟩
    show KK X B L 3 0 0 M 27 [(0, .ref (B.1 + u)), (1, .int p0), (2, .int p1)] [.int t3, .ref (B.1 + u)]
    obtain ⟨⟨x6, M7⟩, e5, h⟩ := kOk_b h
    refine k_cVI G (dc d_Mo_decreeOf 15 rfl) kc8 (okL_lt hu (o := 0) 0 rfl) (okL_k hu (o := 0) 0 rfl) mi_Mo_holds mv_Mo_holds rfl ml_RX11_164 (c_Mo_holds (gst G) hu e5) rfl rfl ⟨rfl, rfl⟩ rfl ⟨rfl, rfl⟩ ⟨rfl, rfl⟩ ?_
    refine kJ h (fun r9 => KK X B L 3 0 0 M7 47 [] [.int r9]) (fun r9 h => ?_) (fun h => ?_)
    · obtain ⟨t8, rfl⟩ : ∃ z, z = r9 := ⟨_, rfl⟩
      show KK X B L 3 0 0 M7 47 [] [.int t8]
      exact (kOk_s h) _ _ _ _ rfl rfl rfl (dc d_Mo_decreeOf 25 rfl)
    · refine k_if_eq G (dc d_Mo_decreeOf 16 rfl) (tgt := 46) rfl (fun c10 => ?_) (fun c10 => ?_)
      · replace h := kOk_p c10 h
        refine k_iconst G (dc d_Mo_decreeOf 24 rfl) cI_0 ?_
        refine k_sub [] rfl ?_
        have h9 := kOk_s h
        exact h9
      · replace h := kOk_n c10 h
        refine k_aload_n G (dc d_Mo_decreeOf 17 rfl) 0 rfl rfl ?_
        refine k_getR G kc8 (dc d_Mo_decreeOf 18 rfl) (okL_lt hu (o := 0) 0 rfl) (okL_k hu (o := 0) 0 rfl) 1 (by decide) rfl fl_RX11_7 (u + 1) (okL_r hu (o := 0) (c := 1) 0 rfl 0 rfl) ?_
        refine k_iload_n G (dc d_Mo_decreeOf 19 rfl) 1 rfl rfl ?_
        refine k_iload_n G (dc d_Mo_decreeOf 20 rfl) 2 rfl rfl ?_
        obtain ⟨x12, e11, h⟩ := kOk_b h
        refine k_cSI G (dc d_Mo_decreeOf 21 rfl) mi_Mo_ofDecree ms_Mo_ofDecree ml_RX11_57 (c_Mo_ofDecree (gst G)  e11) rfl rfl ⟨rfl, rfl⟩ rfl ⟨rfl, rfl⟩ ⟨rfl, rfl⟩ ?_
        obtain ⟨x14, e13, h⟩ := kOk_b h
        refine k_ild G (dc d_Mo_decreeOf 22 rfl) (okL_lt hu (o := 1) 1 rfl) (okL_k hu (o := 1) 1 rfl) (okL_n hu (o := 1) 1 rfl) e13 ?_
        refine k_goto G (dc d_Mo_decreeOf 23 rfl) (tgt := 47) rfl ?_
        refine k_sub [] rfl ?_
        have h9 := kOk_s h
        exact h9
  · refine k_if_ne G (dc d_Mo_decreeOf 4 rfl) (tgt := 13) rfl (fun c15 => ?_) (fun c15 => ?_)
    · replace h := kOk_n c15 h
      refine k_iload_n G (dc d_Mo_decreeOf 7 rfl) 2 rfl rfl ?_
      refine k_iconst G (dc d_Mo_decreeOf 8 rfl) cI_0 ?_
      refine k_iconst G (dc d_Mo_decreeOf 9 rfl) cI_4 ?_
      obtain ⟨x17, e16, h⟩ := kOk_b h
      refine k_cSI G (dc d_Mo_decreeOf 10 rfl) mi_Mo_in ms_Mo_in ml_RX11_41 (c_Mo_in (gst G)  e16) rfl rfl ⟨rfl, rfl⟩ rfl ⟨rfl, rfl⟩ ⟨rfl, rfl⟩ ?_
      refine k_if_eq G (dc d_Mo_decreeOf 11 rfl) (tgt := 26) rfl (fun c18 => ?_) (fun c18 => ?_)
      · replace h := kOk_p c18 h
        refine k_iconst G (dc d_Mo_decreeOf 14 rfl) cI_2 ?_
        have h9 := kOk_s h
        exact h9
      · replace h := kOk_n c18 h
        refine k_iconst G (dc d_Mo_decreeOf 12 rfl) cI_0 ?_
        refine k_goto G (dc d_Mo_decreeOf 13 rfl) (tgt := 27) rfl ?_
        have h9 := kOk_s h
        exact h9
    · replace h := kOk_p c15 h
      refine k_iconst G (dc d_Mo_decreeOf 5 rfl) cI_1 ?_
      refine k_goto G (dc d_Mo_decreeOf 6 rfl) (tgt := 27) rfl ?_
      have h9 := kOk_s h
      exact h9
theorem c_Mo_decreeOf {l : Launch} {B : KB} {L : KLay} {M : KMem} {u : Nat} {p0 : Int32} {p1 : Int32} (hst : l.stackTraces = false) (hu : okL L u moT) {r : Int32} {M' : KMem} (e : m_Mo_decreeOf u p0 p1 M = some (r, M')) : CtrN l B yX11_decreeOf cX11_decreeOf 3 (some .int) rm_Mo_decreeOf [.ref (B.1 + u), .int p0, .int p1] L M (some (.int r)) L M' :=
  mk_I rfl hst rfl (fun X hl G _ R => b_Mo_decreeOf G hu ⟨_, e, R⟩)
def I_Mo_ofGuild : List (Nat × Instr × Nat) := [(0, .iload_n 2, 1), (1, .iconst 1, 1), (2, .if_icmp .le 23, 3), (5, .aload_n 0, 1), (6, .getfield 7, 3), (9, .iload_n 2, 1), (10, .iconst 2, 1), (11, .if_icmp .ne 8, 3), (14, .bipush 98, 2), (16, .goto 5, 3), (19, .bipush 102, 2), (21, .iload_n 1, 1), (22, .iadd, 1), (23, .iaload, 1), (24, .ireturn, 1), (25, .iconst 0, 1), (26, .istore_n 3, 1), (27, .iconst 0, 1), (28, .istore 4, 2), (30, .iload 4, 2), (32, .aload_n 0, 1), (33, .getfield 7, 3), (36, .iconst 0, 1), (37, .iaload, 1), (38, .if_icmp .ge 45, 3), (41, .iload_n 3, 1), (42, .aload_n 0, 1), (43, .getfield 7, 3), (46, .iload 4, 2), (48, .iconst 0, 1), (49, .invokestatic 67, 3), (52, .iaload, 1), (53, .iload_n 1, 1), (54, .if_icmp .ne 20, 3), (57, .iload_n 2, 1), (58, .ifCond .eq 12, 3), (61, .aload_n 0, 1), (62, .iload 4, 2), (64, .invokevirtual 85, 3), (67, .ifCond .eq 7, 3), (70, .iconst 1, 1), (71, .goto 4, 3), (74, .iconst 0, 1), (75, .iadd, 1), (76, .istore_n 3, 1), (77, .iinc 4 1, 3), (80, .goto (-50), 3), (83, .iload_n 3, 1), (84, .ireturn, 1)]
set_option maxRecDepth 100000 in
theorem d_Mo_ofGuild : decA cX11_ofGuild I_Mo_ofGuild = true := by decide +kernel
abbrev rm_Mo_ofGuild : Room := ({ frames := 6, cells := 0, slots := 0, locals := 143 } : Room)
def m_Mo_ofGuild_l30 (u : Nat) (p0 : Int32) (p1 : Int32) (M : KMem) : (Int32 × Int32) → Option ((Int32 × Int32) ⊕ Int32) := fun (v3_2, v4_3) =>
 Option.bind (rdI M (u + 1) 108 0) fun x5 =>
 if x5 ≤ v4_3 then
 (some (.inr v3_2))
 else
 (Option.bind (m_Mo_of v4_3 0) fun x8 =>
 Option.bind (rdI M (u + 1) 108 x8) fun x10 =>
 Option.bind (α := Int32) (if x10 = p0 then
 (if p1 = 0 then
 (some 1)
 else
 (Option.bind (m_Mo_isWrong u v4_3 M) fun x16 =>
 if x16 = 0 then
 (some 0)
 else
 (some 1)))
 else
 (some 0)) fun t11 =>
 some (.inl (v3_2 + t11, v4_3 + 1)))
def m_Mo_ofGuild (u : Nat) (p0 : Int32) (p1 : Int32) (M : KMem) : Option Int32 :=
 if p1 ≤ 1 then
 (Option.bind (α := Int32) (kLp (m_Mo_ofGuild_l30 u p0 p1 M) kFU (0, 0)) fun v3_18 =>
 some v3_18)
 else
 (Option.bind (α := Int32) (if p1 = 2 then
 (some 98)
 else
 (some 102)) fun t21 =>
 Option.bind (rdI M (u + 1) 108 (t21 + p0)) fun x24 =>
 some x24)
set_option maxHeartbeats 4000000 in
set_option maxRecDepth 100000 in
theorem b_Mo_ofGuild {X : KX} {B : KB} {L : KLay} {M : KMem} {u : Nat} {p0 : Int32} {p1 : Int32} (G : Good X B RX11 cX11_ofGuild 5 rm_Mo_ofGuild) (hu : okL L u moT) (h : kOk (m_Mo_ofGuild u p0 p1 M) (fun r => RI X B L 5 cX11_ofGuild .int rm_Mo_ofGuild r M)) : KK X B L 5 0 0 M 0 [(0, .ref (B.1 + u)), (1, .int p0), (2, .int p1)] [] := by
  unfold m_Mo_ofGuild at h
  refine k_iload_n G (dc d_Mo_ofGuild 0 rfl) 2 rfl rfl ?_
  refine k_iconst G (dc d_Mo_ofGuild 1 rfl) cI_1 ?_
  refine k_icmp_le G (dc d_Mo_ofGuild 2 rfl) (tgt := 25) rfl (fun c1 => ?_) (fun c1 => ?_)
  · replace h := kOk_p c1 h
    refine k_iconst G (dc d_Mo_ofGuild 15 rfl) cI_0 ?_
    refine k_istore_n G (dc d_Mo_ofGuild 16 rfl) (ls' := [(3, .int 0), (0, .ref (B.1 + u)), (1, .int p0), (2, .int p1)]) rfl rfl rfl ?_
    refine k_iconst G (dc d_Mo_ofGuild 17 rfl) cI_0 ?_
    refine k_istore G (dc d_Mo_ofGuild 18 rfl) (ls' := [(4, .int 0), (3, .int 0), (0, .ref (B.1 + u)), (1, .int p0), (2, .int p1)]) rfl rfl ?_
    refine kJ h (fun r19 => KK X B L 5 0 0 M 83 [(3, .int r19)] []) (fun r19 h => ?_) (fun h => ?_)
    · obtain ⟨v3_18, rfl⟩ : ∃ z, z = r19 := ⟨_, rfl⟩
      show KK X B L 5 0 0 M 83 [(3, .int v3_18)] []
      refine k_iload_n G (dc d_Mo_ofGuild 47 rfl) 0 rfl rfl ?_
      exact (kOk_s h) _ _ _ _ rfl rfl rfl (dc d_Mo_ofGuild 48 rfl)
    · refine k_sub [2, 3, 4, 1, 0] rfl ?_
      refine kLp_ok (P := fun s20 => KK X B L 5 0 0 M 30 [(0, .ref (B.1 + u)), (1, .int p0), (2, .int p1), (3, .int s20.1), (4, .int s20.2)] []) (fun s20 h => ?_) kFU _ h
      obtain ⟨v3_2, v4_3⟩ := s20
      unfold m_Mo_ofGuild_l30 at h
      show KK X B L 5 0 0 M 30 [(0, .ref (B.1 + u)), (1, .int p0), (2, .int p1), (3, .int v3_2), (4, .int v4_3)] []
      refine k_iload G (dc d_Mo_ofGuild 19 rfl) 4 rfl ?_
      refine k_aload_n G (dc d_Mo_ofGuild 20 rfl) 0 rfl rfl ?_
      refine k_getR G kc8 (dc d_Mo_ofGuild 21 rfl) (okL_lt hu (o := 0) 0 rfl) (okL_k hu (o := 0) 0 rfl) 1 (by decide) rfl fl_RX11_7 (u + 1) (okL_r hu (o := 0) (c := 1) 0 rfl 0 rfl) ?_
      refine k_iconst G (dc d_Mo_ofGuild 22 rfl) cI_0 ?_
      obtain ⟨x5, e4, h⟩ := kOk_b h
      refine k_ild G (dc d_Mo_ofGuild 23 rfl) (okL_lt hu (o := 1) 1 rfl) (okL_k hu (o := 1) 1 rfl) (okL_n hu (o := 1) 1 rfl) e4 ?_
      refine k_icmp_ge G (dc d_Mo_ofGuild 24 rfl) (tgt := 83) rfl (fun c6 => ?_) (fun c6 => ?_)
      · replace h := kOk_p c6 h
        refine k_sub [3] rfl ?_
        have h9 := kOk_s h
        exact h9
      · replace h := kOk_n c6 h
        refine k_iload_n G (dc d_Mo_ofGuild 25 rfl) 3 rfl rfl ?_
        refine k_aload_n G (dc d_Mo_ofGuild 26 rfl) 0 rfl rfl ?_
        refine k_getR G kc8 (dc d_Mo_ofGuild 27 rfl) (okL_lt hu (o := 0) 0 rfl) (okL_k hu (o := 0) 0 rfl) 1 (by decide) rfl fl_RX11_7 (u + 1) (okL_r hu (o := 0) (c := 1) 0 rfl 0 rfl) ?_
        refine k_iload G (dc d_Mo_ofGuild 28 rfl) 4 rfl ?_
        refine k_iconst G (dc d_Mo_ofGuild 29 rfl) cI_0 ?_
        obtain ⟨x8, e7, h⟩ := kOk_b h
        refine k_cSI G (dc d_Mo_ofGuild 30 rfl) mi_Mo_of ms_Mo_of ml_RX11_67 (c_Mo_of (gst G)  e7) rfl rfl ⟨rfl, rfl⟩ rfl ⟨rfl, rfl⟩ ⟨rfl, rfl⟩ ?_
        obtain ⟨x10, e9, h⟩ := kOk_b h
        refine k_ild G (dc d_Mo_ofGuild 31 rfl) (okL_lt hu (o := 1) 1 rfl) (okL_k hu (o := 1) 1 rfl) (okL_n hu (o := 1) 1 rfl) e9 ?_
        refine k_iload_n G (dc d_Mo_ofGuild 32 rfl) 1 rfl rfl ?_
        refine kJ h (fun r12 => KK X B L 5 0 0 M 75 [(0, .ref (B.1 + u)), (1, .int p0), (2, .int p1), (4, .int v4_3)] [.int r12, .int v3_2]) (fun r12 h => ?_) (fun h => ?_)
        · obtain ⟨t11, rfl⟩ : ∃ z, z = r12 := ⟨_, rfl⟩
          show KK X B L 5 0 0 M 75 [(0, .ref (B.1 + u)), (1, .int p0), (2, .int p1), (4, .int v4_3)] [.int t11, .int v3_2]
          refine k_iadd G (dc d_Mo_ofGuild 43 rfl) ?_
          refine k_istore_n G (dc d_Mo_ofGuild 44 rfl) (ls' := [(3, .int (v3_2 + t11)), (0, .ref (B.1 + u)), (1, .int p0), (2, .int p1), (4, .int v4_3)]) rfl rfl rfl ?_
          refine k_iinc G (dc d_Mo_ofGuild 45 rfl) (ls' := [(4, .int (v4_3 + 1)), (3, .int (v3_2 + t11)), (0, .ref (B.1 + u)), (1, .int p0), (2, .int p1)]) 4 rfl cI_1 rfl rfl ?_
          refine k_goto G (dc d_Mo_ofGuild 46 rfl) (tgt := 30) rfl ?_
          refine k_sub [2, 3, 4, 1, 0] rfl ?_
          have h9 := kOk_s h
          exact h9
        · refine k_icmp_ne G (dc d_Mo_ofGuild 33 rfl) (tgt := 74) rfl (fun c13 => ?_) (fun c13 => ?_)
          · replace h := kOk_n c13 h
            refine k_iconst G (dc d_Mo_ofGuild 42 rfl) cI_0 ?_
            refine k_sub [0, 1, 2, 4] rfl ?_
            have h9 := kOk_s h
            exact h9
          · replace h := kOk_p c13 h
            refine k_iload_n G (dc d_Mo_ofGuild 34 rfl) 2 rfl rfl ?_
            refine k_if_eq G (dc d_Mo_ofGuild 35 rfl) (tgt := 70) rfl (fun c14 => ?_) (fun c14 => ?_)
            · replace h := kOk_p c14 h
              refine k_iconst G (dc d_Mo_ofGuild 40 rfl) cI_1 ?_
              refine k_goto G (dc d_Mo_ofGuild 41 rfl) (tgt := 75) rfl ?_
              refine k_sub [0, 1, 2, 4] rfl ?_
              have h9 := kOk_s h
              exact h9
            · replace h := kOk_n c14 h
              refine k_aload_n G (dc d_Mo_ofGuild 36 rfl) 0 rfl rfl ?_
              refine k_iload G (dc d_Mo_ofGuild 37 rfl) 4 rfl ?_
              obtain ⟨x16, e15, h⟩ := kOk_b h
              refine k_cVI G (dc d_Mo_ofGuild 38 rfl) kc8 (okL_lt hu (o := 0) 0 rfl) (okL_k hu (o := 0) 0 rfl) mi_Mo_isWrong mv_Mo_isWrong rfl ml_RX11_85 (c_Mo_isWrong (gst G) hu e15) rfl rfl ⟨rfl, rfl⟩ rfl ⟨rfl, rfl⟩ ⟨rfl, rfl⟩ ?_
              refine k_if_eq G (dc d_Mo_ofGuild 39 rfl) (tgt := 74) rfl (fun c17 => ?_) (fun c17 => ?_)
              · replace h := kOk_p c17 h
                refine k_iconst G (dc d_Mo_ofGuild 42 rfl) cI_0 ?_
                refine k_sub [0, 1, 2, 4] rfl ?_
                have h9 := kOk_s h
                exact h9
              · replace h := kOk_n c17 h
                refine k_iconst G (dc d_Mo_ofGuild 40 rfl) cI_1 ?_
                refine k_goto G (dc d_Mo_ofGuild 41 rfl) (tgt := 75) rfl ?_
                refine k_sub [0, 1, 2, 4] rfl ?_
                have h9 := kOk_s h
                exact h9
  · replace h := kOk_n c1 h
    refine k_aload_n G (dc d_Mo_ofGuild 3 rfl) 0 rfl rfl ?_
    refine k_getR G kc8 (dc d_Mo_ofGuild 4 rfl) (okL_lt hu (o := 0) 0 rfl) (okL_k hu (o := 0) 0 rfl) 1 (by decide) rfl fl_RX11_7 (u + 1) (okL_r hu (o := 0) (c := 1) 0 rfl 0 rfl) ?_
    refine k_iload_n G (dc d_Mo_ofGuild 5 rfl) 2 rfl rfl ?_
    refine k_iconst G (dc d_Mo_ofGuild 6 rfl) cI_2 ?_
    refine kJ h (fun r22 => KK X B L 5 0 0 M 21 [(1, .int p0)] [.int r22, .ref (B.1 + (u + 1))]) (fun r22 h => ?_) (fun h => ?_)
    · obtain ⟨t21, rfl⟩ : ∃ z, z = r22 := ⟨_, rfl⟩
      show KK X B L 5 0 0 M 21 [(1, .int p0)] [.int t21, .ref (B.1 + (u + 1))]
      refine k_iload_n G (dc d_Mo_ofGuild 11 rfl) 0 rfl rfl ?_
      refine k_iadd G (dc d_Mo_ofGuild 12 rfl) ?_
      obtain ⟨x24, e23, h⟩ := kOk_b h
      refine k_ild G (dc d_Mo_ofGuild 13 rfl) (okL_lt hu (o := 1) 1 rfl) (okL_k hu (o := 1) 1 rfl) (okL_n hu (o := 1) 1 rfl) e23 ?_
      exact (kOk_s h) _ _ _ _ rfl rfl rfl (dc d_Mo_ofGuild 14 rfl)
    · refine k_icmp_ne G (dc d_Mo_ofGuild 7 rfl) (tgt := 19) rfl (fun c25 => ?_) (fun c25 => ?_)
      · replace h := kOk_n c25 h
        refine k_bipush G (dc d_Mo_ofGuild 10 rfl) cB_102 ?_
        refine k_sub [1] rfl ?_
        have h9 := kOk_s h
        exact h9
      · replace h := kOk_p c25 h
        refine k_bipush G (dc d_Mo_ofGuild 8 rfl) cB_98 ?_
        refine k_goto G (dc d_Mo_ofGuild 9 rfl) (tgt := 21) rfl ?_
        refine k_sub [1] rfl ?_
        have h9 := kOk_s h
        exact h9
theorem c_Mo_ofGuild {l : Launch} {B : KB} {L : KLay} {M : KMem} {u : Nat} {p0 : Int32} {p1 : Int32} (hst : l.stackTraces = false) (hu : okL L u moT) {r : Int32} (e : m_Mo_ofGuild u p0 p1 M = some r) : CtrN l B yX11_ofGuild cX11_ofGuild 5 (some .int) rm_Mo_ofGuild [.ref (B.1 + u), .int p0, .int p1] L M (some (.int r)) L M :=
  mk_I rfl hst rfl (fun X hl G _ R => b_Mo_ofGuild G hu ⟨_, e, R⟩)
def I_Mo_guildOf : List (Nat × Instr × Nat) := [(0, .aload_n 0, 1), (1, .iload_n 1, 1), (2, .iconst 0, 1), (3, .iconst 3, 1), (4, .invokestatic 41, 3), (7, .ifCond .ne 7, 3), (10, .iconst 1, 1), (11, .goto 17, 3), (14, .iload_n 2, 1), (15, .iconst 0, 1), (16, .iconst 3, 1), (17, .invokestatic 41, 3), (20, .ifCond .eq 7, 3), (23, .iconst 0, 1), (24, .goto 4, 3), (27, .iconst 2, 1), (28, .invokevirtual 164, 3), (31, .ifCond .eq 12, 3), (34, .aload_n 0, 1), (35, .iload_n 1, 1), (36, .iload_n 2, 1), (37, .invokevirtual 213, 3), (40, .goto 4, 3), (43, .iconst 0, 1), (44, .ireturn, 1)]
set_option maxRecDepth 100000 in
theorem d_Mo_guildOf : decA cX11_guildOf I_Mo_guildOf = true := by decide +kernel
abbrev rm_Mo_guildOf : Room := ({ frames := 7, cells := 0, slots := 0, locals := 167 } : Room)
def m_Mo_guildOf (u : Nat) (p0 : Int32) (p1 : Int32) (M : KMem) : Option (Int32 × KMem) :=
 Option.bind (m_Mo_in p0 0 3) fun x2 =>
 Option.bind (α := Int32) (if x2 = 0 then
 (some 1)
 else
 (Option.bind (m_Mo_in p1 0 3) fun x15 =>
 if x15 = 0 then
 (some 2)
 else
 (some 0))) fun t3 =>
 Option.bind (m_Mo_holds u t3 M) fun (x6, M7) =>
 Option.bind (α := Int32) (if x6 = 0 then
 (some 0)
 else
 (Option.bind (m_Mo_ofGuild u p0 p1 M7) fun x12 =>
 some x12)) fun t8 =>
 some (t8, M7)
set_option maxHeartbeats 4000000 in
set_option maxRecDepth 100000 in
theorem b_Mo_guildOf {X : KX} {B : KB} {L : KLay} {M : KMem} {u : Nat} {p0 : Int32} {p1 : Int32} (G : Good X B RX11 cX11_guildOf 3 rm_Mo_guildOf) (hu : okL L u moT) (h : kOk (m_Mo_guildOf u p0 p1 M) (fun r => RI X B L 3 cX11_guildOf .int rm_Mo_guildOf r.1 r.2)) : KK X B L 3 0 0 M 0 [(0, .ref (B.1 + u)), (1, .int p0), (2, .int p1)] [] := by
  unfold m_Mo_guildOf at h
  refine k_aload_n G (dc d_Mo_guildOf 0 rfl) 0 rfl rfl ?_
  refine k_iload_n G (dc d_Mo_guildOf 1 rfl) 1 rfl rfl ?_
  refine k_iconst G (dc d_Mo_guildOf 2 rfl) cI_0 ?_
  refine k_iconst G (dc d_Mo_guildOf 3 rfl) cI_3 ?_
  obtain ⟨x2, e1, h⟩ := kOk_b h
  refine k_cSI G (dc d_Mo_guildOf 4 rfl) mi_Mo_in ms_Mo_in ml_RX11_41 (c_Mo_in (gst G)  e1) rfl rfl ⟨rfl, rfl⟩ rfl ⟨rfl, rfl⟩ ⟨rfl, rfl⟩ ?_
  refine kJ h (fun r4 => KK X B L 3 0 0 M 28 [(0, .ref (B.1 + u)), (1, .int p0), (2, .int p1)] [.int r4, .ref (B.1 + u)]) (fun r4 h => ?_) (fun h => ?_)
  · obtain ⟨t3, rfl⟩ : ∃ z, z = r4 := ⟨_, rfl⟩
    show KK X B L 3 0 0 M 28 [(0, .ref (B.1 + u)), (1, .int p0), (2, .int p1)] [.int t3, .ref (B.1 + u)]
    obtain ⟨⟨x6, M7⟩, e5, h⟩ := kOk_b h
    refine k_cVI G (dc d_Mo_guildOf 16 rfl) kc8 (okL_lt hu (o := 0) 0 rfl) (okL_k hu (o := 0) 0 rfl) mi_Mo_holds mv_Mo_holds rfl ml_RX11_164 (c_Mo_holds (gst G) hu e5) rfl rfl ⟨rfl, rfl⟩ rfl ⟨rfl, rfl⟩ ⟨rfl, rfl⟩ ?_
    refine kJ h (fun r9 => KK X B L 3 0 0 M7 44 [] [.int r9]) (fun r9 h => ?_) (fun h => ?_)
    · obtain ⟨t8, rfl⟩ : ∃ z, z = r9 := ⟨_, rfl⟩
      show KK X B L 3 0 0 M7 44 [] [.int t8]
      exact (kOk_s h) _ _ _ _ rfl rfl rfl (dc d_Mo_guildOf 24 rfl)
    · refine k_if_eq G (dc d_Mo_guildOf 17 rfl) (tgt := 43) rfl (fun c10 => ?_) (fun c10 => ?_)
      · replace h := kOk_p c10 h
        refine k_iconst G (dc d_Mo_guildOf 23 rfl) cI_0 ?_
        refine k_sub [] rfl ?_
        have h9 := kOk_s h
        exact h9
      · replace h := kOk_n c10 h
        refine k_aload_n G (dc d_Mo_guildOf 18 rfl) 0 rfl rfl ?_
        refine k_iload_n G (dc d_Mo_guildOf 19 rfl) 1 rfl rfl ?_
        refine k_iload_n G (dc d_Mo_guildOf 20 rfl) 2 rfl rfl ?_
        obtain ⟨x12, e11, h⟩ := kOk_b h
        refine k_cVI G (dc d_Mo_guildOf 21 rfl) kc8 (okL_lt hu (o := 0) 0 rfl) (okL_k hu (o := 0) 0 rfl) mi_Mo_ofGuild mv_Mo_ofGuild rfl ml_RX11_213 (c_Mo_ofGuild (gst G) hu e11) rfl rfl ⟨rfl, rfl⟩ rfl ⟨rfl, rfl⟩ ⟨rfl, rfl⟩ ?_
        refine k_goto G (dc d_Mo_guildOf 22 rfl) (tgt := 44) rfl ?_
        refine k_sub [] rfl ?_
        have h9 := kOk_s h
        exact h9
  · refine k_if_ne G (dc d_Mo_guildOf 5 rfl) (tgt := 14) rfl (fun c13 => ?_) (fun c13 => ?_)
    · replace h := kOk_n c13 h
      refine k_iload_n G (dc d_Mo_guildOf 8 rfl) 2 rfl rfl ?_
      refine k_iconst G (dc d_Mo_guildOf 9 rfl) cI_0 ?_
      refine k_iconst G (dc d_Mo_guildOf 10 rfl) cI_3 ?_
      obtain ⟨x15, e14, h⟩ := kOk_b h
      refine k_cSI G (dc d_Mo_guildOf 11 rfl) mi_Mo_in ms_Mo_in ml_RX11_41 (c_Mo_in (gst G)  e14) rfl rfl ⟨rfl, rfl⟩ rfl ⟨rfl, rfl⟩ ⟨rfl, rfl⟩ ?_
      refine k_if_eq G (dc d_Mo_guildOf 12 rfl) (tgt := 27) rfl (fun c16 => ?_) (fun c16 => ?_)
      · replace h := kOk_p c16 h
        refine k_iconst G (dc d_Mo_guildOf 15 rfl) cI_2 ?_
        have h9 := kOk_s h
        exact h9
      · replace h := kOk_n c16 h
        refine k_iconst G (dc d_Mo_guildOf 13 rfl) cI_0 ?_
        refine k_goto G (dc d_Mo_guildOf 14 rfl) (tgt := 28) rfl ?_
        have h9 := kOk_s h
        exact h9
    · replace h := kOk_p c13 h
      refine k_iconst G (dc d_Mo_guildOf 6 rfl) cI_1 ?_
      refine k_goto G (dc d_Mo_guildOf 7 rfl) (tgt := 28) rfl ?_
      have h9 := kOk_s h
      exact h9
theorem c_Mo_guildOf {l : Launch} {B : KB} {L : KLay} {M : KMem} {u : Nat} {p0 : Int32} {p1 : Int32} (hst : l.stackTraces = false) (hu : okL L u moT) {r : Int32} {M' : KMem} (e : m_Mo_guildOf u p0 p1 M = some (r, M')) : CtrN l B yX11_guildOf cX11_guildOf 3 (some .int) rm_Mo_guildOf [.ref (B.1 + u), .int p0, .int p1] L M (some (.int r)) L M' :=
  mk_I rfl hst rfl (fun X hl G _ R => b_Mo_guildOf G hu ⟨_, e, R⟩)
def I_Mo_right : List (Nat × Instr × Nat) := [(0, .aload_n 0, 1), (1, .aload_n 0, 1), (2, .iload_n 1, 1), (3, .invokevirtual 146, 3), (6, .ifCond .ne 7, 3), (9, .iconst 1, 1), (10, .goto 17, 3), (13, .iload_n 2, 1), (14, .iconst 0, 1), (15, .iconst 1, 1), (16, .invokestatic 41, 3), (19, .ifCond .eq 7, 3), (22, .iconst 0, 1), (23, .goto 4, 3), (26, .iconst 2, 1), (27, .invokevirtual 164, 3), (30, .ifCond .eq 11, 3), (33, .aload_n 0, 1), (34, .iload_n 1, 1), (35, .invokevirtual 73, 3), (38, .goto 4, 3), (41, .iconst 0, 1), (42, .ireturn, 1)]
set_option maxRecDepth 100000 in
theorem d_Mo_right : decA cX11_right I_Mo_right = true := by decide +kernel
abbrev rm_Mo_right : Room := ({ frames := 5, cells := 0, slots := 0, locals := 122 } : Room)
def m_Mo_right (u : Nat) (p0 : Int32) (p1 : Int32) (M : KMem) : Option (Int32 × KMem) :=
 Option.bind (m_Mo_isSign u p0 M) fun x2 =>
 Option.bind (α := Int32) (if x2 = 0 then
 (some 1)
 else
 (Option.bind (m_Mo_in p1 0 1) fun x15 =>
 if x15 = 0 then
 (some 2)
 else
 (some 0))) fun t3 =>
 Option.bind (m_Mo_holds u t3 M) fun (x6, M7) =>
 Option.bind (α := Int32) (if x6 = 0 then
 (some 0)
 else
 (Option.bind (m_Mo_rightOf u p0 M7) fun x12 =>
 some x12)) fun t8 =>
 some (t8, M7)
set_option maxHeartbeats 4000000 in
set_option maxRecDepth 100000 in
theorem b_Mo_right {X : KX} {B : KB} {L : KLay} {M : KMem} {u : Nat} {p0 : Int32} {p1 : Int32} (G : Good X B RX11 cX11_right 3 rm_Mo_right) (hu : okL L u moT) (h : kOk (m_Mo_right u p0 p1 M) (fun r => RI X B L 3 cX11_right .int rm_Mo_right r.1 r.2)) : KK X B L 3 0 0 M 0 [(0, .ref (B.1 + u)), (1, .int p0), (2, .int p1)] [] := by
  unfold m_Mo_right at h
  refine k_aload_n G (dc d_Mo_right 0 rfl) 0 rfl rfl ?_
  refine k_aload_n G (dc d_Mo_right 1 rfl) 0 rfl rfl ?_
  refine k_iload_n G (dc d_Mo_right 2 rfl) 1 rfl rfl ?_
  obtain ⟨x2, e1, h⟩ := kOk_b h
  refine k_cVI G (dc d_Mo_right 3 rfl) kc8 (okL_lt hu (o := 0) 0 rfl) (okL_k hu (o := 0) 0 rfl) mi_Mo_isSign mv_Mo_isSign rfl ml_RX11_146 (c_Mo_isSign (gst G) hu e1) rfl rfl ⟨rfl, rfl⟩ rfl ⟨rfl, rfl⟩ ⟨rfl, rfl⟩ ?_
  refine kJ h (fun r4 => KK X B L 3 0 0 M 27 [(0, .ref (B.1 + u)), (1, .int p0)] [.int r4, .ref (B.1 + u)]) (fun r4 h => ?_) (fun h => ?_)
  · obtain ⟨t3, rfl⟩ : ∃ z, z = r4 := ⟨_, rfl⟩
    show KK X B L 3 0 0 M 27 [(0, .ref (B.1 + u)), (1, .int p0)] [.int t3, .ref (B.1 + u)]
    obtain ⟨⟨x6, M7⟩, e5, h⟩ := kOk_b h
    refine k_cVI G (dc d_Mo_right 15 rfl) kc8 (okL_lt hu (o := 0) 0 rfl) (okL_k hu (o := 0) 0 rfl) mi_Mo_holds mv_Mo_holds rfl ml_RX11_164 (c_Mo_holds (gst G) hu e5) rfl rfl ⟨rfl, rfl⟩ rfl ⟨rfl, rfl⟩ ⟨rfl, rfl⟩ ?_
    refine kJ h (fun r9 => KK X B L 3 0 0 M7 42 [] [.int r9]) (fun r9 h => ?_) (fun h => ?_)
    · obtain ⟨t8, rfl⟩ : ∃ z, z = r9 := ⟨_, rfl⟩
      show KK X B L 3 0 0 M7 42 [] [.int t8]
      exact (kOk_s h) _ _ _ _ rfl rfl rfl (dc d_Mo_right 22 rfl)
    · refine k_if_eq G (dc d_Mo_right 16 rfl) (tgt := 41) rfl (fun c10 => ?_) (fun c10 => ?_)
      · replace h := kOk_p c10 h
        refine k_iconst G (dc d_Mo_right 21 rfl) cI_0 ?_
        refine k_sub [] rfl ?_
        have h9 := kOk_s h
        exact h9
      · replace h := kOk_n c10 h
        refine k_aload_n G (dc d_Mo_right 17 rfl) 0 rfl rfl ?_
        refine k_iload_n G (dc d_Mo_right 18 rfl) 1 rfl rfl ?_
        obtain ⟨x12, e11, h⟩ := kOk_b h
        refine k_cVI G (dc d_Mo_right 19 rfl) kc8 (okL_lt hu (o := 0) 0 rfl) (okL_k hu (o := 0) 0 rfl) mi_Mo_rightOf mv_Mo_rightOf rfl ml_RX11_73 (c_Mo_rightOf (gst G) hu e11) rfl rfl ⟨rfl, rfl⟩ rfl ⟨rfl, rfl⟩ ⟨rfl, rfl⟩ ?_
        refine k_goto G (dc d_Mo_right 20 rfl) (tgt := 42) rfl ?_
        refine k_sub [] rfl ?_
        have h9 := kOk_s h
        exact h9
  · refine k_if_ne G (dc d_Mo_right 4 rfl) (tgt := 13) rfl (fun c13 => ?_) (fun c13 => ?_)
    · replace h := kOk_n c13 h
      refine k_iload_n G (dc d_Mo_right 7 rfl) 2 rfl rfl ?_
      refine k_iconst G (dc d_Mo_right 8 rfl) cI_0 ?_
      refine k_iconst G (dc d_Mo_right 9 rfl) cI_1 ?_
      obtain ⟨x15, e14, h⟩ := kOk_b h
      refine k_cSI G (dc d_Mo_right 10 rfl) mi_Mo_in ms_Mo_in ml_RX11_41 (c_Mo_in (gst G)  e14) rfl rfl ⟨rfl, rfl⟩ rfl ⟨rfl, rfl⟩ ⟨rfl, rfl⟩ ?_
      refine k_if_eq G (dc d_Mo_right 11 rfl) (tgt := 26) rfl (fun c16 => ?_) (fun c16 => ?_)
      · replace h := kOk_p c16 h
        refine k_iconst G (dc d_Mo_right 14 rfl) cI_2 ?_
        refine k_sub [0, 1] rfl ?_
        have h9 := kOk_s h
        exact h9
      · replace h := kOk_n c16 h
        refine k_iconst G (dc d_Mo_right 12 rfl) cI_0 ?_
        refine k_goto G (dc d_Mo_right 13 rfl) (tgt := 27) rfl ?_
        refine k_sub [0, 1] rfl ?_
        have h9 := kOk_s h
        exact h9
    · replace h := kOk_p c13 h
      refine k_iconst G (dc d_Mo_right 5 rfl) cI_1 ?_
      refine k_goto G (dc d_Mo_right 6 rfl) (tgt := 27) rfl ?_
      refine k_sub [0, 1] rfl ?_
      have h9 := kOk_s h
      exact h9
theorem c_Mo_right {l : Launch} {B : KB} {L : KLay} {M : KMem} {u : Nat} {p0 : Int32} {p1 : Int32} (hst : l.stackTraces = false) (hu : okL L u moT) {r : Int32} {M' : KMem} (e : m_Mo_right u p0 p1 M = some (r, M')) : CtrN l B yX11_right cX11_right 3 (some .int) rm_Mo_right [.ref (B.1 + u), .int p0, .int p1] L M (some (.int r)) L M' :=
  mk_I rfl hst rfl (fun X hl G _ R => b_Mo_right G hu ⟨_, e, R⟩)
def I_Mo_setting : List (Nat × Instr × Nat) := [(0, .aload_n 0, 1), (1, .iload_n 1, 1), (2, .iconst 0, 1), (3, .iconst 1, 1), (4, .invokestatic 41, 3), (7, .ifCond .eq 7, 3), (10, .iconst 0, 1), (11, .goto 4, 3), (14, .iconst 1, 1), (15, .invokevirtual 164, 3), (18, .ifCond .eq 15, 3), (21, .aload_n 0, 1), (22, .getfield 7, 3), (25, .bipush 106, 2), (27, .iload_n 1, 1), (28, .iadd, 1), (29, .iaload, 1), (30, .goto 4, 3), (33, .iconst 0, 1), (34, .ireturn, 1)]
set_option maxRecDepth 100000 in
theorem d_Mo_setting : decA cX11_setting I_Mo_setting = true := by decide +kernel
abbrev rm_Mo_setting : Room := ({ frames := 1, cells := 0, slots := 0, locals := 22 } : Room)
def m_Mo_setting (u : Nat) (p0 : Int32) (M : KMem) : Option (Int32 × KMem) :=
 Option.bind (m_Mo_in p0 0 1) fun x2 =>
 Option.bind (α := Int32) (if x2 = 0 then
 (some 1)
 else
 (some 0)) fun t3 =>
 Option.bind (m_Mo_holds u t3 M) fun (x6, M7) =>
 Option.bind (α := Int32) (if x6 = 0 then
 (some 0)
 else
 (Option.bind (rdI M7 (u + 1) 108 (106 + p0)) fun x12 =>
 some x12)) fun t8 =>
 some (t8, M7)
set_option maxHeartbeats 4000000 in
set_option maxRecDepth 100000 in
theorem b_Mo_setting {X : KX} {B : KB} {L : KLay} {M : KMem} {u : Nat} {p0 : Int32} (G : Good X B RX11 cX11_setting 2 rm_Mo_setting) (hu : okL L u moT) (h : kOk (m_Mo_setting u p0 M) (fun r => RI X B L 2 cX11_setting .int rm_Mo_setting r.1 r.2)) : KK X B L 2 0 0 M 0 [(0, .ref (B.1 + u)), (1, .int p0)] [] := by
  unfold m_Mo_setting at h
  refine k_aload_n G (dc d_Mo_setting 0 rfl) 0 rfl rfl ?_
  refine k_iload_n G (dc d_Mo_setting 1 rfl) 1 rfl rfl ?_
  refine k_iconst G (dc d_Mo_setting 2 rfl) cI_0 ?_
  refine k_iconst G (dc d_Mo_setting 3 rfl) cI_1 ?_
  obtain ⟨x2, e1, h⟩ := kOk_b h
  refine k_cSI G (dc d_Mo_setting 4 rfl) mi_Mo_in ms_Mo_in ml_RX11_41 (c_Mo_in (gst G)  e1) rfl rfl ⟨rfl, rfl⟩ rfl ⟨rfl, rfl⟩ ⟨rfl, rfl⟩ ?_
  refine kJ h (fun r4 => KK X B L 2 0 0 M 15 [(0, .ref (B.1 + u)), (1, .int p0)] [.int r4, .ref (B.1 + u)]) (fun r4 h => ?_) (fun h => ?_)
  · obtain ⟨t3, rfl⟩ : ∃ z, z = r4 := ⟨_, rfl⟩
    show KK X B L 2 0 0 M 15 [(0, .ref (B.1 + u)), (1, .int p0)] [.int t3, .ref (B.1 + u)]
    obtain ⟨⟨x6, M7⟩, e5, h⟩ := kOk_b h
    refine k_cVI G (dc d_Mo_setting 9 rfl) kc8 (okL_lt hu (o := 0) 0 rfl) (okL_k hu (o := 0) 0 rfl) mi_Mo_holds mv_Mo_holds rfl ml_RX11_164 (c_Mo_holds (gst G) hu e5) rfl rfl ⟨rfl, rfl⟩ rfl ⟨rfl, rfl⟩ ⟨rfl, rfl⟩ ?_
    refine kJ h (fun r9 => KK X B L 2 0 0 M7 34 [] [.int r9]) (fun r9 h => ?_) (fun h => ?_)
    · obtain ⟨t8, rfl⟩ : ∃ z, z = r9 := ⟨_, rfl⟩
      show KK X B L 2 0 0 M7 34 [] [.int t8]
      exact (kOk_s h) _ _ _ _ rfl rfl rfl (dc d_Mo_setting 19 rfl)
    · refine k_if_eq G (dc d_Mo_setting 10 rfl) (tgt := 33) rfl (fun c10 => ?_) (fun c10 => ?_)
      · replace h := kOk_p c10 h
        refine k_iconst G (dc d_Mo_setting 18 rfl) cI_0 ?_
        refine k_sub [] rfl ?_
        have h9 := kOk_s h
        exact h9
      · replace h := kOk_n c10 h
        refine k_aload_n G (dc d_Mo_setting 11 rfl) 0 rfl rfl ?_
        refine k_getR G kc8 (dc d_Mo_setting 12 rfl) (okL_lt hu (o := 0) 0 rfl) (okL_k hu (o := 0) 0 rfl) 1 (by decide) rfl fl_RX11_7 (u + 1) (okL_r hu (o := 0) (c := 1) 0 rfl 0 rfl) ?_
        refine k_bipush G (dc d_Mo_setting 13 rfl) cB_106 ?_
        refine k_iload_n G (dc d_Mo_setting 14 rfl) 1 rfl rfl ?_
        refine k_iadd G (dc d_Mo_setting 15 rfl) ?_
        obtain ⟨x12, e11, h⟩ := kOk_b h
        refine k_ild G (dc d_Mo_setting 16 rfl) (okL_lt hu (o := 1) 1 rfl) (okL_k hu (o := 1) 1 rfl) (okL_n hu (o := 1) 1 rfl) e11 ?_
        refine k_goto G (dc d_Mo_setting 17 rfl) (tgt := 34) rfl ?_
        refine k_sub [] rfl ?_
        have h9 := kOk_s h
        exact h9
  · refine k_if_eq G (dc d_Mo_setting 5 rfl) (tgt := 14) rfl (fun c13 => ?_) (fun c13 => ?_)
    · replace h := kOk_p c13 h
      refine k_iconst G (dc d_Mo_setting 8 rfl) cI_1 ?_
      have h9 := kOk_s h
      exact h9
    · replace h := kOk_n c13 h
      refine k_iconst G (dc d_Mo_setting 6 rfl) cI_0 ?_
      refine k_goto G (dc d_Mo_setting 7 rfl) (tgt := 15) rfl ?_
      have h9 := kOk_s h
      exact h9
theorem c_Mo_setting {l : Launch} {B : KB} {L : KLay} {M : KMem} {u : Nat} {p0 : Int32} (hst : l.stackTraces = false) (hu : okL L u moT) {r : Int32} {M' : KMem} (e : m_Mo_setting u p0 M = some (r, M')) : CtrN l B yX11_setting cX11_setting 2 (some .int) rm_Mo_setting [.ref (B.1 + u), .int p0] L M (some (.int r)) L M' :=
  mk_I rfl hst rfl (fun X hl G _ R => b_Mo_setting G hu ⟨_, e, R⟩)
def I_Mo_acts : List (Nat × Instr × Nat) := [(0, .aload_n 0, 1), (1, .invokevirtual 216, 3), (4, .aload_n 0, 1), (5, .iload_n 1, 1), (6, .putfield 115, 3), (9, .aload_n 0, 1), (10, .iload_n 2, 1), (11, .putfield 118, 3), (14, .aload_n 0, 1), (15, .iload_n 3, 1), (16, .putfield 121, 3), (19, .aload_n 0, 1), (20, .iload 4, 2), (22, .putfield 137, 3), (25, .aload_n 0, 1), (26, .invokevirtual 190, 3), (29, .istore 5, 2), (31, .aload_n 0, 1), (32, .getfield 7, 3), (35, .bipush 97, 2), (37, .dup2, 1), (38, .iaload, 1), (39, .aload_n 0, 1), (40, .invokevirtual 193, 3), (43, .ifCond .eq 12, 3), (46, .iload 5, 2), (48, .ifCond .le 7, 3), (51, .iconst 1, 1), (52, .goto 4, 3), (55, .iconst 0, 1), (56, .iadd, 1), (57, .iastore, 1), (58, .iload 5, 2), (60, .ireturn, 1)]
set_option maxRecDepth 100000 in
theorem d_Mo_acts : decA cX11_acts I_Mo_acts = true := by decide +kernel
abbrev rm_Mo_acts : Room := ({ frames := 9, cells := 0, slots := 0, locals := 206 } : Room)
def m_Mo_acts (u : Nat) (p0 : Int32) (p1 : Int32) (p2 : Int32) (p3 : Int32) (M : KMem) : Option (Int32 × KMem) :=
 Option.bind (m_Mo_remember u M) fun M2 =>
 Option.bind (some (kup M2 u 11 p0)) fun M4 =>
 Option.bind (some (kup M4 u 12 p1)) fun M6 =>
 Option.bind (some (kup M6 u 13 p2)) fun M8 =>
 Option.bind (some (kup M8 u 14 p3)) fun M10 =>
 Option.bind (m_Mo_does u M10) fun (x12, M13) =>
 Option.bind (rdI M13 (u + 1) 108 97) fun x15 =>
 Option.bind (m_Mo_hasReasons u M13) fun x17 =>
 Option.bind (α := Int32) (if x17 = 0 then
 (some 0)
 else
 (if x12 ≤ 0 then
 (some 0)
 else
 (some 1))) fun t18 =>
 Option.bind (wrI M13 (u + 1) 108 97 (x15 + t18)) fun M21 =>
 some (x12, M21)
set_option maxHeartbeats 4000000 in
set_option maxRecDepth 100000 in
theorem b_Mo_acts {X : KX} {B : KB} {L : KLay} {M : KMem} {u : Nat} {p0 : Int32} {p1 : Int32} {p2 : Int32} {p3 : Int32} (G : Good X B RX11 cX11_acts 6 rm_Mo_acts) (hu : okL L u moT) (h : kOk (m_Mo_acts u p0 p1 p2 p3 M) (fun r => RI X B L 6 cX11_acts .int rm_Mo_acts r.1 r.2)) : KK X B L 6 0 0 M 0 [(0, .ref (B.1 + u)), (1, .int p0), (2, .int p1), (3, .int p2), (4, .int p3)] [] := by
  unfold m_Mo_acts at h
  refine k_aload_n G (dc d_Mo_acts 0 rfl) 0 rfl rfl ?_
  obtain ⟨M2, e1, h⟩ := kOk_b h
  refine k_cVV G (dc d_Mo_acts 1 rfl) kc8 (okL_lt hu (o := 0) 0 rfl) (okL_k hu (o := 0) 0 rfl) mi_Mo_remember mv_Mo_remember rfl ml_RX11_216 (c_Mo_remember (gst G) hu e1) rfl rfl ⟨rfl, rfl⟩ rfl ⟨rfl, rfl⟩ ⟨rfl, rfl⟩ ?_
  refine k_aload_n G (dc d_Mo_acts 2 rfl) 0 rfl rfl ?_
  refine k_iload_n G (dc d_Mo_acts 3 rfl) 1 rfl rfl ?_
  obtain ⟨M4, e3, h⟩ := kOk_b h
  refine k_putI G kc8 (dc d_Mo_acts 4 rfl) (okL_lt hu (o := 0) 0 rfl) (okL_k hu (o := 0) 0 rfl) 11 (by decide) rfl rfl fl_RX11_115 rfl rfl e3 ?_
  refine k_aload_n G (dc d_Mo_acts 5 rfl) 0 rfl rfl ?_
  refine k_iload_n G (dc d_Mo_acts 6 rfl) 2 rfl rfl ?_
  obtain ⟨M6, e5, h⟩ := kOk_b h
  refine k_putI G kc8 (dc d_Mo_acts 7 rfl) (okL_lt hu (o := 0) 0 rfl) (okL_k hu (o := 0) 0 rfl) 12 (by decide) rfl rfl fl_RX11_118 rfl rfl e5 ?_
  refine k_aload_n G (dc d_Mo_acts 8 rfl) 0 rfl rfl ?_
  refine k_iload_n G (dc d_Mo_acts 9 rfl) 3 rfl rfl ?_
  obtain ⟨M8, e7, h⟩ := kOk_b h
  refine k_putI G kc8 (dc d_Mo_acts 10 rfl) (okL_lt hu (o := 0) 0 rfl) (okL_k hu (o := 0) 0 rfl) 13 (by decide) rfl rfl fl_RX11_121 rfl rfl e7 ?_
  refine k_aload_n G (dc d_Mo_acts 11 rfl) 0 rfl rfl ?_
  refine k_iload G (dc d_Mo_acts 12 rfl) 4 rfl ?_
  obtain ⟨M10, e9, h⟩ := kOk_b h
  refine k_putI G kc8 (dc d_Mo_acts 13 rfl) (okL_lt hu (o := 0) 0 rfl) (okL_k hu (o := 0) 0 rfl) 14 (by decide) rfl rfl fl_RX11_137 rfl rfl e9 ?_
  refine k_aload_n G (dc d_Mo_acts 14 rfl) 0 rfl rfl ?_
  obtain ⟨⟨x12, M13⟩, e11, h⟩ := kOk_b h
  refine k_cVI G (dc d_Mo_acts 15 rfl) kc8 (okL_lt hu (o := 0) 0 rfl) (okL_k hu (o := 0) 0 rfl) mi_Mo_does mv_Mo_does rfl ml_RX11_190 (c_Mo_does (gst G) hu e11) rfl rfl ⟨rfl, rfl⟩ rfl ⟨rfl, rfl⟩ ⟨rfl, rfl⟩ ?_
  refine k_istore G (dc d_Mo_acts 16 rfl) (ls' := [(5, .int x12), (0, .ref (B.1 + u)), (1, .int p0), (2, .int p1), (3, .int p2), (4, .int p3)]) rfl rfl ?_
  refine k_aload_n G (dc d_Mo_acts 17 rfl) 1 rfl rfl ?_
  refine k_getR G kc8 (dc d_Mo_acts 18 rfl) (okL_lt hu (o := 0) 0 rfl) (okL_k hu (o := 0) 0 rfl) 1 (by decide) rfl fl_RX11_7 (u + 1) (okL_r hu (o := 0) (c := 1) 0 rfl 0 rfl) ?_
  refine k_bipush G (dc d_Mo_acts 19 rfl) cB_97 ?_
  refine k_dup2 G (dc d_Mo_acts 20 rfl) rfl rfl ?_
  obtain ⟨x15, e14, h⟩ := kOk_b h
  refine k_ild G (dc d_Mo_acts 21 rfl) (okL_lt hu (o := 1) 1 rfl) (okL_k hu (o := 1) 1 rfl) (okL_n hu (o := 1) 1 rfl) e14 ?_
  refine k_aload_n G (dc d_Mo_acts 22 rfl) 1 rfl rfl ?_
  obtain ⟨x17, e16, h⟩ := kOk_b h
  refine k_cVI G (dc d_Mo_acts 23 rfl) kc8 (okL_lt hu (o := 0) 0 rfl) (okL_k hu (o := 0) 0 rfl) mi_Mo_hasReasons mv_Mo_hasReasons rfl ml_RX11_193 (c_Mo_hasReasons (gst G) hu e16) rfl rfl ⟨rfl, rfl⟩ rfl ⟨rfl, rfl⟩ ⟨rfl, rfl⟩ ?_
  refine kJ h (fun r19 => KK X B L 6 0 0 M13 56 [(5, .int x12)] [.int r19, .int x15, .int 97, .ref (B.1 + (u + 1))]) (fun r19 h => ?_) (fun h => ?_)
  · obtain ⟨t18, rfl⟩ : ∃ z, z = r19 := ⟨_, rfl⟩
    show KK X B L 6 0 0 M13 56 [(5, .int x12)] [.int t18, .int x15, .int 97, .ref (B.1 + (u + 1))]
    refine k_iadd G (dc d_Mo_acts 30 rfl) ?_
    obtain ⟨M21, e20, h⟩ := kOk_b h
    refine k_ist G (dc d_Mo_acts 31 rfl) (okL_lt hu (o := 1) 1 rfl) (okL_k hu (o := 1) 1 rfl) (okL_n hu (o := 1) 1 rfl) e20 ?_
    refine k_iload G (dc d_Mo_acts 32 rfl) 0 rfl ?_
    exact (kOk_s h) _ _ _ _ rfl rfl rfl (dc d_Mo_acts 33 rfl)
  · refine k_if_eq G (dc d_Mo_acts 24 rfl) (tgt := 55) rfl (fun c22 => ?_) (fun c22 => ?_)
    · replace h := kOk_p c22 h
      refine k_iconst G (dc d_Mo_acts 29 rfl) cI_0 ?_
      refine k_sub [0] rfl ?_
      have h9 := kOk_s h
      exact h9
    · replace h := kOk_n c22 h
      refine k_iload G (dc d_Mo_acts 25 rfl) 0 rfl ?_
      refine k_if_le G (dc d_Mo_acts 26 rfl) (tgt := 55) rfl (fun c23 => ?_) (fun c23 => ?_)
      · replace h := kOk_p c23 h
        refine k_iconst G (dc d_Mo_acts 29 rfl) cI_0 ?_
        refine k_sub [0] rfl ?_
        have h9 := kOk_s h
        exact h9
      · replace h := kOk_n c23 h
        refine k_iconst G (dc d_Mo_acts 27 rfl) cI_1 ?_
        refine k_goto G (dc d_Mo_acts 28 rfl) (tgt := 56) rfl ?_
        refine k_sub [0] rfl ?_
        have h9 := kOk_s h
        exact h9
theorem c_Mo_acts {l : Launch} {B : KB} {L : KLay} {M : KMem} {u : Nat} {p0 : Int32} {p1 : Int32} {p2 : Int32} {p3 : Int32} (hst : l.stackTraces = false) (hu : okL L u moT) {r : Int32} {M' : KMem} (e : m_Mo_acts u p0 p1 p2 p3 M = some (r, M')) : CtrN l B yX11_acts cX11_acts 6 (some .int) rm_Mo_acts [.ref (B.1 + u), .int p0, .int p1, .int p2, .int p3] L M (some (.int r)) L M' :=
  mk_I rfl hst rfl (fun X hl G _ R => b_Mo_acts G hu ⟨_, e, R⟩)
def I_Mo_sign : List (Nat × Instr × Nat) := [(0, .aload_n 0, 1), (1, .aload_n 0, 1), (2, .iload_n 1, 1), (3, .iload_n 2, 1), (4, .invokevirtual 124, 3), (7, .invokevirtual 164, 3), (10, .ifCond .eq 15, 3), (13, .aload_n 0, 1), (14, .bipush 115, 2), (16, .iload_n 1, 1), (17, .iload_n 2, 1), (18, .iconst 0, 1), (19, .invokevirtual 219, 3), (22, .goto 4, 3), (25, .iconst 0, 1), (26, .ireturn, 1)]
set_option maxRecDepth 100000 in
theorem d_Mo_sign : decA cX11_sign I_Mo_sign = true := by decide +kernel
abbrev rm_Mo_sign : Room := ({ frames := 10, cells := 0, slots := 0, locals := 231 } : Room)
def m_Mo_sign (u : Nat) (p0 : Int32) (p1 : Int32) (M : KMem) : Option (Int32 × KMem) :=
 Option.bind (m_Mo_errorOfSign u p0 p1 M) fun x2 =>
 Option.bind (m_Mo_holds u x2 M) fun (x4, M5) =>
 Option.bind (α := Int32 × KMem) (if x4 = 0 then
 (some (0, M5))
 else
 (Option.bind (m_Mo_acts u 115 p0 p1 0 M5) fun (x11, M12) =>
 some (x11, M12))) fun (t6, M7) =>
 some (t6, M7)
set_option maxHeartbeats 4000000 in
set_option maxRecDepth 100000 in
theorem b_Mo_sign {X : KX} {B : KB} {L : KLay} {M : KMem} {u : Nat} {p0 : Int32} {p1 : Int32} (G : Good X B RX11 cX11_sign 3 rm_Mo_sign) (hu : okL L u moT) (h : kOk (m_Mo_sign u p0 p1 M) (fun r => RI X B L 3 cX11_sign .int rm_Mo_sign r.1 r.2)) : KK X B L 3 0 0 M 0 [(0, .ref (B.1 + u)), (1, .int p0), (2, .int p1)] [] := by
  unfold m_Mo_sign at h
  refine k_aload_n G (dc d_Mo_sign 0 rfl) 0 rfl rfl ?_
  refine k_aload_n G (dc d_Mo_sign 1 rfl) 0 rfl rfl ?_
  refine k_iload_n G (dc d_Mo_sign 2 rfl) 1 rfl rfl ?_
  refine k_iload_n G (dc d_Mo_sign 3 rfl) 2 rfl rfl ?_
  obtain ⟨x2, e1, h⟩ := kOk_b h
  refine k_cVI G (dc d_Mo_sign 4 rfl) kc8 (okL_lt hu (o := 0) 0 rfl) (okL_k hu (o := 0) 0 rfl) mi_Mo_errorOfSign mv_Mo_errorOfSign rfl ml_RX11_124 (c_Mo_errorOfSign (gst G) hu e1) rfl rfl ⟨rfl, rfl⟩ rfl ⟨rfl, rfl⟩ ⟨rfl, rfl⟩ ?_
  obtain ⟨⟨x4, M5⟩, e3, h⟩ := kOk_b h
  refine k_cVI G (dc d_Mo_sign 5 rfl) kc8 (okL_lt hu (o := 0) 0 rfl) (okL_k hu (o := 0) 0 rfl) mi_Mo_holds mv_Mo_holds rfl ml_RX11_164 (c_Mo_holds (gst G) hu e3) rfl rfl ⟨rfl, rfl⟩ rfl ⟨rfl, rfl⟩ ⟨rfl, rfl⟩ ?_
  refine kJ h (fun r8 => KK X B L 3 0 0 r8.2 26 [] [.int r8.1]) (fun r8 h => ?_) (fun h => ?_)
  · obtain ⟨t6, M7⟩ := r8
    show KK X B L 3 0 0 M7 26 [] [.int t6]
    exact (kOk_s h) _ _ _ _ rfl rfl rfl (dc d_Mo_sign 15 rfl)
  · refine k_if_eq G (dc d_Mo_sign 6 rfl) (tgt := 25) rfl (fun c9 => ?_) (fun c9 => ?_)
    · replace h := kOk_p c9 h
      refine k_iconst G (dc d_Mo_sign 14 rfl) cI_0 ?_
      refine k_sub [] rfl ?_
      have h9 := kOk_s h
      exact h9
    · replace h := kOk_n c9 h
      refine k_aload_n G (dc d_Mo_sign 7 rfl) 0 rfl rfl ?_
      refine k_bipush G (dc d_Mo_sign 8 rfl) cB_115 ?_
      refine k_iload_n G (dc d_Mo_sign 9 rfl) 1 rfl rfl ?_
      refine k_iload_n G (dc d_Mo_sign 10 rfl) 2 rfl rfl ?_
      refine k_iconst G (dc d_Mo_sign 11 rfl) cI_0 ?_
      obtain ⟨⟨x11, M12⟩, e10, h⟩ := kOk_b h
      refine k_cVI G (dc d_Mo_sign 12 rfl) kc8 (okL_lt hu (o := 0) 0 rfl) (okL_k hu (o := 0) 0 rfl) mi_Mo_acts mv_Mo_acts rfl ml_RX11_219 (c_Mo_acts (gst G) hu e10) rfl rfl ⟨rfl, rfl⟩ rfl ⟨rfl, rfl⟩ ⟨rfl, rfl⟩ ?_
      refine k_goto G (dc d_Mo_sign 13 rfl) (tgt := 26) rfl ?_
      refine k_sub [] rfl ?_
      have h9 := kOk_s h
      exact h9
theorem c_Mo_sign {l : Launch} {B : KB} {L : KLay} {M : KMem} {u : Nat} {p0 : Int32} {p1 : Int32} (hst : l.stackTraces = false) (hu : okL L u moT) {r : Int32} {M' : KMem} (e : m_Mo_sign u p0 p1 M = some (r, M')) : CtrN l B yX11_sign cX11_sign 3 (some .int) rm_Mo_sign [.ref (B.1 + u), .int p0, .int p1] L M (some (.int r)) L M' :=
  mk_I rfl hst rfl (fun X hl G _ R => b_Mo_sign G hu ⟨_, e, R⟩)
def I_Mo_decree : List (Nat × Instr × Nat) := [(0, .aload_n 0, 1), (1, .aload_n 0, 1), (2, .iload_n 1, 1), (3, .iload_n 2, 1), (4, .iload_n 3, 1), (5, .iload 4, 2), (7, .invokevirtual 130, 3), (10, .invokevirtual 164, 3), (13, .ifCond .eq 35, 3), (16, .aload_n 0, 1), (17, .iload_n 1, 1), (18, .ifCond .ne 8, 3), (21, .bipush 100, 2), (23, .goto 15, 3), (26, .iload_n 1, 1), (27, .iconst 1, 1), (28, .if_icmp .ne 8, 3), (31, .bipush 106, 2), (33, .goto 5, 3), (36, .bipush 111, 2), (38, .iload_n 2, 1), (39, .iload_n 3, 1), (40, .iload 4, 2), (42, .invokevirtual 219, 3), (45, .goto 4, 3), (48, .iconst 0, 1), (49, .ireturn, 1)]
set_option maxRecDepth 100000 in
theorem d_Mo_decree : decA cX11_decree I_Mo_decree = true := by decide +kernel
abbrev rm_Mo_decree : Room := ({ frames := 10, cells := 0, slots := 0, locals := 231 } : Room)
def m_Mo_decree (u : Nat) (p0 : Int32) (p1 : Int32) (p2 : Int32) (p3 : Int32) (M : KMem) : Option (Int32 × KMem) :=
 Option.bind (m_Mo_errorOfDecree u p0 p1 p2 p3 M) fun x2 =>
 Option.bind (m_Mo_holds u x2 M) fun (x4, M5) =>
 Option.bind (α := Int32 × KMem) (if x4 = 0 then
 (some (0, M5))
 else
 (Option.bind (α := Int32) (if p0 = 0 then
 (some 100)
 else
 (if p0 = 1 then
 (some 106)
 else
 (some 111))) fun t10 =>
 Option.bind (m_Mo_acts u t10 p1 p2 p3 M5) fun (x13, M14) =>
 some (x13, M14))) fun (t6, M7) =>
 some (t6, M7)
set_option maxHeartbeats 4000000 in
set_option maxRecDepth 100000 in
theorem b_Mo_decree {X : KX} {B : KB} {L : KLay} {M : KMem} {u : Nat} {p0 : Int32} {p1 : Int32} {p2 : Int32} {p3 : Int32} (G : Good X B RX11 cX11_decree 5 rm_Mo_decree) (hu : okL L u moT) (h : kOk (m_Mo_decree u p0 p1 p2 p3 M) (fun r => RI X B L 5 cX11_decree .int rm_Mo_decree r.1 r.2)) : KK X B L 5 0 0 M 0 [(0, .ref (B.1 + u)), (1, .int p0), (2, .int p1), (3, .int p2), (4, .int p3)] [] := by
  unfold m_Mo_decree at h
  refine k_aload_n G (dc d_Mo_decree 0 rfl) 0 rfl rfl ?_
  refine k_aload_n G (dc d_Mo_decree 1 rfl) 0 rfl rfl ?_
  refine k_iload_n G (dc d_Mo_decree 2 rfl) 1 rfl rfl ?_
  refine k_iload_n G (dc d_Mo_decree 3 rfl) 2 rfl rfl ?_
  refine k_iload_n G (dc d_Mo_decree 4 rfl) 3 rfl rfl ?_
  refine k_iload G (dc d_Mo_decree 5 rfl) 4 rfl ?_
  obtain ⟨x2, e1, h⟩ := kOk_b h
  refine k_cVI G (dc d_Mo_decree 6 rfl) kc8 (okL_lt hu (o := 0) 0 rfl) (okL_k hu (o := 0) 0 rfl) mi_Mo_errorOfDecree mv_Mo_errorOfDecree rfl ml_RX11_130 (c_Mo_errorOfDecree (gst G) hu e1) rfl rfl ⟨rfl, rfl⟩ rfl ⟨rfl, rfl⟩ ⟨rfl, rfl⟩ ?_
  obtain ⟨⟨x4, M5⟩, e3, h⟩ := kOk_b h
  refine k_cVI G (dc d_Mo_decree 7 rfl) kc8 (okL_lt hu (o := 0) 0 rfl) (okL_k hu (o := 0) 0 rfl) mi_Mo_holds mv_Mo_holds rfl ml_RX11_164 (c_Mo_holds (gst G) hu e3) rfl rfl ⟨rfl, rfl⟩ rfl ⟨rfl, rfl⟩ ⟨rfl, rfl⟩ ?_
  refine kJ h (fun r8 => KK X B L 5 0 0 r8.2 49 [] [.int r8.1]) (fun r8 h => ?_) (fun h => ?_)
  · obtain ⟨t6, M7⟩ := r8
    show KK X B L 5 0 0 M7 49 [] [.int t6]
    exact (kOk_s h) _ _ _ _ rfl rfl rfl (dc d_Mo_decree 26 rfl)
  · refine k_if_eq G (dc d_Mo_decree 8 rfl) (tgt := 48) rfl (fun c9 => ?_) (fun c9 => ?_)
    · replace h := kOk_p c9 h
      refine k_iconst G (dc d_Mo_decree 25 rfl) cI_0 ?_
      refine k_sub [] rfl ?_
      have h9 := kOk_s h
      exact h9
    · replace h := kOk_n c9 h
      refine k_aload_n G (dc d_Mo_decree 9 rfl) 0 rfl rfl ?_
      refine k_iload_n G (dc d_Mo_decree 10 rfl) 1 rfl rfl ?_
      refine kJ h (fun r11 => KK X B L 5 0 0 M5 38 [(2, .int p1), (3, .int p2), (4, .int p3)] [.int r11, .ref (B.1 + u)]) (fun r11 h => ?_) (fun h => ?_)
      · obtain ⟨t10, rfl⟩ : ∃ z, z = r11 := ⟨_, rfl⟩
        show KK X B L 5 0 0 M5 38 [(2, .int p1), (3, .int p2), (4, .int p3)] [.int t10, .ref (B.1 + u)]
        refine k_iload_n G (dc d_Mo_decree 20 rfl) 0 rfl rfl ?_
        refine k_iload_n G (dc d_Mo_decree 21 rfl) 1 rfl rfl ?_
        refine k_iload G (dc d_Mo_decree 22 rfl) 2 rfl ?_
        obtain ⟨⟨x13, M14⟩, e12, h⟩ := kOk_b h
        refine k_cVI G (dc d_Mo_decree 23 rfl) kc8 (okL_lt hu (o := 0) 0 rfl) (okL_k hu (o := 0) 0 rfl) mi_Mo_acts mv_Mo_acts rfl ml_RX11_219 (c_Mo_acts (gst G) hu e12) rfl rfl ⟨rfl, rfl⟩ rfl ⟨rfl, rfl⟩ ⟨rfl, rfl⟩ ?_
        refine k_goto G (dc d_Mo_decree 24 rfl) (tgt := 49) rfl ?_
        refine k_sub [] rfl ?_
        have h9 := kOk_s h
        exact h9
      · refine k_if_ne G (dc d_Mo_decree 11 rfl) (tgt := 26) rfl (fun c15 => ?_) (fun c15 => ?_)
        · replace h := kOk_n c15 h
          refine k_iload_n G (dc d_Mo_decree 14 rfl) 1 rfl rfl ?_
          refine k_iconst G (dc d_Mo_decree 15 rfl) cI_1 ?_
          refine k_icmp_ne G (dc d_Mo_decree 16 rfl) (tgt := 36) rfl (fun c16 => ?_) (fun c16 => ?_)
          · replace h := kOk_n c16 h
            refine k_bipush G (dc d_Mo_decree 19 rfl) cB_111 ?_
            refine k_sub [2, 3, 4] rfl ?_
            have h9 := kOk_s h
            exact h9
          · replace h := kOk_p c16 h
            refine k_bipush G (dc d_Mo_decree 17 rfl) cB_106 ?_
            refine k_goto G (dc d_Mo_decree 18 rfl) (tgt := 38) rfl ?_
            refine k_sub [2, 3, 4] rfl ?_
            have h9 := kOk_s h
            exact h9
        · replace h := kOk_p c15 h
          refine k_bipush G (dc d_Mo_decree 12 rfl) cB_100 ?_
          refine k_goto G (dc d_Mo_decree 13 rfl) (tgt := 38) rfl ?_
          refine k_sub [2, 3, 4] rfl ?_
          have h9 := kOk_s h
          exact h9
theorem c_Mo_decree {l : Launch} {B : KB} {L : KLay} {M : KMem} {u : Nat} {p0 : Int32} {p1 : Int32} {p2 : Int32} {p3 : Int32} (hst : l.stackTraces = false) (hu : okL L u moT) {r : Int32} {M' : KMem} (e : m_Mo_decree u p0 p1 p2 p3 M = some (r, M')) : CtrN l B yX11_decree cX11_decree 5 (some .int) rm_Mo_decree [.ref (B.1 + u), .int p0, .int p1, .int p2, .int p3] L M (some (.int r)) L M' :=
  mk_I rfl hst rfl (fun X hl G _ R => b_Mo_decree G hu ⟨_, e, R⟩)
def I_Mo_revoke : List (Nat × Instr × Nat) := [(0, .aload_n 0, 1), (1, .aload_n 0, 1), (2, .iload_n 1, 1), (3, .invokevirtual 140, 3), (6, .ifCond .eq 7, 3), (9, .iconst 0, 1), (10, .goto 4, 3), (13, .iconst 1, 1), (14, .invokevirtual 164, 3), (17, .ifCond .eq 15, 3), (20, .aload_n 0, 1), (21, .bipush 114, 2), (23, .iload_n 1, 1), (24, .iconst 0, 1), (25, .iconst 0, 1), (26, .invokevirtual 219, 3), (29, .goto 4, 3), (32, .iconst 0, 1), (33, .ireturn, 1)]
set_option maxRecDepth 100000 in
theorem d_Mo_revoke : decA cX11_revoke I_Mo_revoke = true := by decide +kernel
abbrev rm_Mo_revoke : Room := ({ frames := 10, cells := 0, slots := 0, locals := 231 } : Room)
def m_Mo_revoke (u : Nat) (p0 : Int32) (M : KMem) : Option (Int32 × KMem) :=
 Option.bind (m_Mo_isDecree u p0 M) fun x2 =>
 Option.bind (α := Int32) (if x2 = 0 then
 (some 1)
 else
 (some 0)) fun t3 =>
 Option.bind (m_Mo_holds u t3 M) fun (x6, M7) =>
 Option.bind (α := Int32 × KMem) (if x6 = 0 then
 (some (0, M7))
 else
 (Option.bind (m_Mo_acts u 114 p0 0 0 M7) fun (x13, M14) =>
 some (x13, M14))) fun (t8, M9) =>
 some (t8, M9)
set_option maxHeartbeats 4000000 in
set_option maxRecDepth 100000 in
theorem b_Mo_revoke {X : KX} {B : KB} {L : KLay} {M : KMem} {u : Nat} {p0 : Int32} (G : Good X B RX11 cX11_revoke 2 rm_Mo_revoke) (hu : okL L u moT) (h : kOk (m_Mo_revoke u p0 M) (fun r => RI X B L 2 cX11_revoke .int rm_Mo_revoke r.1 r.2)) : KK X B L 2 0 0 M 0 [(0, .ref (B.1 + u)), (1, .int p0)] [] := by
  unfold m_Mo_revoke at h
  refine k_aload_n G (dc d_Mo_revoke 0 rfl) 0 rfl rfl ?_
  refine k_aload_n G (dc d_Mo_revoke 1 rfl) 0 rfl rfl ?_
  refine k_iload_n G (dc d_Mo_revoke 2 rfl) 1 rfl rfl ?_
  obtain ⟨x2, e1, h⟩ := kOk_b h
  refine k_cVI G (dc d_Mo_revoke 3 rfl) kc8 (okL_lt hu (o := 0) 0 rfl) (okL_k hu (o := 0) 0 rfl) mi_Mo_isDecree mv_Mo_isDecree rfl ml_RX11_140 (c_Mo_isDecree (gst G) hu e1) rfl rfl ⟨rfl, rfl⟩ rfl ⟨rfl, rfl⟩ ⟨rfl, rfl⟩ ?_
  refine kJ h (fun r4 => KK X B L 2 0 0 M 14 [(0, .ref (B.1 + u)), (1, .int p0)] [.int r4, .ref (B.1 + u)]) (fun r4 h => ?_) (fun h => ?_)
  · obtain ⟨t3, rfl⟩ : ∃ z, z = r4 := ⟨_, rfl⟩
    show KK X B L 2 0 0 M 14 [(0, .ref (B.1 + u)), (1, .int p0)] [.int t3, .ref (B.1 + u)]
    obtain ⟨⟨x6, M7⟩, e5, h⟩ := kOk_b h
    refine k_cVI G (dc d_Mo_revoke 8 rfl) kc8 (okL_lt hu (o := 0) 0 rfl) (okL_k hu (o := 0) 0 rfl) mi_Mo_holds mv_Mo_holds rfl ml_RX11_164 (c_Mo_holds (gst G) hu e5) rfl rfl ⟨rfl, rfl⟩ rfl ⟨rfl, rfl⟩ ⟨rfl, rfl⟩ ?_
    refine kJ h (fun r10 => KK X B L 2 0 0 r10.2 33 [] [.int r10.1]) (fun r10 h => ?_) (fun h => ?_)
    · obtain ⟨t8, M9⟩ := r10
      show KK X B L 2 0 0 M9 33 [] [.int t8]
      exact (kOk_s h) _ _ _ _ rfl rfl rfl (dc d_Mo_revoke 18 rfl)
    · refine k_if_eq G (dc d_Mo_revoke 9 rfl) (tgt := 32) rfl (fun c11 => ?_) (fun c11 => ?_)
      · replace h := kOk_p c11 h
        refine k_iconst G (dc d_Mo_revoke 17 rfl) cI_0 ?_
        refine k_sub [] rfl ?_
        have h9 := kOk_s h
        exact h9
      · replace h := kOk_n c11 h
        refine k_aload_n G (dc d_Mo_revoke 10 rfl) 0 rfl rfl ?_
        refine k_bipush G (dc d_Mo_revoke 11 rfl) cB_114 ?_
        refine k_iload_n G (dc d_Mo_revoke 12 rfl) 1 rfl rfl ?_
        refine k_iconst G (dc d_Mo_revoke 13 rfl) cI_0 ?_
        refine k_iconst G (dc d_Mo_revoke 14 rfl) cI_0 ?_
        obtain ⟨⟨x13, M14⟩, e12, h⟩ := kOk_b h
        refine k_cVI G (dc d_Mo_revoke 15 rfl) kc8 (okL_lt hu (o := 0) 0 rfl) (okL_k hu (o := 0) 0 rfl) mi_Mo_acts mv_Mo_acts rfl ml_RX11_219 (c_Mo_acts (gst G) hu e12) rfl rfl ⟨rfl, rfl⟩ rfl ⟨rfl, rfl⟩ ⟨rfl, rfl⟩ ?_
        refine k_goto G (dc d_Mo_revoke 16 rfl) (tgt := 33) rfl ?_
        refine k_sub [] rfl ?_
        have h9 := kOk_s h
        exact h9
  · refine k_if_eq G (dc d_Mo_revoke 4 rfl) (tgt := 13) rfl (fun c15 => ?_) (fun c15 => ?_)
    · replace h := kOk_p c15 h
      refine k_iconst G (dc d_Mo_revoke 7 rfl) cI_1 ?_
      have h9 := kOk_s h
      exact h9
    · replace h := kOk_n c15 h
      refine k_iconst G (dc d_Mo_revoke 5 rfl) cI_0 ?_
      refine k_goto G (dc d_Mo_revoke 6 rfl) (tgt := 14) rfl ?_
      have h9 := kOk_s h
      exact h9
theorem c_Mo_revoke {l : Launch} {B : KB} {L : KLay} {M : KMem} {u : Nat} {p0 : Int32} (hst : l.stackTraces = false) (hu : okL L u moT) {r : Int32} {M' : KMem} (e : m_Mo_revoke u p0 M = some (r, M')) : CtrN l B yX11_revoke cX11_revoke 2 (some .int) rm_Mo_revoke [.ref (B.1 + u), .int p0] L M (some (.int r)) L M' :=
  mk_I rfl hst rfl (fun X hl G _ R => b_Mo_revoke G hu ⟨_, e, R⟩)
