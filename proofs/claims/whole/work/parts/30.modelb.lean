/-! laid by wip/whole/lay.py: Mo_hindrance, Mo_lesser, Mo_apartOf, Mo_apartBy, Mo_isWrong, Mo_costOf, Mo_wrongs, Mo_comes, Mo_putsDecree, Mo_keepsDecrees, Mo_restoresDecrees, Mo_gives, Mo_revokes -/
def I_Mo_hindrance : List (Nat × Instr × Nat) := [(0, .iconst 0, 1), (1, .istore_n 1, 1), (2, .iconst 0, 1), (3, .istore_n 2, 1), (4, .iconst 0, 1), (5, .istore_n 3, 1), (6, .iload_n 3, 1), (7, .aload_n 0, 1), (8, .getfield 7, 3), (11, .iconst 0, 1), (12, .iaload, 1), (13, .if_icmp .ge 91, 3), (16, .aload_n 0, 1), (17, .iload_n 3, 1), (18, .invokevirtual 73, 3), (21, .istore 4, 2), (23, .iload_n 1, 1), (24, .ifCond .ne 8, 3), (27, .iload 4, 2), (29, .ifCond .ne 7, 3), (32, .iconst 1, 1), (33, .goto 4, 3), (36, .iconst 0, 1), (37, .istore_n 1, 1), (38, .iconst 0, 1), (39, .istore 5, 2), (41, .iload 5, 2), (43, .iload_n 3, 1), (44, .if_icmp .ge 54, 3), (47, .iload_n 2, 1), (48, .ifCond .ne 38, 3), (51, .aload_n 0, 1), (52, .getfield 7, 3), (55, .iload 5, 2), (57, .iconst 0, 1), (58, .invokestatic 67, 3), (61, .iaload, 1), (62, .aload_n 0, 1), (63, .getfield 7, 3), (66, .iload_n 3, 1), (67, .iconst 0, 1), (68, .invokestatic 67, 3), (71, .iaload, 1), (72, .if_icmp .ne 18, 3), (75, .aload_n 0, 1), (76, .iload 5, 2), (78, .invokevirtual 73, 3), (81, .iload 4, 2), (83, .if_icmp .ne 7, 3), (86, .iconst 1, 1), (87, .goto 4, 3), (90, .iconst 0, 1), (91, .istore_n 2, 1), (92, .iinc 5 1, 3), (95, .goto (-54), 3), (98, .iinc 3 1, 3), (101, .goto (-95), 3), (104, .iload_n 1, 1), (105, .ifCond .eq 7, 3), (108, .iconst 1, 1), (109, .goto 12, 3), (112, .iload_n 2, 1), (113, .ifCond .eq 7, 3), (116, .iconst 2, 1), (117, .goto 4, 3), (120, .iconst 0, 1), (121, .ireturn, 1)]
set_option maxRecDepth 100000 in
theorem d_Mo_hindrance : decA cX11_hindrance I_Mo_hindrance = true := by decide +kernel
abbrev rm_Mo_hindrance : Room := ({ frames := 5, cells := 0, slots := 0, locals := 122 } : Room)
def m_Mo_hindrance_l41 (u : Nat) (M : KMem) (v3_3 : Int32) (x8 : Int32) : (Int32 × Int32) → Option ((Int32 × Int32) ⊕ Int32) := fun (v2_11, v5_12) =>
 if v3_3 ≤ v5_12 then
 (some (.inr v2_11))
 else
 (Option.bind (α := Int32) (if v2_11 = 0 then
 (Option.bind (m_Mo_of v5_12 0) fun x18 =>
 Option.bind (rdI M (u + 1) 108 x18) fun x20 =>
 Option.bind (m_Mo_of v3_3 0) fun x22 =>
 Option.bind (rdI M (u + 1) 108 x22) fun x24 =>
 if x20 = x24 then
 (Option.bind (m_Mo_rightOf u v5_12 M) fun x27 =>
 if x27 = x8 then
 (some 1)
 else
 (some 0))
 else
 (some 0))
 else
 (some 1)) fun t14 =>
 some (.inl (t14, v5_12 + 1)))
def m_Mo_hindrance_l6 (u : Nat) (M : KMem) : (Int32 × Int32 × Int32) → Option ((Int32 × Int32 × Int32) ⊕ (Int32 × Int32)) := fun (v1_1, v2_2, v3_3) =>
 Option.bind (rdI M (u + 1) 108 0) fun x5 =>
 if x5 ≤ v3_3 then
 (some (.inr (v1_1, v2_2)))
 else
 (Option.bind (m_Mo_rightOf u v3_3 M) fun x8 =>
 Option.bind (α := Int32) (if v1_1 = 0 then
 (if x8 = 0 then
 (some 1)
 else
 (some 0))
 else
 (some 1)) fun t9 =>
 Option.bind (α := Int32) (kLp (m_Mo_hindrance_l41 u M v3_3 x8) kFU (v2_2, 0)) fun v2_29 =>
 some (.inl (t9, v2_29, v3_3 + 1)))
def m_Mo_hindrance (u : Nat) (M : KMem) : Option Int32 :=
 Option.bind (α := Int32 × Int32) (kLp (m_Mo_hindrance_l6 u M) kFU (0, 0, 0)) fun (v1_34, v2_35) =>
 Option.bind (α := Int32) (if v1_34 = 0 then
 (if v2_35 = 0 then
 (some 0)
 else
 (some 2))
 else
 (some 1)) fun t36 =>
 some t36
set_option maxHeartbeats 4000000 in
set_option maxRecDepth 100000 in
theorem b_Mo_hindrance {X : KX} {B : KB} {L : KLay} {M : KMem} {u : Nat} (G : Good X B RX11 cX11_hindrance 6 rm_Mo_hindrance) (hu : okL L u moT) (h : kOk (m_Mo_hindrance u M) (fun r => RI X B L 6 cX11_hindrance .int rm_Mo_hindrance r M)) : KK X B L 6 0 0 M 0 [(0, .ref (B.1 + u))] [] := by
  unfold m_Mo_hindrance at h
  refine k_iconst G (dc d_Mo_hindrance 0 rfl) cI_0 ?_
  refine k_istore_n G (dc d_Mo_hindrance 1 rfl) (ls' := [(1, .int 0), (0, .ref (B.1 + u))]) rfl rfl rfl ?_
  refine k_iconst G (dc d_Mo_hindrance 2 rfl) cI_0 ?_
  refine k_istore_n G (dc d_Mo_hindrance 3 rfl) (ls' := [(2, .int 0), (1, .int 0), (0, .ref (B.1 + u))]) rfl rfl rfl ?_
  refine k_iconst G (dc d_Mo_hindrance 4 rfl) cI_0 ?_
  refine k_istore_n G (dc d_Mo_hindrance 5 rfl) (ls' := [(3, .int 0), (2, .int 0), (1, .int 0), (0, .ref (B.1 + u))]) rfl rfl rfl ?_
  refine kJ h (fun r40 => KK X B L 6 0 0 M 104 [(1, .int r40.1), (2, .int r40.2)] []) (fun r40 h => ?_) (fun h => ?_)
  · obtain ⟨v1_34, v2_35⟩ := r40
    show KK X B L 6 0 0 M 104 [(1, .int v1_34), (2, .int v2_35)] []
    refine k_iload_n G (dc d_Mo_hindrance 57 rfl) 0 rfl rfl ?_
    refine kJ h (fun r37 => KK X B L 6 0 0 M 121 [] [.int r37]) (fun r37 h => ?_) (fun h => ?_)
    · obtain ⟨t36, rfl⟩ : ∃ z, z = r37 := ⟨_, rfl⟩
      show KK X B L 6 0 0 M 121 [] [.int t36]
      exact (kOk_s h) _ _ _ _ rfl rfl rfl (dc d_Mo_hindrance 66 rfl)
    · refine k_if_eq G (dc d_Mo_hindrance 58 rfl) (tgt := 112) rfl (fun c38 => ?_) (fun c38 => ?_)
      · replace h := kOk_p c38 h
        refine k_iload_n G (dc d_Mo_hindrance 61 rfl) 1 rfl rfl ?_
        refine k_if_eq G (dc d_Mo_hindrance 62 rfl) (tgt := 120) rfl (fun c39 => ?_) (fun c39 => ?_)
        · replace h := kOk_p c39 h
          refine k_iconst G (dc d_Mo_hindrance 65 rfl) cI_0 ?_
          refine k_sub [] rfl ?_
          have h9 := kOk_s h
          exact h9
        · replace h := kOk_n c39 h
          refine k_iconst G (dc d_Mo_hindrance 63 rfl) cI_2 ?_
          refine k_goto G (dc d_Mo_hindrance 64 rfl) (tgt := 121) rfl ?_
          refine k_sub [] rfl ?_
          have h9 := kOk_s h
          exact h9
      · replace h := kOk_n c38 h
        refine k_iconst G (dc d_Mo_hindrance 59 rfl) cI_1 ?_
        refine k_goto G (dc d_Mo_hindrance 60 rfl) (tgt := 121) rfl ?_
        refine k_sub [] rfl ?_
        have h9 := kOk_s h
        exact h9
  · refine k_sub [3, 2, 1, 0] rfl ?_
    refine kLp_ok (P := fun s41 => KK X B L 6 0 0 M 6 [(0, .ref (B.1 + u)), (1, .int s41.1), (2, .int s41.2.1), (3, .int s41.2.2)] []) (fun s41 h => ?_) kFU _ h
    obtain ⟨v1_1, v2_2, v3_3⟩ := s41
    unfold m_Mo_hindrance_l6 at h
    show KK X B L 6 0 0 M 6 [(0, .ref (B.1 + u)), (1, .int v1_1), (2, .int v2_2), (3, .int v3_3)] []
    refine k_iload_n G (dc d_Mo_hindrance 6 rfl) 3 rfl rfl ?_
    refine k_aload_n G (dc d_Mo_hindrance 7 rfl) 0 rfl rfl ?_
    refine k_getR G kc8 (dc d_Mo_hindrance 8 rfl) (okL_lt hu (o := 0) 0 rfl) (okL_k hu (o := 0) 0 rfl) 1 (by decide) rfl fl_RX11_7 (u + 1) (okL_r hu (o := 0) (c := 1) 0 rfl 0 rfl) ?_
    refine k_iconst G (dc d_Mo_hindrance 9 rfl) cI_0 ?_
    obtain ⟨x5, e4, h⟩ := kOk_b h
    refine k_ild G (dc d_Mo_hindrance 10 rfl) (okL_lt hu (o := 1) 1 rfl) (okL_k hu (o := 1) 1 rfl) (okL_n hu (o := 1) 1 rfl) e4 ?_
    refine k_icmp_ge G (dc d_Mo_hindrance 11 rfl) (tgt := 104) rfl (fun c6 => ?_) (fun c6 => ?_)
    · replace h := kOk_p c6 h
      refine k_sub [1, 2] rfl ?_
      have h9 := kOk_s h
      exact h9
    · replace h := kOk_n c6 h
      refine k_aload_n G (dc d_Mo_hindrance 12 rfl) 0 rfl rfl ?_
      refine k_iload_n G (dc d_Mo_hindrance 13 rfl) 3 rfl rfl ?_
      obtain ⟨x8, e7, h⟩ := kOk_b h
      refine k_cVI G (dc d_Mo_hindrance 14 rfl) kc8 (okL_lt hu (o := 0) 0 rfl) (okL_k hu (o := 0) 0 rfl) mi_Mo_rightOf mv_Mo_rightOf rfl ml_RX11_73 (c_Mo_rightOf (gst G) hu e7) rfl rfl ⟨rfl, rfl⟩ rfl ⟨rfl, rfl⟩ ⟨rfl, rfl⟩ ?_
      refine k_istore G (dc d_Mo_hindrance 15 rfl) (ls' := [(4, .int x8), (0, .ref (B.1 + u)), (1, .int v1_1), (2, .int v2_2), (3, .int v3_3)]) rfl rfl ?_
      refine k_iload_n G (dc d_Mo_hindrance 16 rfl) 2 rfl rfl ?_
      refine kJ h (fun r10 => KK X B L 6 0 0 M 37 [(0, .ref (B.1 + u)), (2, .int v2_2), (3, .int v3_3), (4, .int x8)] [.int r10]) (fun r10 h => ?_) (fun h => ?_)
      · obtain ⟨t9, rfl⟩ : ∃ z, z = r10 := ⟨_, rfl⟩
        show KK X B L 6 0 0 M 37 [(0, .ref (B.1 + u)), (2, .int v2_2), (3, .int v3_3), (4, .int x8)] [.int t9]
        refine k_istore_n G (dc d_Mo_hindrance 23 rfl) (ls' := [(1, .int t9), (0, .ref (B.1 + u)), (2, .int v2_2), (3, .int v3_3), (4, .int x8)]) rfl rfl rfl ?_
        refine k_iconst G (dc d_Mo_hindrance 24 rfl) cI_0 ?_
        refine k_istore G (dc d_Mo_hindrance 25 rfl) (ls' := [(5, .int 0), (1, .int t9), (0, .ref (B.1 + u)), (2, .int v2_2), (3, .int v3_3), (4, .int x8)]) rfl rfl ?_
        refine kJ h (fun r30 => KK X B L 6 0 0 M 98 [(0, .ref (B.1 + u)), (1, .int t9), (2, .int r30), (3, .int v3_3)] []) (fun r30 h => ?_) (fun h => ?_)
        · obtain ⟨v2_29, rfl⟩ : ∃ z, z = r30 := ⟨_, rfl⟩
          show KK X B L 6 0 0 M 98 [(0, .ref (B.1 + u)), (1, .int t9), (2, .int v2_29), (3, .int v3_3)] []
          refine k_iinc G (dc d_Mo_hindrance 55 rfl) (ls' := [(3, .int (v3_3 + 1)), (0, .ref (B.1 + u)), (1, .int t9), (2, .int v2_29)]) 3 rfl cI_1 rfl rfl ?_
          refine k_goto G (dc d_Mo_hindrance 56 rfl) (tgt := 6) rfl ?_
          refine k_sub [1, 2, 3, 0] rfl ?_
          have h9 := kOk_s h
          exact h9
        · refine k_sub [2, 1, 3, 4, 5, 0] rfl ?_
          refine kLp_ok (P := fun s31 => KK X B L 6 0 0 M 41 [(0, .ref (B.1 + u)), (1, .int t9), (2, .int s31.1), (3, .int v3_3), (4, .int x8), (5, .int s31.2)] []) (fun s31 h => ?_) kFU _ h
          obtain ⟨v2_11, v5_12⟩ := s31
          unfold m_Mo_hindrance_l41 at h
          show KK X B L 6 0 0 M 41 [(0, .ref (B.1 + u)), (1, .int t9), (2, .int v2_11), (3, .int v3_3), (4, .int x8), (5, .int v5_12)] []
          refine k_iload G (dc d_Mo_hindrance 26 rfl) 5 rfl ?_
          refine k_iload_n G (dc d_Mo_hindrance 27 rfl) 3 rfl rfl ?_
          refine k_icmp_ge G (dc d_Mo_hindrance 28 rfl) (tgt := 98) rfl (fun c13 => ?_) (fun c13 => ?_)
          · replace h := kOk_p c13 h
            refine k_sub [0, 1, 2, 3] rfl ?_
            have h9 := kOk_s h
            exact h9
          · replace h := kOk_n c13 h
            refine k_iload_n G (dc d_Mo_hindrance 29 rfl) 2 rfl rfl ?_
            refine kJ h (fun r15 => KK X B L 6 0 0 M 91 [(0, .ref (B.1 + u)), (1, .int t9), (3, .int v3_3), (4, .int x8), (5, .int v5_12)] [.int r15]) (fun r15 h => ?_) (fun h => ?_)
            · obtain ⟨t14, rfl⟩ : ∃ z, z = r15 := ⟨_, rfl⟩
              show KK X B L 6 0 0 M 91 [(0, .ref (B.1 + u)), (1, .int t9), (3, .int v3_3), (4, .int x8), (5, .int v5_12)] [.int t14]
              refine k_istore_n G (dc d_Mo_hindrance 52 rfl) (ls' := [(2, .int t14), (0, .ref (B.1 + u)), (1, .int t9), (3, .int v3_3), (4, .int x8), (5, .int v5_12)]) rfl rfl rfl ?_
              refine k_iinc G (dc d_Mo_hindrance 53 rfl) (ls' := [(5, .int (v5_12 + 1)), (2, .int t14), (0, .ref (B.1 + u)), (1, .int t9), (3, .int v3_3), (4, .int x8)]) 5 rfl cI_1 rfl rfl ?_
              refine k_goto G (dc d_Mo_hindrance 54 rfl) (tgt := 41) rfl ?_
              refine k_sub [2, 3, 1, 4, 5, 0] rfl ?_
              have h9 := kOk_s h
              exact h9
            · refine k_if_ne G (dc d_Mo_hindrance 30 rfl) (tgt := 86) rfl (fun c16 => ?_) (fun c16 => ?_)
              · replace h := kOk_n c16 h
                refine k_iconst G (dc d_Mo_hindrance 49 rfl) cI_1 ?_
                refine k_goto G (dc d_Mo_hindrance 50 rfl) (tgt := 91) rfl ?_
                refine k_sub [0, 1, 3, 4, 5] rfl ?_
                have h9 := kOk_s h
                exact h9
              · replace h := kOk_p c16 h
                refine k_aload_n G (dc d_Mo_hindrance 31 rfl) 0 rfl rfl ?_
                refine k_getR G kc8 (dc d_Mo_hindrance 32 rfl) (okL_lt hu (o := 0) 0 rfl) (okL_k hu (o := 0) 0 rfl) 1 (by decide) rfl fl_RX11_7 (u + 1) (okL_r hu (o := 0) (c := 1) 0 rfl 0 rfl) ?_
                refine k_iload G (dc d_Mo_hindrance 33 rfl) 5 rfl ?_
                refine k_iconst G (dc d_Mo_hindrance 34 rfl) cI_0 ?_
                obtain ⟨x18, e17, h⟩ := kOk_b h
                refine k_cSI G (dc d_Mo_hindrance 35 rfl) mi_Mo_of ms_Mo_of ml_RX11_67 (c_Mo_of (gst G)  e17) rfl rfl ⟨rfl, rfl⟩ rfl ⟨rfl, rfl⟩ ⟨rfl, rfl⟩ ?_
                obtain ⟨x20, e19, h⟩ := kOk_b h
                refine k_ild G (dc d_Mo_hindrance 36 rfl) (okL_lt hu (o := 1) 1 rfl) (okL_k hu (o := 1) 1 rfl) (okL_n hu (o := 1) 1 rfl) e19 ?_
                refine k_aload_n G (dc d_Mo_hindrance 37 rfl) 0 rfl rfl ?_
                refine k_getR G kc8 (dc d_Mo_hindrance 38 rfl) (okL_lt hu (o := 0) 0 rfl) (okL_k hu (o := 0) 0 rfl) 1 (by decide) rfl fl_RX11_7 (u + 1) (okL_r hu (o := 0) (c := 1) 0 rfl 0 rfl) ?_
                refine k_iload_n G (dc d_Mo_hindrance 39 rfl) 3 rfl rfl ?_
                refine k_iconst G (dc d_Mo_hindrance 40 rfl) cI_0 ?_
                obtain ⟨x22, e21, h⟩ := kOk_b h
                refine k_cSI G (dc d_Mo_hindrance 41 rfl) mi_Mo_of ms_Mo_of ml_RX11_67 (c_Mo_of (gst G)  e21) rfl rfl ⟨rfl, rfl⟩ rfl ⟨rfl, rfl⟩ ⟨rfl, rfl⟩ ?_
                obtain ⟨x24, e23, h⟩ := kOk_b h
                refine k_ild G (dc d_Mo_hindrance 42 rfl) (okL_lt hu (o := 1) 1 rfl) (okL_k hu (o := 1) 1 rfl) (okL_n hu (o := 1) 1 rfl) e23 ?_
                refine k_icmp_ne G (dc d_Mo_hindrance 43 rfl) (tgt := 90) rfl (fun c25 => ?_) (fun c25 => ?_)
                · replace h := kOk_n c25 h
                  refine k_iconst G (dc d_Mo_hindrance 51 rfl) cI_0 ?_
                  refine k_sub [0, 1, 3, 4, 5] rfl ?_
                  have h9 := kOk_s h
                  exact h9
                · replace h := kOk_p c25 h
                  refine k_aload_n G (dc d_Mo_hindrance 44 rfl) 0 rfl rfl ?_
                  refine k_iload G (dc d_Mo_hindrance 45 rfl) 5 rfl ?_
                  obtain ⟨x27, e26, h⟩ := kOk_b h
                  refine k_cVI G (dc d_Mo_hindrance 46 rfl) kc8 (okL_lt hu (o := 0) 0 rfl) (okL_k hu (o := 0) 0 rfl) mi_Mo_rightOf mv_Mo_rightOf rfl ml_RX11_73 (c_Mo_rightOf (gst G) hu e26) rfl rfl ⟨rfl, rfl⟩ rfl ⟨rfl, rfl⟩ ⟨rfl, rfl⟩ ?_
                  refine k_iload G (dc d_Mo_hindrance 47 rfl) 4 rfl ?_
                  refine k_icmp_ne G (dc d_Mo_hindrance 48 rfl) (tgt := 90) rfl (fun c28 => ?_) (fun c28 => ?_)
                  · replace h := kOk_n c28 h
                    refine k_iconst G (dc d_Mo_hindrance 51 rfl) cI_0 ?_
                    refine k_sub [0, 1, 3, 4, 5] rfl ?_
                    have h9 := kOk_s h
                    exact h9
                  · replace h := kOk_p c28 h
                    refine k_iconst G (dc d_Mo_hindrance 49 rfl) cI_1 ?_
                    refine k_goto G (dc d_Mo_hindrance 50 rfl) (tgt := 91) rfl ?_
                    refine k_sub [0, 1, 3, 4, 5] rfl ?_
                    have h9 := kOk_s h
                    exact h9
      · refine k_if_ne G (dc d_Mo_hindrance 17 rfl) (tgt := 32) rfl (fun c32 => ?_) (fun c32 => ?_)
        · replace h := kOk_n c32 h
          refine k_iconst G (dc d_Mo_hindrance 20 rfl) cI_1 ?_
          refine k_goto G (dc d_Mo_hindrance 21 rfl) (tgt := 37) rfl ?_
          refine k_sub [1, 3, 4, 0] rfl ?_
          have h9 := kOk_s h
          exact h9
        · replace h := kOk_p c32 h
          refine k_iload G (dc d_Mo_hindrance 18 rfl) 0 rfl ?_
          refine k_if_ne G (dc d_Mo_hindrance 19 rfl) (tgt := 36) rfl (fun c33 => ?_) (fun c33 => ?_)
          · replace h := kOk_n c33 h
            refine k_iconst G (dc d_Mo_hindrance 22 rfl) cI_0 ?_
            refine k_sub [1, 3, 4, 0] rfl ?_
            have h9 := kOk_s h
            exact h9
          · replace h := kOk_p c33 h
            refine k_iconst G (dc d_Mo_hindrance 20 rfl) cI_1 ?_
            refine k_goto G (dc d_Mo_hindrance 21 rfl) (tgt := 37) rfl ?_
            refine k_sub [1, 3, 4, 0] rfl ?_
            have h9 := kOk_s h
            exact h9
theorem c_Mo_hindrance {l : Launch} {B : KB} {L : KLay} {M : KMem} {u : Nat} (hst : l.stackTraces = false) (hu : okL L u moT) {r : Int32} (e : m_Mo_hindrance u M = some r) : CtrN l B yX11_hindrance cX11_hindrance 6 (some .int) rm_Mo_hindrance [.ref (B.1 + u)] L M (some (.int r)) L M :=
  mk_I rfl hst rfl (fun X hl G _ R => b_Mo_hindrance G hu ⟨_, e, R⟩)
def I_Mo_lesser : List (Nat × Instr × Nat) := [(0, .iload_n 0, 1), (1, .iload_n 1, 1), (2, .if_icmp .ge 7, 3), (5, .iload_n 0, 1), (6, .goto 4, 3), (9, .iload_n 1, 1), (10, .ireturn, 1)]
set_option maxRecDepth 100000 in
theorem d_Mo_lesser : decA cX11_lesser I_Mo_lesser = true := by decide +kernel
abbrev rm_Mo_lesser : Room := ({ frames := 0, cells := 0, slots := 0, locals := 0 } : Room)
def m_Mo_lesser (p0 : Int32) (p1 : Int32) : Option Int32 :=
 Option.bind (α := Int32) (if p1 ≤ p0 then
 (some p1)
 else
 (some p0)) fun t1 =>
 some t1
set_option maxHeartbeats 4000000 in
set_option maxRecDepth 100000 in
theorem b_Mo_lesser {X : KX} {B : KB} {L : KLay} {M : KMem} {p0 : Int32} {p1 : Int32} (G : Good X B RX11 cX11_lesser 2 rm_Mo_lesser)  (h : kOk (m_Mo_lesser p0 p1) (fun r => RI X B L 2 cX11_lesser .int rm_Mo_lesser r M)) : KK X B L 2 0 0 M 0 [(0, .int p0), (1, .int p1)] [] := by
  unfold m_Mo_lesser at h
  refine k_iload_n G (dc d_Mo_lesser 0 rfl) 0 rfl rfl ?_
  refine k_iload_n G (dc d_Mo_lesser 1 rfl) 1 rfl rfl ?_
  refine kJ h (fun r2 => KK X B L 2 0 0 M 10 [] [.int r2]) (fun r2 h => ?_) (fun h => ?_)
  · obtain ⟨t1, rfl⟩ : ∃ z, z = r2 := ⟨_, rfl⟩
    show KK X B L 2 0 0 M 10 [] [.int t1]
    exact (kOk_s h) _ _ _ _ rfl rfl rfl (dc d_Mo_lesser 6 rfl)
  · refine k_icmp_ge G (dc d_Mo_lesser 2 rfl) (tgt := 9) rfl (fun c3 => ?_) (fun c3 => ?_)
    · replace h := kOk_p c3 h
      refine k_iload_n G (dc d_Mo_lesser 5 rfl) 1 rfl rfl ?_
      refine k_sub [] rfl ?_
      have h9 := kOk_s h
      exact h9
    · replace h := kOk_n c3 h
      refine k_iload_n G (dc d_Mo_lesser 3 rfl) 0 rfl rfl ?_
      refine k_goto G (dc d_Mo_lesser 4 rfl) (tgt := 10) rfl ?_
      refine k_sub [] rfl ?_
      have h9 := kOk_s h
      exact h9
theorem c_Mo_lesser {l : Launch} {B : KB} {L : KLay} {M : KMem} {p0 : Int32} {p1 : Int32} (hst : l.stackTraces = false)  {r : Int32} (e : m_Mo_lesser p0 p1 = some r) : CtrN l B yX11_lesser cX11_lesser 2 (some .int) rm_Mo_lesser [.int p0, .int p1] L M (some (.int r)) L M :=
  mk_I rfl hst rfl (fun X hl G _ R => b_Mo_lesser G  ⟨_, e, R⟩)
def I_Mo_apartOf : List (Nat × Instr × Nat) := [(0, .iload_n 1, 1), (1, .invokestatic 53, 3), (4, .istore_n 3, 1), (5, .iload_n 2, 1), (6, .invokestatic 53, 3), (9, .istore 4, 2), (11, .iconst 0, 1), (12, .istore 5, 2), (14, .iload 5, 2), (16, .bipush 81, 2), (18, .if_icmp .ge 124, 3), (21, .iload 5, 2), (23, .bipush 9, 2), (25, .idiv, 1), (26, .istore 6, 2), (28, .iload 5, 2), (30, .bipush 9, 2), (32, .irem, 1), (33, .istore 7, 2), (35, .iload 6, 2), (37, .ifCond .le 31, 3), (40, .iload 7, 2), (42, .ifCond .le 26, 3), (45, .iload_n 1, 1), (46, .iload 6, 2), (48, .iconst 1, 1), (49, .isub, 1), (50, .invokestatic 61, 3), (53, .iload_n 2, 1), (54, .iload 7, 2), (56, .iconst 1, 1), (57, .isub, 1), (58, .invokestatic 61, 3), (61, .if_icmp .ne 7, 3), (64, .iconst 0, 1), (65, .goto 4, 3), (68, .iconst 1, 1), (69, .istore 8, 2), (71, .aload_n 0, 1), (72, .getfield 25, 3), (75, .iload 5, 2), (77, .iload 6, 2), (79, .ifCond .eq 8, 3), (82, .iload 7, 2), (84, .ifCond .ne 11, 3), (87, .iload 6, 2), (89, .iload 7, 2), (91, .iadd, 1), (92, .goto 43, 3), (95, .aload_n 0, 1), (96, .getfield 25, 3), (99, .iload 5, 2), (101, .bipush 10, 2), (103, .isub, 1), (104, .iaload, 1), (105, .iload 8, 2), (107, .iadd, 1), (108, .iconst 1, 1), (109, .aload_n 0, 1), (110, .getfield 25, 3), (113, .iload 5, 2), (115, .bipush 9, 2), (117, .isub, 1), (118, .iaload, 1), (119, .aload_n 0, 1), (120, .getfield 25, 3), (123, .iload 5, 2), (125, .iconst 1, 1), (126, .isub, 1), (127, .iaload, 1), (128, .invokestatic 76, 3), (131, .iadd, 1), (132, .invokestatic 76, 3), (135, .iastore, 1), (136, .iinc 5 1, 3), (139, .goto (-125), 3), (142, .aload_n 0, 1), (143, .getfield 25, 3), (146, .bipush 9, 2), (148, .iload_n 3, 1), (149, .imul, 1), (150, .iload 4, 2), (152, .iadd, 1), (153, .iaload, 1), (154, .ireturn, 1)]
set_option maxRecDepth 100000 in
theorem d_Mo_apartOf : decA cX11_apartOf I_Mo_apartOf = true := by decide +kernel
abbrev rm_Mo_apartOf : Room := ({ frames := 2, cells := 0, slots := 0, locals := 45 } : Room)
def m_Mo_apartOf_l14 (u : Nat) (p0 : Int32) (p1 : Int32) : (Int32 × KMem) → Option ((Int32 × KMem) ⊕ KMem) := fun (v5_5, M6) =>
 if 81 ≤ v5_5 then
 (some (.inr M6))
 else
 (Option.bind (α := Int32) (if (v5_5 / 9) ≤ 0 then
 (some 1)
 else
 (if (jrem v5_5 9) ≤ 0 then
 (some 1)
 else
 (Option.bind (m_Mo_letterAt p0 ((v5_5 / 9) - 1)) fun x29 =>
 Option.bind (m_Mo_letterAt p1 ((jrem v5_5 9) - 1)) fun x31 =>
 if x29 = x31 then
 (some 0)
 else
 (some 1)))) fun t8 =>
 Option.bind (α := Int32) (if (v5_5 / 9) = 0 then
 (some ((v5_5 / 9) + (jrem v5_5 9)))
 else
 (if (jrem v5_5 9) = 0 then
 (some ((v5_5 / 9) + (jrem v5_5 9)))
 else
 (Option.bind (rdI M6 (u + 6) 81 (v5_5 - 10)) fun x17 =>
 Option.bind (rdI M6 (u + 6) 81 (v5_5 - 9)) fun x19 =>
 Option.bind (rdI M6 (u + 6) 81 (v5_5 - 1)) fun x21 =>
 Option.bind (m_Mo_lesser x19 x21) fun x23 =>
 Option.bind (m_Mo_lesser (x17 + t8) (1 + x23)) fun x25 =>
 some x25))) fun t10 =>
 Option.bind (wrI M6 (u + 6) 81 v5_5 t10) fun M13 =>
 some (.inl (v5_5 + 1, M13)))
def m_Mo_apartOf (u : Nat) (p0 : Int32) (p1 : Int32) (M : KMem) : Option (Int32 × KMem) :=
 Option.bind (m_Mo_lettersOf p0) fun x2 =>
 Option.bind (m_Mo_lettersOf p1) fun x4 =>
 Option.bind (α := KMem) (kLp (m_Mo_apartOf_l14 u p0 p1) kFU (0, M)) fun M33 =>
 Option.bind (rdI M33 (u + 6) 81 ((9 * x2) + x4)) fun x35 =>
 some (x35, M33)
set_option maxHeartbeats 4000000 in
set_option maxRecDepth 100000 in
theorem b_Mo_apartOf {X : KX} {B : KB} {L : KLay} {M : KMem} {u : Nat} {p0 : Int32} {p1 : Int32} (G : Good X B RX11 cX11_apartOf 9 rm_Mo_apartOf) (hu : okL L u moT) (h : kOk (m_Mo_apartOf u p0 p1 M) (fun r => RI X B L 9 cX11_apartOf .int rm_Mo_apartOf r.1 r.2)) : KK X B L 9 0 0 M 0 [(0, .ref (B.1 + u)), (1, .int p0), (2, .int p1)] [] := by
  unfold m_Mo_apartOf at h
  refine k_iload_n G (dc d_Mo_apartOf 0 rfl) 1 rfl rfl ?_
  obtain ⟨x2, e1, h⟩ := kOk_b h
  refine k_cSI G (dc d_Mo_apartOf 1 rfl) mi_Mo_lettersOf ms_Mo_lettersOf ml_RX11_53 (c_Mo_lettersOf (gst G)  e1) rfl rfl ⟨rfl, rfl⟩ rfl ⟨rfl, rfl⟩ ⟨rfl, rfl⟩ ?_
  refine k_istore_n G (dc d_Mo_apartOf 2 rfl) (ls' := [(3, .int x2), (0, .ref (B.1 + u)), (1, .int p0), (2, .int p1)]) rfl rfl rfl ?_
  refine k_iload_n G (dc d_Mo_apartOf 3 rfl) 3 rfl rfl ?_
  obtain ⟨x4, e3, h⟩ := kOk_b h
  refine k_cSI G (dc d_Mo_apartOf 4 rfl) mi_Mo_lettersOf ms_Mo_lettersOf ml_RX11_53 (c_Mo_lettersOf (gst G)  e3) rfl rfl ⟨rfl, rfl⟩ rfl ⟨rfl, rfl⟩ ⟨rfl, rfl⟩ ?_
  refine k_istore G (dc d_Mo_apartOf 5 rfl) (ls' := [(4, .int x4), (3, .int x2), (0, .ref (B.1 + u)), (1, .int p0), (2, .int p1)]) rfl rfl ?_
  refine k_iconst G (dc d_Mo_apartOf 6 rfl) cI_0 ?_
  refine k_istore G (dc d_Mo_apartOf 7 rfl) (ls' := [(5, .int 0), (4, .int x4), (3, .int x2), (0, .ref (B.1 + u)), (1, .int p0), (2, .int p1)]) rfl rfl ?_
  refine kJ h (fun r36 => KK X B L 9 0 0 r36 142 [(0, .ref (B.1 + u)), (3, .int x2), (4, .int x4)] []) (fun r36 h => ?_) (fun h => ?_)
  · obtain ⟨M33, rfl⟩ : ∃ z, z = r36 := ⟨_, rfl⟩
    show KK X B L 9 0 0 M33 142 [(0, .ref (B.1 + u)), (3, .int x2), (4, .int x4)] []
    refine k_aload_n G (dc d_Mo_apartOf 76 rfl) 0 rfl rfl ?_
    refine k_getR G kc8 (dc d_Mo_apartOf 77 rfl) (okL_lt hu (o := 0) 0 rfl) (okL_k hu (o := 0) 0 rfl) 9 (by decide) rfl fl_RX11_25 (u + 6) (okL_r hu (o := 0) (c := 6) 0 rfl 5 rfl) ?_
    refine k_bipush G (dc d_Mo_apartOf 78 rfl) cB_9 ?_
    refine k_iload_n G (dc d_Mo_apartOf 79 rfl) 1 rfl rfl ?_
    refine k_imul G (dc d_Mo_apartOf 80 rfl) ?_
    refine k_iload G (dc d_Mo_apartOf 81 rfl) 2 rfl ?_
    refine k_iadd G (dc d_Mo_apartOf 82 rfl) ?_
    obtain ⟨x35, e34, h⟩ := kOk_b h
    refine k_ild G (dc d_Mo_apartOf 83 rfl) (okL_lt hu (o := 6) 6 rfl) (okL_k hu (o := 6) 6 rfl) (okL_n hu (o := 6) 6 rfl) e34 ?_
    exact (kOk_s h) _ _ _ _ rfl rfl rfl (dc d_Mo_apartOf 84 rfl)
  · refine k_sub [3, 4, 5, 2, 1, 0] rfl ?_
    refine kLp_ok (P := fun s37 => KK X B L 9 0 0 s37.2 14 [(0, .ref (B.1 + u)), (1, .int p0), (2, .int p1), (3, .int x2), (4, .int x4), (5, .int s37.1)] []) (fun s37 h => ?_) kFU _ h
    obtain ⟨v5_5, M6⟩ := s37
    unfold m_Mo_apartOf_l14 at h
    show KK X B L 9 0 0 M6 14 [(0, .ref (B.1 + u)), (1, .int p0), (2, .int p1), (3, .int x2), (4, .int x4), (5, .int v5_5)] []
    refine k_iload G (dc d_Mo_apartOf 8 rfl) 5 rfl ?_
    refine k_bipush G (dc d_Mo_apartOf 9 rfl) cB_81 ?_
    refine k_icmp_ge G (dc d_Mo_apartOf 10 rfl) (tgt := 142) rfl (fun c7 => ?_) (fun c7 => ?_)
    · replace h := kOk_p c7 h
      refine k_sub [0, 3, 4] rfl ?_
      have h9 := kOk_s h
      exact h9
    · replace h := kOk_n c7 h
      refine k_iload G (dc d_Mo_apartOf 11 rfl) 5 rfl ?_
      refine k_bipush G (dc d_Mo_apartOf 12 rfl) cB_9 ?_
      refine k_idiv G (dc d_Mo_apartOf 13 rfl) czI_9 ?_
      refine k_istore G (dc d_Mo_apartOf 14 rfl) (ls' := [(6, .int (v5_5 / 9)), (0, .ref (B.1 + u)), (1, .int p0), (2, .int p1), (3, .int x2), (4, .int x4), (5, .int v5_5)]) rfl rfl ?_
      refine k_iload G (dc d_Mo_apartOf 15 rfl) 6 rfl ?_
      refine k_bipush G (dc d_Mo_apartOf 16 rfl) cB_9 ?_
      refine k_irem G (dc d_Mo_apartOf 17 rfl) czI_9 ?_
      refine k_istore G (dc d_Mo_apartOf 18 rfl) (ls' := [(7, .int (jrem v5_5 9)), (6, .int (v5_5 / 9)), (0, .ref (B.1 + u)), (1, .int p0), (2, .int p1), (3, .int x2), (4, .int x4), (5, .int v5_5)]) rfl rfl ?_
      refine k_iload G (dc d_Mo_apartOf 19 rfl) 1 rfl ?_
      refine kJ h (fun r9 => KK X B L 9 0 0 M6 69 [(0, .ref (B.1 + u)), (1, .int p0), (2, .int p1), (3, .int x2), (4, .int x4), (5, .int v5_5), (6, .int (v5_5 / 9)), (7, .int (jrem v5_5 9))] [.int r9]) (fun r9 h => ?_) (fun h => ?_)
      · obtain ⟨t8, rfl⟩ : ∃ z, z = r9 := ⟨_, rfl⟩
        show KK X B L 9 0 0 M6 69 [(0, .ref (B.1 + u)), (1, .int p0), (2, .int p1), (3, .int x2), (4, .int x4), (5, .int v5_5), (6, .int (v5_5 / 9)), (7, .int (jrem v5_5 9))] [.int t8]
        refine k_istore G (dc d_Mo_apartOf 37 rfl) (ls' := [(8, .int t8), (0, .ref (B.1 + u)), (1, .int p0), (2, .int p1), (3, .int x2), (4, .int x4), (5, .int v5_5), (6, .int (v5_5 / 9)), (7, .int (jrem v5_5 9))]) rfl rfl ?_
        refine k_aload_n G (dc d_Mo_apartOf 38 rfl) 1 rfl rfl ?_
        refine k_getR G kc8 (dc d_Mo_apartOf 39 rfl) (okL_lt hu (o := 0) 0 rfl) (okL_k hu (o := 0) 0 rfl) 9 (by decide) rfl fl_RX11_25 (u + 6) (okL_r hu (o := 0) (c := 6) 0 rfl 5 rfl) ?_
        refine k_iload G (dc d_Mo_apartOf 40 rfl) 6 rfl ?_
        refine k_iload G (dc d_Mo_apartOf 41 rfl) 7 rfl ?_
        refine kJ h (fun r11 => KK X B L 9 0 0 M6 135 [(0, .ref (B.1 + u)), (1, .int p0), (2, .int p1), (3, .int x2), (4, .int x4), (5, .int v5_5)] [.int r11, .int v5_5, .ref (B.1 + (u + 6))]) (fun r11 h => ?_) (fun h => ?_)
        · obtain ⟨t10, rfl⟩ : ∃ z, z = r11 := ⟨_, rfl⟩
          show KK X B L 9 0 0 M6 135 [(0, .ref (B.1 + u)), (1, .int p0), (2, .int p1), (3, .int x2), (4, .int x4), (5, .int v5_5)] [.int t10, .int v5_5, .ref (B.1 + (u + 6))]
          obtain ⟨M13, e12, h⟩ := kOk_b h
          refine k_ist G (dc d_Mo_apartOf 73 rfl) (okL_lt hu (o := 6) 6 rfl) (okL_k hu (o := 6) 6 rfl) (okL_n hu (o := 6) 6 rfl) e12 ?_
          refine k_iinc G (dc d_Mo_apartOf 74 rfl) (ls' := [(5, .int (v5_5 + 1)), (0, .ref (B.1 + u)), (1, .int p0), (2, .int p1), (3, .int x2), (4, .int x4)]) 5 rfl cI_1 rfl rfl ?_
          refine k_goto G (dc d_Mo_apartOf 75 rfl) (tgt := 14) rfl ?_
          refine k_sub [1, 2, 3, 4, 5, 0] rfl ?_
          have h9 := kOk_s h
          exact h9
        · refine k_if_eq G (dc d_Mo_apartOf 42 rfl) (tgt := 87) rfl (fun c14 => ?_) (fun c14 => ?_)
          · replace h := kOk_p c14 h
            refine k_iload G (dc d_Mo_apartOf 45 rfl) 7 rfl ?_
            refine k_iload G (dc d_Mo_apartOf 46 rfl) 8 rfl ?_
            refine k_iadd G (dc d_Mo_apartOf 47 rfl) ?_
            refine k_goto G (dc d_Mo_apartOf 48 rfl) (tgt := 135) rfl ?_
            refine k_sub [1, 2, 3, 4, 5, 6] rfl ?_
            have h9 := kOk_s h
            exact h9
          · replace h := kOk_n c14 h
            refine k_iload G (dc d_Mo_apartOf 43 rfl) 8 rfl ?_
            refine k_if_ne G (dc d_Mo_apartOf 44 rfl) (tgt := 95) rfl (fun c15 => ?_) (fun c15 => ?_)
            · replace h := kOk_n c15 h
              refine k_aload_n G (dc d_Mo_apartOf 49 rfl) 1 rfl rfl ?_
              refine k_getR G kc8 (dc d_Mo_apartOf 50 rfl) (okL_lt hu (o := 0) 0 rfl) (okL_k hu (o := 0) 0 rfl) 9 (by decide) rfl fl_RX11_25 (u + 6) (okL_r hu (o := 0) (c := 6) 0 rfl 5 rfl) ?_
              refine k_iload G (dc d_Mo_apartOf 51 rfl) 6 rfl ?_
              refine k_bipush G (dc d_Mo_apartOf 52 rfl) cB_10 ?_
              refine k_isub G (dc d_Mo_apartOf 53 rfl) ?_
              obtain ⟨x17, e16, h⟩ := kOk_b h
              refine k_ild G (dc d_Mo_apartOf 54 rfl) (okL_lt hu (o := 6) 6 rfl) (okL_k hu (o := 6) 6 rfl) (okL_n hu (o := 6) 6 rfl) e16 ?_
              refine k_iload G (dc d_Mo_apartOf 55 rfl) 0 rfl ?_
              refine k_iadd G (dc d_Mo_apartOf 56 rfl) ?_
              refine k_iconst G (dc d_Mo_apartOf 57 rfl) cI_1 ?_
              refine k_aload_n G (dc d_Mo_apartOf 58 rfl) 1 rfl rfl ?_
              refine k_getR G kc8 (dc d_Mo_apartOf 59 rfl) (okL_lt hu (o := 0) 0 rfl) (okL_k hu (o := 0) 0 rfl) 9 (by decide) rfl fl_RX11_25 (u + 6) (okL_r hu (o := 0) (c := 6) 0 rfl 5 rfl) ?_
              refine k_iload G (dc d_Mo_apartOf 60 rfl) 6 rfl ?_
              refine k_bipush G (dc d_Mo_apartOf 61 rfl) cB_9 ?_
              refine k_isub G (dc d_Mo_apartOf 62 rfl) ?_
              obtain ⟨x19, e18, h⟩ := kOk_b h
              refine k_ild G (dc d_Mo_apartOf 63 rfl) (okL_lt hu (o := 6) 6 rfl) (okL_k hu (o := 6) 6 rfl) (okL_n hu (o := 6) 6 rfl) e18 ?_
              refine k_aload_n G (dc d_Mo_apartOf 64 rfl) 1 rfl rfl ?_
              refine k_getR G kc8 (dc d_Mo_apartOf 65 rfl) (okL_lt hu (o := 0) 0 rfl) (okL_k hu (o := 0) 0 rfl) 9 (by decide) rfl fl_RX11_25 (u + 6) (okL_r hu (o := 0) (c := 6) 0 rfl 5 rfl) ?_
              refine k_iload G (dc d_Mo_apartOf 66 rfl) 6 rfl ?_
              refine k_iconst G (dc d_Mo_apartOf 67 rfl) cI_1 ?_
              refine k_isub G (dc d_Mo_apartOf 68 rfl) ?_
              obtain ⟨x21, e20, h⟩ := kOk_b h
              refine k_ild G (dc d_Mo_apartOf 69 rfl) (okL_lt hu (o := 6) 6 rfl) (okL_k hu (o := 6) 6 rfl) (okL_n hu (o := 6) 6 rfl) e20 ?_
              obtain ⟨x23, e22, h⟩ := kOk_b h
              refine k_cSI G (dc d_Mo_apartOf 70 rfl) mi_Mo_lesser ms_Mo_lesser ml_RX11_76 (c_Mo_lesser (gst G)  e22) rfl rfl ⟨rfl, rfl⟩ rfl ⟨rfl, rfl⟩ ⟨rfl, rfl⟩ ?_
              refine k_iadd G (dc d_Mo_apartOf 71 rfl) ?_
              obtain ⟨x25, e24, h⟩ := kOk_b h
              refine k_cSI G (dc d_Mo_apartOf 72 rfl) mi_Mo_lesser ms_Mo_lesser ml_RX11_76 (c_Mo_lesser (gst G)  e24) rfl rfl ⟨rfl, rfl⟩ rfl ⟨rfl, rfl⟩ ⟨rfl, rfl⟩ ?_
              refine k_sub [1, 2, 3, 4, 5, 6] rfl ?_
              have h9 := kOk_s h
              exact h9
            · replace h := kOk_p c15 h
              refine k_iload G (dc d_Mo_apartOf 45 rfl) 7 rfl ?_
              refine k_iload G (dc d_Mo_apartOf 46 rfl) 8 rfl ?_
              refine k_iadd G (dc d_Mo_apartOf 47 rfl) ?_
              refine k_goto G (dc d_Mo_apartOf 48 rfl) (tgt := 135) rfl ?_
              refine k_sub [1, 2, 3, 4, 5, 6] rfl ?_
              have h9 := kOk_s h
              exact h9
      · refine k_if_le G (dc d_Mo_apartOf 20 rfl) (tgt := 68) rfl (fun c26 => ?_) (fun c26 => ?_)
        · replace h := kOk_p c26 h
          refine k_iconst G (dc d_Mo_apartOf 36 rfl) cI_1 ?_
          refine k_sub [2, 3, 4, 5, 6, 7, 1, 0] rfl ?_
          have h9 := kOk_s h
          exact h9
        · replace h := kOk_n c26 h
          refine k_iload G (dc d_Mo_apartOf 21 rfl) 0 rfl ?_
          refine k_if_le G (dc d_Mo_apartOf 22 rfl) (tgt := 68) rfl (fun c27 => ?_) (fun c27 => ?_)
          · replace h := kOk_p c27 h
            refine k_iconst G (dc d_Mo_apartOf 36 rfl) cI_1 ?_
            refine k_sub [2, 3, 4, 5, 6, 7, 1, 0] rfl ?_
            have h9 := kOk_s h
            exact h9
          · replace h := kOk_n c27 h
            refine k_iload_n G (dc d_Mo_apartOf 23 rfl) 3 rfl rfl ?_
            refine k_iload G (dc d_Mo_apartOf 24 rfl) 1 rfl ?_
            refine k_iconst G (dc d_Mo_apartOf 25 rfl) cI_1 ?_
            refine k_isub G (dc d_Mo_apartOf 26 rfl) ?_
            obtain ⟨x29, e28, h⟩ := kOk_b h
            refine k_cSI G (dc d_Mo_apartOf 27 rfl) mi_Mo_letterAt ms_Mo_letterAt ml_RX11_61 (c_Mo_letterAt (gst G)  e28) rfl rfl ⟨rfl, rfl⟩ rfl ⟨rfl, rfl⟩ ⟨rfl, rfl⟩ ?_
            refine k_iload_n G (dc d_Mo_apartOf 28 rfl) 4 rfl rfl ?_
            refine k_iload G (dc d_Mo_apartOf 29 rfl) 0 rfl ?_
            refine k_iconst G (dc d_Mo_apartOf 30 rfl) cI_1 ?_
            refine k_isub G (dc d_Mo_apartOf 31 rfl) ?_
            obtain ⟨x31, e30, h⟩ := kOk_b h
            refine k_cSI G (dc d_Mo_apartOf 32 rfl) mi_Mo_letterAt ms_Mo_letterAt ml_RX11_61 (c_Mo_letterAt (gst G)  e30) rfl rfl ⟨rfl, rfl⟩ rfl ⟨rfl, rfl⟩ ⟨rfl, rfl⟩ ?_
            refine k_icmp_ne G (dc d_Mo_apartOf 33 rfl) (tgt := 68) rfl (fun c32 => ?_) (fun c32 => ?_)
            · replace h := kOk_n c32 h
              refine k_iconst G (dc d_Mo_apartOf 36 rfl) cI_1 ?_
              refine k_sub [2, 3, 4, 5, 6, 7, 1, 0] rfl ?_
              have h9 := kOk_s h
              exact h9
            · replace h := kOk_p c32 h
              refine k_iconst G (dc d_Mo_apartOf 34 rfl) cI_0 ?_
              refine k_goto G (dc d_Mo_apartOf 35 rfl) (tgt := 69) rfl ?_
              refine k_sub [2, 3, 4, 5, 6, 7, 1, 0] rfl ?_
              have h9 := kOk_s h
              exact h9
theorem c_Mo_apartOf {l : Launch} {B : KB} {L : KLay} {M : KMem} {u : Nat} {p0 : Int32} {p1 : Int32} (hst : l.stackTraces = false) (hu : okL L u moT) {r : Int32} {M' : KMem} (e : m_Mo_apartOf u p0 p1 M = some (r, M')) : CtrN l B yX11_apartOf cX11_apartOf 9 (some .int) rm_Mo_apartOf [.ref (B.1 + u), .int p0, .int p1] L M (some (.int r)) L M' :=
  mk_I rfl hst rfl (fun X hl G _ R => b_Mo_apartOf G hu ⟨_, e, R⟩)
def I_Mo_apartBy : List (Nat × Instr × Nat) := [(0, .aload_n 0, 1), (1, .aload_n 0, 1), (2, .getfield 7, 3), (5, .iload_n 1, 1), (6, .iconst 2, 1), (7, .invokestatic 67, 3), (10, .iaload, 1), (11, .aload_n 0, 1), (12, .iload_n 1, 1), (13, .invokevirtual 73, 3), (16, .invokevirtual 79, 3), (19, .ireturn, 1)]
set_option maxRecDepth 100000 in
theorem d_Mo_apartBy : decA cX11_apartBy I_Mo_apartBy = true := by decide +kernel
abbrev rm_Mo_apartBy : Room := ({ frames := 5, cells := 0, slots := 0, locals := 122 } : Room)
def m_Mo_apartBy (u : Nat) (p0 : Int32) (M : KMem) : Option (Int32 × KMem) :=
 Option.bind (m_Mo_of p0 2) fun x2 =>
 Option.bind (rdI M (u + 1) 108 x2) fun x4 =>
 Option.bind (m_Mo_rightOf u p0 M) fun x6 =>
 Option.bind (m_Mo_apartOf u x4 x6 M) fun (x8, M9) =>
 some (x8, M9)
set_option maxHeartbeats 4000000 in
set_option maxRecDepth 100000 in
theorem b_Mo_apartBy {X : KX} {B : KB} {L : KLay} {M : KMem} {u : Nat} {p0 : Int32} (G : Good X B RX11 cX11_apartBy 2 rm_Mo_apartBy) (hu : okL L u moT) (h : kOk (m_Mo_apartBy u p0 M) (fun r => RI X B L 2 cX11_apartBy .int rm_Mo_apartBy r.1 r.2)) : KK X B L 2 0 0 M 0 [(0, .ref (B.1 + u)), (1, .int p0)] [] := by
  unfold m_Mo_apartBy at h
  refine k_aload_n G (dc d_Mo_apartBy 0 rfl) 0 rfl rfl ?_
  refine k_aload_n G (dc d_Mo_apartBy 1 rfl) 0 rfl rfl ?_
  refine k_getR G kc8 (dc d_Mo_apartBy 2 rfl) (okL_lt hu (o := 0) 0 rfl) (okL_k hu (o := 0) 0 rfl) 1 (by decide) rfl fl_RX11_7 (u + 1) (okL_r hu (o := 0) (c := 1) 0 rfl 0 rfl) ?_
  refine k_iload_n G (dc d_Mo_apartBy 3 rfl) 1 rfl rfl ?_
  refine k_iconst G (dc d_Mo_apartBy 4 rfl) cI_2 ?_
  obtain ⟨x2, e1, h⟩ := kOk_b h
  refine k_cSI G (dc d_Mo_apartBy 5 rfl) mi_Mo_of ms_Mo_of ml_RX11_67 (c_Mo_of (gst G)  e1) rfl rfl ⟨rfl, rfl⟩ rfl ⟨rfl, rfl⟩ ⟨rfl, rfl⟩ ?_
  obtain ⟨x4, e3, h⟩ := kOk_b h
  refine k_ild G (dc d_Mo_apartBy 6 rfl) (okL_lt hu (o := 1) 1 rfl) (okL_k hu (o := 1) 1 rfl) (okL_n hu (o := 1) 1 rfl) e3 ?_
  refine k_aload_n G (dc d_Mo_apartBy 7 rfl) 0 rfl rfl ?_
  refine k_iload_n G (dc d_Mo_apartBy 8 rfl) 1 rfl rfl ?_
  obtain ⟨x6, e5, h⟩ := kOk_b h
  refine k_cVI G (dc d_Mo_apartBy 9 rfl) kc8 (okL_lt hu (o := 0) 0 rfl) (okL_k hu (o := 0) 0 rfl) mi_Mo_rightOf mv_Mo_rightOf rfl ml_RX11_73 (c_Mo_rightOf (gst G) hu e5) rfl rfl ⟨rfl, rfl⟩ rfl ⟨rfl, rfl⟩ ⟨rfl, rfl⟩ ?_
  obtain ⟨⟨x8, M9⟩, e7, h⟩ := kOk_b h
  refine k_cVI G (dc d_Mo_apartBy 10 rfl) kc8 (okL_lt hu (o := 0) 0 rfl) (okL_k hu (o := 0) 0 rfl) mi_Mo_apartOf mv_Mo_apartOf rfl ml_RX11_79 (c_Mo_apartOf (gst G) hu e7) rfl rfl ⟨rfl, rfl⟩ rfl ⟨rfl, rfl⟩ ⟨rfl, rfl⟩ ?_
  exact (kOk_s h) _ _ _ _ rfl rfl rfl (dc d_Mo_apartBy 11 rfl)
theorem c_Mo_apartBy {l : Launch} {B : KB} {L : KLay} {M : KMem} {u : Nat} {p0 : Int32} (hst : l.stackTraces = false) (hu : okL L u moT) {r : Int32} {M' : KMem} (e : m_Mo_apartBy u p0 M = some (r, M')) : CtrN l B yX11_apartBy cX11_apartBy 2 (some .int) rm_Mo_apartBy [.ref (B.1 + u), .int p0] L M (some (.int r)) L M' :=
  mk_I rfl hst rfl (fun X hl G _ R => b_Mo_apartBy G hu ⟨_, e, R⟩)
def I_Mo_isWrong : List (Nat × Instr × Nat) := [(0, .aload_n 0, 1), (1, .getfield 7, 3), (4, .iload_n 1, 1), (5, .iconst 2, 1), (6, .invokestatic 67, 3), (9, .iaload, 1), (10, .aload_n 0, 1), (11, .iload_n 1, 1), (12, .invokevirtual 73, 3), (15, .if_icmp .eq 7, 3), (18, .iconst 1, 1), (19, .goto 4, 3), (22, .iconst 0, 1), (23, .ireturn, 1)]
set_option maxRecDepth 100000 in
theorem d_Mo_isWrong : decA cX11_isWrong I_Mo_isWrong = true := by decide +kernel
abbrev rm_Mo_isWrong : Room := ({ frames := 5, cells := 0, slots := 0, locals := 122 } : Room)
def m_Mo_isWrong (u : Nat) (p0 : Int32) (M : KMem) : Option Int32 :=
 Option.bind (m_Mo_of p0 2) fun x2 =>
 Option.bind (rdI M (u + 1) 108 x2) fun x4 =>
 Option.bind (m_Mo_rightOf u p0 M) fun x6 =>
 Option.bind (α := Int32) (if x4 = x6 then
 (some 0)
 else
 (some 1)) fun t7 =>
 Option.bind (kz t7) fun z9 =>
 some z9
set_option maxHeartbeats 4000000 in
set_option maxRecDepth 100000 in
theorem b_Mo_isWrong {X : KX} {B : KB} {L : KLay} {M : KMem} {u : Nat} {p0 : Int32} (G : Good X B RX11 cX11_isWrong 2 rm_Mo_isWrong) (hu : okL L u moT) (h : kOk (m_Mo_isWrong u p0 M) (fun r => RI X B L 2 cX11_isWrong .boolean rm_Mo_isWrong r M)) : KK X B L 2 0 0 M 0 [(0, .ref (B.1 + u)), (1, .int p0)] [] := by
  unfold m_Mo_isWrong at h
  refine k_aload_n G (dc d_Mo_isWrong 0 rfl) 0 rfl rfl ?_
  refine k_getR G kc8 (dc d_Mo_isWrong 1 rfl) (okL_lt hu (o := 0) 0 rfl) (okL_k hu (o := 0) 0 rfl) 1 (by decide) rfl fl_RX11_7 (u + 1) (okL_r hu (o := 0) (c := 1) 0 rfl 0 rfl) ?_
  refine k_iload_n G (dc d_Mo_isWrong 2 rfl) 1 rfl rfl ?_
  refine k_iconst G (dc d_Mo_isWrong 3 rfl) cI_2 ?_
  obtain ⟨x2, e1, h⟩ := kOk_b h
  refine k_cSI G (dc d_Mo_isWrong 4 rfl) mi_Mo_of ms_Mo_of ml_RX11_67 (c_Mo_of (gst G)  e1) rfl rfl ⟨rfl, rfl⟩ rfl ⟨rfl, rfl⟩ ⟨rfl, rfl⟩ ?_
  obtain ⟨x4, e3, h⟩ := kOk_b h
  refine k_ild G (dc d_Mo_isWrong 5 rfl) (okL_lt hu (o := 1) 1 rfl) (okL_k hu (o := 1) 1 rfl) (okL_n hu (o := 1) 1 rfl) e3 ?_
  refine k_aload_n G (dc d_Mo_isWrong 6 rfl) 0 rfl rfl ?_
  refine k_iload_n G (dc d_Mo_isWrong 7 rfl) 1 rfl rfl ?_
  obtain ⟨x6, e5, h⟩ := kOk_b h
  refine k_cVI G (dc d_Mo_isWrong 8 rfl) kc8 (okL_lt hu (o := 0) 0 rfl) (okL_k hu (o := 0) 0 rfl) mi_Mo_rightOf mv_Mo_rightOf rfl ml_RX11_73 (c_Mo_rightOf (gst G) hu e5) rfl rfl ⟨rfl, rfl⟩ rfl ⟨rfl, rfl⟩ ⟨rfl, rfl⟩ ?_
  refine kJ h (fun r8 => KK X B L 2 0 0 M 23 [] [.int r8]) (fun r8 h => ?_) (fun h => ?_)
  · obtain ⟨t7, rfl⟩ : ∃ z, z = r8 := ⟨_, rfl⟩
    show KK X B L 2 0 0 M 23 [] [.int t7]
    obtain ⟨z9, e10, h⟩ := kOk_b h
    obtain ⟨e10, nz9, -⟩ := kz_ok e10
    rw [e10]
    exact (kOk_s h) _ _ _ _ rfl rfl nz9 (dc d_Mo_isWrong 13 rfl)
  · refine k_icmp_eq G (dc d_Mo_isWrong 9 rfl) (tgt := 22) rfl (fun c11 => ?_) (fun c11 => ?_)
    · replace h := kOk_p c11 h
      refine k_iconst G (dc d_Mo_isWrong 12 rfl) cI_0 ?_
      refine k_sub [] rfl ?_
      have h9 := kOk_s h
      exact h9
    · replace h := kOk_n c11 h
      refine k_iconst G (dc d_Mo_isWrong 10 rfl) cI_1 ?_
      refine k_goto G (dc d_Mo_isWrong 11 rfl) (tgt := 23) rfl ?_
      refine k_sub [] rfl ?_
      have h9 := kOk_s h
      exact h9
theorem c_Mo_isWrong {l : Launch} {B : KB} {L : KLay} {M : KMem} {u : Nat} {p0 : Int32} (hst : l.stackTraces = false) (hu : okL L u moT) {r : Int32} (e : m_Mo_isWrong u p0 M = some r) : CtrN l B yX11_isWrong cX11_isWrong 2 (some .boolean) rm_Mo_isWrong [.ref (B.1 + u), .int p0] L M (some (.int r)) L M :=
  mk_I rfl hst rfl (fun X hl G _ R => b_Mo_isWrong G hu ⟨_, e, R⟩)
def I_Mo_costOf : List (Nat × Instr × Nat) := [(0, .aload_n 0, 1), (1, .getfield 7, 3), (4, .bipush 106, 2), (6, .iaload, 1), (7, .aload_n 0, 1), (8, .iload_n 1, 1), (9, .invokevirtual 82, 3), (12, .imul, 1), (13, .ireturn, 1)]
set_option maxRecDepth 100000 in
theorem d_Mo_costOf : decA cX11_costOf I_Mo_costOf = true := by decide +kernel
abbrev rm_Mo_costOf : Room := ({ frames := 6, cells := 0, slots := 0, locals := 143 } : Room)
def m_Mo_costOf (u : Nat) (p0 : Int32) (M : KMem) : Option (Int32 × KMem) :=
 Option.bind (rdI M (u + 1) 108 106) fun x2 =>
 Option.bind (m_Mo_apartBy u p0 M) fun (x4, M5) =>
 some (x2 * x4, M5)
set_option maxHeartbeats 4000000 in
set_option maxRecDepth 100000 in
theorem b_Mo_costOf {X : KX} {B : KB} {L : KLay} {M : KMem} {u : Nat} {p0 : Int32} (G : Good X B RX11 cX11_costOf 2 rm_Mo_costOf) (hu : okL L u moT) (h : kOk (m_Mo_costOf u p0 M) (fun r => RI X B L 2 cX11_costOf .int rm_Mo_costOf r.1 r.2)) : KK X B L 2 0 0 M 0 [(0, .ref (B.1 + u)), (1, .int p0)] [] := by
  unfold m_Mo_costOf at h
  refine k_aload_n G (dc d_Mo_costOf 0 rfl) 0 rfl rfl ?_
  refine k_getR G kc8 (dc d_Mo_costOf 1 rfl) (okL_lt hu (o := 0) 0 rfl) (okL_k hu (o := 0) 0 rfl) 1 (by decide) rfl fl_RX11_7 (u + 1) (okL_r hu (o := 0) (c := 1) 0 rfl 0 rfl) ?_
  refine k_bipush G (dc d_Mo_costOf 2 rfl) cB_106 ?_
  obtain ⟨x2, e1, h⟩ := kOk_b h
  refine k_ild G (dc d_Mo_costOf 3 rfl) (okL_lt hu (o := 1) 1 rfl) (okL_k hu (o := 1) 1 rfl) (okL_n hu (o := 1) 1 rfl) e1 ?_
  refine k_aload_n G (dc d_Mo_costOf 4 rfl) 0 rfl rfl ?_
  refine k_iload_n G (dc d_Mo_costOf 5 rfl) 1 rfl rfl ?_
  obtain ⟨⟨x4, M5⟩, e3, h⟩ := kOk_b h
  refine k_cVI G (dc d_Mo_costOf 6 rfl) kc8 (okL_lt hu (o := 0) 0 rfl) (okL_k hu (o := 0) 0 rfl) mi_Mo_apartBy mv_Mo_apartBy rfl ml_RX11_82 (c_Mo_apartBy (gst G) hu e3) rfl rfl ⟨rfl, rfl⟩ rfl ⟨rfl, rfl⟩ ⟨rfl, rfl⟩ ?_
  refine k_imul G (dc d_Mo_costOf 7 rfl) ?_
  exact (kOk_s h) _ _ _ _ rfl rfl rfl (dc d_Mo_costOf 8 rfl)
theorem c_Mo_costOf {l : Launch} {B : KB} {L : KLay} {M : KMem} {u : Nat} {p0 : Int32} (hst : l.stackTraces = false) (hu : okL L u moT) {r : Int32} {M' : KMem} (e : m_Mo_costOf u p0 M = some (r, M')) : CtrN l B yX11_costOf cX11_costOf 2 (some .int) rm_Mo_costOf [.ref (B.1 + u), .int p0] L M (some (.int r)) L M' :=
  mk_I rfl hst rfl (fun X hl G _ R => b_Mo_costOf G hu ⟨_, e, R⟩)
def I_Mo_wrongs : List (Nat × Instr × Nat) := [(0, .iconst 0, 1), (1, .istore_n 1, 1), (2, .iconst 0, 1), (3, .istore_n 2, 1), (4, .iload_n 2, 1), (5, .aload_n 0, 1), (6, .getfield 7, 3), (9, .iconst 0, 1), (10, .iaload, 1), (11, .if_icmp .ge 25, 3), (14, .iload_n 1, 1), (15, .aload_n 0, 1), (16, .iload_n 2, 1), (17, .invokevirtual 85, 3), (20, .ifCond .eq 7, 3), (23, .iconst 1, 1), (24, .goto 4, 3), (27, .iconst 0, 1), (28, .iadd, 1), (29, .istore_n 1, 1), (30, .iinc 2 1, 3), (33, .goto (-29), 3), (36, .iload_n 1, 1), (37, .ireturn, 1)]
set_option maxRecDepth 100000 in
theorem d_Mo_wrongs : decA cX11_wrongs I_Mo_wrongs = true := by decide +kernel
abbrev rm_Mo_wrongs : Room := ({ frames := 6, cells := 0, slots := 0, locals := 143 } : Room)
def m_Mo_wrongs_l4 (u : Nat) (M : KMem) : (Int32 × Int32) → Option ((Int32 × Int32) ⊕ Int32) := fun (v1_1, v2_2) =>
 Option.bind (rdI M (u + 1) 108 0) fun x4 =>
 if x4 ≤ v2_2 then
 (some (.inr v1_1))
 else
 (Option.bind (m_Mo_isWrong u v2_2 M) fun x7 =>
 Option.bind (α := Int32) (if x7 = 0 then
 (some 0)
 else
 (some 1)) fun t8 =>
 some (.inl (v1_1 + t8, v2_2 + 1)))
def m_Mo_wrongs (u : Nat) (M : KMem) : Option Int32 :=
 Option.bind (α := Int32) (kLp (m_Mo_wrongs_l4 u M) kFU (0, 0)) fun v1_11 =>
 some v1_11
set_option maxHeartbeats 4000000 in
set_option maxRecDepth 100000 in
theorem b_Mo_wrongs {X : KX} {B : KB} {L : KLay} {M : KMem} {u : Nat} (G : Good X B RX11 cX11_wrongs 3 rm_Mo_wrongs) (hu : okL L u moT) (h : kOk (m_Mo_wrongs u M) (fun r => RI X B L 3 cX11_wrongs .int rm_Mo_wrongs r M)) : KK X B L 3 0 0 M 0 [(0, .ref (B.1 + u))] [] := by
  unfold m_Mo_wrongs at h
  refine k_iconst G (dc d_Mo_wrongs 0 rfl) cI_0 ?_
  refine k_istore_n G (dc d_Mo_wrongs 1 rfl) (ls' := [(1, .int 0), (0, .ref (B.1 + u))]) rfl rfl rfl ?_
  refine k_iconst G (dc d_Mo_wrongs 2 rfl) cI_0 ?_
  refine k_istore_n G (dc d_Mo_wrongs 3 rfl) (ls' := [(2, .int 0), (1, .int 0), (0, .ref (B.1 + u))]) rfl rfl rfl ?_
  refine kJ h (fun r12 => KK X B L 3 0 0 M 36 [(1, .int r12)] []) (fun r12 h => ?_) (fun h => ?_)
  · obtain ⟨v1_11, rfl⟩ : ∃ z, z = r12 := ⟨_, rfl⟩
    show KK X B L 3 0 0 M 36 [(1, .int v1_11)] []
    refine k_iload_n G (dc d_Mo_wrongs 22 rfl) 0 rfl rfl ?_
    exact (kOk_s h) _ _ _ _ rfl rfl rfl (dc d_Mo_wrongs 23 rfl)
  · refine k_sub [2, 1, 0] rfl ?_
    refine kLp_ok (P := fun s13 => KK X B L 3 0 0 M 4 [(0, .ref (B.1 + u)), (1, .int s13.1), (2, .int s13.2)] []) (fun s13 h => ?_) kFU _ h
    obtain ⟨v1_1, v2_2⟩ := s13
    unfold m_Mo_wrongs_l4 at h
    show KK X B L 3 0 0 M 4 [(0, .ref (B.1 + u)), (1, .int v1_1), (2, .int v2_2)] []
    refine k_iload_n G (dc d_Mo_wrongs 4 rfl) 2 rfl rfl ?_
    refine k_aload_n G (dc d_Mo_wrongs 5 rfl) 0 rfl rfl ?_
    refine k_getR G kc8 (dc d_Mo_wrongs 6 rfl) (okL_lt hu (o := 0) 0 rfl) (okL_k hu (o := 0) 0 rfl) 1 (by decide) rfl fl_RX11_7 (u + 1) (okL_r hu (o := 0) (c := 1) 0 rfl 0 rfl) ?_
    refine k_iconst G (dc d_Mo_wrongs 7 rfl) cI_0 ?_
    obtain ⟨x4, e3, h⟩ := kOk_b h
    refine k_ild G (dc d_Mo_wrongs 8 rfl) (okL_lt hu (o := 1) 1 rfl) (okL_k hu (o := 1) 1 rfl) (okL_n hu (o := 1) 1 rfl) e3 ?_
    refine k_icmp_ge G (dc d_Mo_wrongs 9 rfl) (tgt := 36) rfl (fun c5 => ?_) (fun c5 => ?_)
    · replace h := kOk_p c5 h
      refine k_sub [1] rfl ?_
      have h9 := kOk_s h
      exact h9
    · replace h := kOk_n c5 h
      refine k_iload_n G (dc d_Mo_wrongs 10 rfl) 1 rfl rfl ?_
      refine k_aload_n G (dc d_Mo_wrongs 11 rfl) 0 rfl rfl ?_
      refine k_iload_n G (dc d_Mo_wrongs 12 rfl) 2 rfl rfl ?_
      obtain ⟨x7, e6, h⟩ := kOk_b h
      refine k_cVI G (dc d_Mo_wrongs 13 rfl) kc8 (okL_lt hu (o := 0) 0 rfl) (okL_k hu (o := 0) 0 rfl) mi_Mo_isWrong mv_Mo_isWrong rfl ml_RX11_85 (c_Mo_isWrong (gst G) hu e6) rfl rfl ⟨rfl, rfl⟩ rfl ⟨rfl, rfl⟩ ⟨rfl, rfl⟩ ?_
      refine kJ h (fun r9 => KK X B L 3 0 0 M 28 [(0, .ref (B.1 + u)), (2, .int v2_2)] [.int r9, .int v1_1]) (fun r9 h => ?_) (fun h => ?_)
      · obtain ⟨t8, rfl⟩ : ∃ z, z = r9 := ⟨_, rfl⟩
        show KK X B L 3 0 0 M 28 [(0, .ref (B.1 + u)), (2, .int v2_2)] [.int t8, .int v1_1]
        refine k_iadd G (dc d_Mo_wrongs 18 rfl) ?_
        refine k_istore_n G (dc d_Mo_wrongs 19 rfl) (ls' := [(1, .int (v1_1 + t8)), (0, .ref (B.1 + u)), (2, .int v2_2)]) rfl rfl rfl ?_
        refine k_iinc G (dc d_Mo_wrongs 20 rfl) (ls' := [(2, .int (v2_2 + 1)), (1, .int (v1_1 + t8)), (0, .ref (B.1 + u))]) 2 rfl cI_1 rfl rfl ?_
        refine k_goto G (dc d_Mo_wrongs 21 rfl) (tgt := 4) rfl ?_
        refine k_sub [2, 1, 0] rfl ?_
        have h9 := kOk_s h
        exact h9
      · refine k_if_eq G (dc d_Mo_wrongs 14 rfl) (tgt := 27) rfl (fun c10 => ?_) (fun c10 => ?_)
        · replace h := kOk_p c10 h
          refine k_iconst G (dc d_Mo_wrongs 17 rfl) cI_0 ?_
          refine k_sub [0, 2] rfl ?_
          have h9 := kOk_s h
          exact h9
        · replace h := kOk_n c10 h
          refine k_iconst G (dc d_Mo_wrongs 15 rfl) cI_1 ?_
          refine k_goto G (dc d_Mo_wrongs 16 rfl) (tgt := 28) rfl ?_
          refine k_sub [0, 2] rfl ?_
          have h9 := kOk_s h
          exact h9
theorem c_Mo_wrongs {l : Launch} {B : KB} {L : KLay} {M : KMem} {u : Nat} (hst : l.stackTraces = false) (hu : okL L u moT) {r : Int32} (e : m_Mo_wrongs u M = some r) : CtrN l B yX11_wrongs cX11_wrongs 3 (some .int) rm_Mo_wrongs [.ref (B.1 + u)] L M (some (.int r)) L M :=
  mk_I rfl hst rfl (fun X hl G _ R => b_Mo_wrongs G hu ⟨_, e, R⟩)
def I_Mo_comes : List (Nat × Instr × Nat) := [(0, .aload_n 0, 1), (1, .getfield 7, 3), (4, .iconst 0, 1), (5, .iaload, 1), (6, .istore_n 3, 1), (7, .aload_n 0, 1), (8, .getfield 7, 3), (11, .iconst 0, 1), (12, .dup2, 1), (13, .iaload, 1), (14, .iconst 1, 1), (15, .iadd, 1), (16, .iastore, 1), (17, .aload_n 0, 1), (18, .getfield 7, 3), (21, .iload_n 3, 1), (22, .iconst 0, 1), (23, .invokestatic 67, 3), (26, .iload_n 1, 1), (27, .iastore, 1), (28, .aload_n 0, 1), (29, .getfield 7, 3), (32, .iload_n 3, 1), (33, .iconst 1, 1), (34, .invokestatic 67, 3), (37, .iload_n 2, 1), (38, .iastore, 1), (39, .aload_n 0, 1), (40, .getfield 7, 3), (43, .iload_n 3, 1), (44, .iconst 2, 1), (45, .invokestatic 67, 3), (48, .aload_n 0, 1), (49, .iload_n 2, 1), (50, .invokevirtual 70, 3), (53, .iastore, 1), (54, .aload_n 0, 1), (55, .getfield 7, 3), (58, .iload_n 3, 1), (59, .iconst 3, 1), (60, .invokestatic 67, 3), (63, .iconst 0, 1), (64, .iastore, 1), (65, .aload_n 0, 1), (66, .getfield 7, 3), (69, .iload_n 3, 1), (70, .iconst 4, 1), (71, .invokestatic 67, 3), (74, .iconst 0, 1), (75, .iastore, 1), (76, .aload_n 0, 1), (77, .invokevirtual 88, 3), (80, .istore 4, 2), (82, .aload_n 0, 1), (83, .getfield 7, 3), (86, .iconst 0, 1), (87, .dup2, 1), (88, .iaload, 1), (89, .iload 4, 2), (91, .ifCond .le 7, 3), (94, .iconst 1, 1), (95, .goto 4, 3), (98, .iconst 0, 1), (99, .isub, 1), (100, .iastore, 1), (101, .iload 4, 2), (103, .ireturn, 1)]
set_option maxRecDepth 100000 in
theorem d_Mo_comes : decA cX11_comes I_Mo_comes = true := by decide +kernel
abbrev rm_Mo_comes : Room := ({ frames := 6, cells := 0, slots := 0, locals := 147 } : Room)
def m_Mo_comes (u : Nat) (p0 : Int32) (p1 : Int32) (M : KMem) : Option (Int32 × KMem) :=
 Option.bind (rdI M (u + 1) 108 0) fun x2 =>
 Option.bind (rdI M (u + 1) 108 0) fun x4 =>
 Option.bind (wrI M (u + 1) 108 0 (x4 + 1)) fun M6 =>
 Option.bind (m_Mo_of x2 0) fun x8 =>
 Option.bind (wrI M6 (u + 1) 108 x8 p0) fun M10 =>
 Option.bind (m_Mo_of x2 1) fun x12 =>
 Option.bind (wrI M10 (u + 1) 108 x12 p1) fun M14 =>
 Option.bind (m_Mo_of x2 2) fun x16 =>
 Option.bind (m_Mo_spelled u p1 M14) fun x18 =>
 Option.bind (wrI M14 (u + 1) 108 x16 x18) fun M20 =>
 Option.bind (m_Mo_of x2 3) fun x22 =>
 Option.bind (wrI M20 (u + 1) 108 x22 0) fun M24 =>
 Option.bind (m_Mo_of x2 4) fun x26 =>
 Option.bind (wrI M24 (u + 1) 108 x26 0) fun M28 =>
 Option.bind (m_Mo_hindrance u M28) fun x30 =>
 Option.bind (rdI M28 (u + 1) 108 0) fun x32 =>
 Option.bind (α := Int32) (if x30 ≤ 0 then
 (some 0)
 else
 (some 1)) fun t33 =>
 Option.bind (wrI M28 (u + 1) 108 0 (x32 - t33)) fun M36 =>
 some (x30, M36)
set_option maxHeartbeats 4000000 in
set_option maxRecDepth 100000 in
theorem b_Mo_comes {X : KX} {B : KB} {L : KLay} {M : KMem} {u : Nat} {p0 : Int32} {p1 : Int32} (G : Good X B RX11 cX11_comes 5 rm_Mo_comes) (hu : okL L u moT) (h : kOk (m_Mo_comes u p0 p1 M) (fun r => RI X B L 5 cX11_comes .int rm_Mo_comes r.1 r.2)) : KK X B L 5 0 0 M 0 [(0, .ref (B.1 + u)), (1, .int p0), (2, .int p1)] [] := by
  unfold m_Mo_comes at h
  refine k_aload_n G (dc d_Mo_comes 0 rfl) 0 rfl rfl ?_
  refine k_getR G kc8 (dc d_Mo_comes 1 rfl) (okL_lt hu (o := 0) 0 rfl) (okL_k hu (o := 0) 0 rfl) 1 (by decide) rfl fl_RX11_7 (u + 1) (okL_r hu (o := 0) (c := 1) 0 rfl 0 rfl) ?_
  refine k_iconst G (dc d_Mo_comes 2 rfl) cI_0 ?_
  obtain ⟨x2, e1, h⟩ := kOk_b h
  refine k_ild G (dc d_Mo_comes 3 rfl) (okL_lt hu (o := 1) 1 rfl) (okL_k hu (o := 1) 1 rfl) (okL_n hu (o := 1) 1 rfl) e1 ?_
  refine k_istore_n G (dc d_Mo_comes 4 rfl) (ls' := [(3, .int x2), (0, .ref (B.1 + u)), (1, .int p0), (2, .int p1)]) rfl rfl rfl ?_
  refine k_aload_n G (dc d_Mo_comes 5 rfl) 1 rfl rfl ?_
  refine k_getR G kc8 (dc d_Mo_comes 6 rfl) (okL_lt hu (o := 0) 0 rfl) (okL_k hu (o := 0) 0 rfl) 1 (by decide) rfl fl_RX11_7 (u + 1) (okL_r hu (o := 0) (c := 1) 0 rfl 0 rfl) ?_
  refine k_iconst G (dc d_Mo_comes 7 rfl) cI_0 ?_
  refine k_dup2 G (dc d_Mo_comes 8 rfl) rfl rfl ?_
  obtain ⟨x4, e3, h⟩ := kOk_b h
  refine k_ild G (dc d_Mo_comes 9 rfl) (okL_lt hu (o := 1) 1 rfl) (okL_k hu (o := 1) 1 rfl) (okL_n hu (o := 1) 1 rfl) e3 ?_
  refine k_iconst G (dc d_Mo_comes 10 rfl) cI_1 ?_
  refine k_iadd G (dc d_Mo_comes 11 rfl) ?_
  obtain ⟨M6, e5, h⟩ := kOk_b h
  refine k_ist G (dc d_Mo_comes 12 rfl) (okL_lt hu (o := 1) 1 rfl) (okL_k hu (o := 1) 1 rfl) (okL_n hu (o := 1) 1 rfl) e5 ?_
  refine k_aload_n G (dc d_Mo_comes 13 rfl) 1 rfl rfl ?_
  refine k_getR G kc8 (dc d_Mo_comes 14 rfl) (okL_lt hu (o := 0) 0 rfl) (okL_k hu (o := 0) 0 rfl) 1 (by decide) rfl fl_RX11_7 (u + 1) (okL_r hu (o := 0) (c := 1) 0 rfl 0 rfl) ?_
  refine k_iload_n G (dc d_Mo_comes 15 rfl) 0 rfl rfl ?_
  refine k_iconst G (dc d_Mo_comes 16 rfl) cI_0 ?_
  obtain ⟨x8, e7, h⟩ := kOk_b h
  refine k_cSI G (dc d_Mo_comes 17 rfl) mi_Mo_of ms_Mo_of ml_RX11_67 (c_Mo_of (gst G)  e7) rfl rfl ⟨rfl, rfl⟩ rfl ⟨rfl, rfl⟩ ⟨rfl, rfl⟩ ?_
  refine k_iload_n G (dc d_Mo_comes 18 rfl) 2 rfl rfl ?_
  obtain ⟨M10, e9, h⟩ := kOk_b h
  refine k_ist G (dc d_Mo_comes 19 rfl) (okL_lt hu (o := 1) 1 rfl) (okL_k hu (o := 1) 1 rfl) (okL_n hu (o := 1) 1 rfl) e9 ?_
  refine k_aload_n G (dc d_Mo_comes 20 rfl) 1 rfl rfl ?_
  refine k_getR G kc8 (dc d_Mo_comes 21 rfl) (okL_lt hu (o := 0) 0 rfl) (okL_k hu (o := 0) 0 rfl) 1 (by decide) rfl fl_RX11_7 (u + 1) (okL_r hu (o := 0) (c := 1) 0 rfl 0 rfl) ?_
  refine k_iload_n G (dc d_Mo_comes 22 rfl) 0 rfl rfl ?_
  refine k_iconst G (dc d_Mo_comes 23 rfl) cI_1 ?_
  obtain ⟨x12, e11, h⟩ := kOk_b h
  refine k_cSI G (dc d_Mo_comes 24 rfl) mi_Mo_of ms_Mo_of ml_RX11_67 (c_Mo_of (gst G)  e11) rfl rfl ⟨rfl, rfl⟩ rfl ⟨rfl, rfl⟩ ⟨rfl, rfl⟩ ?_
  refine k_iload_n G (dc d_Mo_comes 25 rfl) 3 rfl rfl ?_
  obtain ⟨M14, e13, h⟩ := kOk_b h
  refine k_ist G (dc d_Mo_comes 26 rfl) (okL_lt hu (o := 1) 1 rfl) (okL_k hu (o := 1) 1 rfl) (okL_n hu (o := 1) 1 rfl) e13 ?_
  refine k_aload_n G (dc d_Mo_comes 27 rfl) 1 rfl rfl ?_
  refine k_getR G kc8 (dc d_Mo_comes 28 rfl) (okL_lt hu (o := 0) 0 rfl) (okL_k hu (o := 0) 0 rfl) 1 (by decide) rfl fl_RX11_7 (u + 1) (okL_r hu (o := 0) (c := 1) 0 rfl 0 rfl) ?_
  refine k_iload_n G (dc d_Mo_comes 29 rfl) 0 rfl rfl ?_
  refine k_iconst G (dc d_Mo_comes 30 rfl) cI_2 ?_
  obtain ⟨x16, e15, h⟩ := kOk_b h
  refine k_cSI G (dc d_Mo_comes 31 rfl) mi_Mo_of ms_Mo_of ml_RX11_67 (c_Mo_of (gst G)  e15) rfl rfl ⟨rfl, rfl⟩ rfl ⟨rfl, rfl⟩ ⟨rfl, rfl⟩ ?_
  refine k_aload_n G (dc d_Mo_comes 32 rfl) 1 rfl rfl ?_
  refine k_iload_n G (dc d_Mo_comes 33 rfl) 3 rfl rfl ?_
  obtain ⟨x18, e17, h⟩ := kOk_b h
  refine k_cVI G (dc d_Mo_comes 34 rfl) kc8 (okL_lt hu (o := 0) 0 rfl) (okL_k hu (o := 0) 0 rfl) mi_Mo_spelled mv_Mo_spelled rfl ml_RX11_70 (c_Mo_spelled (gst G) hu e17) rfl rfl ⟨rfl, rfl⟩ rfl ⟨rfl, rfl⟩ ⟨rfl, rfl⟩ ?_
  obtain ⟨M20, e19, h⟩ := kOk_b h
  refine k_ist G (dc d_Mo_comes 35 rfl) (okL_lt hu (o := 1) 1 rfl) (okL_k hu (o := 1) 1 rfl) (okL_n hu (o := 1) 1 rfl) e19 ?_
  refine k_aload_n G (dc d_Mo_comes 36 rfl) 1 rfl rfl ?_
  refine k_getR G kc8 (dc d_Mo_comes 37 rfl) (okL_lt hu (o := 0) 0 rfl) (okL_k hu (o := 0) 0 rfl) 1 (by decide) rfl fl_RX11_7 (u + 1) (okL_r hu (o := 0) (c := 1) 0 rfl 0 rfl) ?_
  refine k_iload_n G (dc d_Mo_comes 38 rfl) 0 rfl rfl ?_
  refine k_iconst G (dc d_Mo_comes 39 rfl) cI_3 ?_
  obtain ⟨x22, e21, h⟩ := kOk_b h
  refine k_cSI G (dc d_Mo_comes 40 rfl) mi_Mo_of ms_Mo_of ml_RX11_67 (c_Mo_of (gst G)  e21) rfl rfl ⟨rfl, rfl⟩ rfl ⟨rfl, rfl⟩ ⟨rfl, rfl⟩ ?_
  refine k_iconst G (dc d_Mo_comes 41 rfl) cI_0 ?_
  obtain ⟨M24, e23, h⟩ := kOk_b h
  refine k_ist G (dc d_Mo_comes 42 rfl) (okL_lt hu (o := 1) 1 rfl) (okL_k hu (o := 1) 1 rfl) (okL_n hu (o := 1) 1 rfl) e23 ?_
  refine k_aload_n G (dc d_Mo_comes 43 rfl) 1 rfl rfl ?_
  refine k_getR G kc8 (dc d_Mo_comes 44 rfl) (okL_lt hu (o := 0) 0 rfl) (okL_k hu (o := 0) 0 rfl) 1 (by decide) rfl fl_RX11_7 (u + 1) (okL_r hu (o := 0) (c := 1) 0 rfl 0 rfl) ?_
  refine k_iload_n G (dc d_Mo_comes 45 rfl) 0 rfl rfl ?_
  refine k_iconst G (dc d_Mo_comes 46 rfl) cI_4 ?_
  obtain ⟨x26, e25, h⟩ := kOk_b h
  refine k_cSI G (dc d_Mo_comes 47 rfl) mi_Mo_of ms_Mo_of ml_RX11_67 (c_Mo_of (gst G)  e25) rfl rfl ⟨rfl, rfl⟩ rfl ⟨rfl, rfl⟩ ⟨rfl, rfl⟩ ?_
  refine k_iconst G (dc d_Mo_comes 48 rfl) cI_0 ?_
  obtain ⟨M28, e27, h⟩ := kOk_b h
  refine k_ist G (dc d_Mo_comes 49 rfl) (okL_lt hu (o := 1) 1 rfl) (okL_k hu (o := 1) 1 rfl) (okL_n hu (o := 1) 1 rfl) e27 ?_
  refine k_aload_n G (dc d_Mo_comes 50 rfl) 1 rfl rfl ?_
  obtain ⟨x30, e29, h⟩ := kOk_b h
  refine k_cVI G (dc d_Mo_comes 51 rfl) kc8 (okL_lt hu (o := 0) 0 rfl) (okL_k hu (o := 0) 0 rfl) mi_Mo_hindrance mv_Mo_hindrance rfl ml_RX11_88 (c_Mo_hindrance (gst G) hu e29) rfl rfl ⟨rfl, rfl⟩ rfl ⟨rfl, rfl⟩ ⟨rfl, rfl⟩ ?_
  refine k_istore G (dc d_Mo_comes 52 rfl) (ls' := [(4, .int x30), (3, .int x2), (0, .ref (B.1 + u)), (1, .int p0), (2, .int p1)]) rfl rfl ?_
  refine k_aload_n G (dc d_Mo_comes 53 rfl) 2 rfl rfl ?_
  refine k_getR G kc8 (dc d_Mo_comes 54 rfl) (okL_lt hu (o := 0) 0 rfl) (okL_k hu (o := 0) 0 rfl) 1 (by decide) rfl fl_RX11_7 (u + 1) (okL_r hu (o := 0) (c := 1) 0 rfl 0 rfl) ?_
  refine k_iconst G (dc d_Mo_comes 55 rfl) cI_0 ?_
  refine k_dup2 G (dc d_Mo_comes 56 rfl) rfl rfl ?_
  obtain ⟨x32, e31, h⟩ := kOk_b h
  refine k_ild G (dc d_Mo_comes 57 rfl) (okL_lt hu (o := 1) 1 rfl) (okL_k hu (o := 1) 1 rfl) (okL_n hu (o := 1) 1 rfl) e31 ?_
  refine k_iload G (dc d_Mo_comes 58 rfl) 0 rfl ?_
  refine kJ h (fun r34 => KK X B L 5 0 0 M28 99 [(4, .int x30)] [.int r34, .int x32, .int 0, .ref (B.1 + (u + 1))]) (fun r34 h => ?_) (fun h => ?_)
  · obtain ⟨t33, rfl⟩ : ∃ z, z = r34 := ⟨_, rfl⟩
    show KK X B L 5 0 0 M28 99 [(4, .int x30)] [.int t33, .int x32, .int 0, .ref (B.1 + (u + 1))]
    refine k_isub G (dc d_Mo_comes 63 rfl) ?_
    obtain ⟨M36, e35, h⟩ := kOk_b h
    refine k_ist G (dc d_Mo_comes 64 rfl) (okL_lt hu (o := 1) 1 rfl) (okL_k hu (o := 1) 1 rfl) (okL_n hu (o := 1) 1 rfl) e35 ?_
    refine k_iload G (dc d_Mo_comes 65 rfl) 0 rfl ?_
    exact (kOk_s h) _ _ _ _ rfl rfl rfl (dc d_Mo_comes 66 rfl)
  · refine k_if_le G (dc d_Mo_comes 59 rfl) (tgt := 98) rfl (fun c37 => ?_) (fun c37 => ?_)
    · replace h := kOk_p c37 h
      refine k_iconst G (dc d_Mo_comes 62 rfl) cI_0 ?_
      refine k_sub [0] rfl ?_
      have h9 := kOk_s h
      exact h9
    · replace h := kOk_n c37 h
      refine k_iconst G (dc d_Mo_comes 60 rfl) cI_1 ?_
      refine k_goto G (dc d_Mo_comes 61 rfl) (tgt := 99) rfl ?_
      refine k_sub [0] rfl ?_
      have h9 := kOk_s h
      exact h9
theorem c_Mo_comes {l : Launch} {B : KB} {L : KLay} {M : KMem} {u : Nat} {p0 : Int32} {p1 : Int32} (hst : l.stackTraces = false) (hu : okL L u moT) {r : Int32} {M' : KMem} (e : m_Mo_comes u p0 p1 M = some (r, M')) : CtrN l B yX11_comes cX11_comes 5 (some .int) rm_Mo_comes [.ref (B.1 + u), .int p0, .int p1] L M (some (.int r)) L M' :=
  mk_I rfl hst rfl (fun X hl G _ R => b_Mo_comes G hu ⟨_, e, R⟩)
def I_Mo_putsDecree : List (Nat × Instr × Nat) := [(0, .aload_n 0, 1), (1, .getfield 7, 3), (4, .bipush 41, 2), (6, .iaload, 1), (7, .istore 5, 2), (9, .aload_n 0, 1), (10, .getfield 7, 3), (13, .bipush 41, 2), (15, .dup2, 1), (16, .iaload, 1), (17, .iconst 1, 1), (18, .iadd, 1), (19, .iastore, 1), (20, .aload_n 0, 1), (21, .getfield 7, 3), (24, .iload 5, 2), (26, .iconst 0, 1), (27, .invokestatic 57, 3), (30, .iload_n 1, 1), (31, .iastore, 1), (32, .aload_n 0, 1), (33, .getfield 7, 3), (36, .iload 5, 2), (38, .iconst 1, 1), (39, .invokestatic 57, 3), (42, .iload_n 2, 1), (43, .iastore, 1), (44, .aload_n 0, 1), (45, .getfield 7, 3), (48, .iload 5, 2), (50, .iconst 2, 1), (51, .invokestatic 57, 3), (54, .iload_n 3, 1), (55, .iastore, 1), (56, .aload_n 0, 1), (57, .getfield 7, 3), (60, .iload 5, 2), (62, .iconst 3, 1), (63, .invokestatic 57, 3), (66, .iload 4, 2), (68, .iastore, 1), (69, .aload_n 0, 1), (70, .getfield 7, 3), (73, .iload 5, 2), (75, .iconst 4, 1), (76, .invokestatic 57, 3), (79, .aload_n 0, 1), (80, .getfield 7, 3), (83, .bipush 92, 2), (85, .iaload, 1), (86, .iastore, 1), (87, .return_, 1)]
set_option maxRecDepth 100000 in
theorem d_Mo_putsDecree : decA cX11_putsDecree I_Mo_putsDecree = true := by decide +kernel
abbrev rm_Mo_putsDecree : Room := ({ frames := 1, cells := 0, slots := 0, locals := 21 } : Room)
def m_Mo_putsDecree (u : Nat) (p0 : Int32) (p1 : Int32) (p2 : Int32) (p3 : Int32) (M : KMem) : Option KMem :=
 Option.bind (rdI M (u + 1) 108 41) fun x2 =>
 Option.bind (rdI M (u + 1) 108 41) fun x4 =>
 Option.bind (wrI M (u + 1) 108 41 (x4 + 1)) fun M6 =>
 Option.bind (m_Mo_ofDecree x2 0) fun x8 =>
 Option.bind (wrI M6 (u + 1) 108 x8 p0) fun M10 =>
 Option.bind (m_Mo_ofDecree x2 1) fun x12 =>
 Option.bind (wrI M10 (u + 1) 108 x12 p1) fun M14 =>
 Option.bind (m_Mo_ofDecree x2 2) fun x16 =>
 Option.bind (wrI M14 (u + 1) 108 x16 p2) fun M18 =>
 Option.bind (m_Mo_ofDecree x2 3) fun x20 =>
 Option.bind (wrI M18 (u + 1) 108 x20 p3) fun M22 =>
 Option.bind (m_Mo_ofDecree x2 4) fun x24 =>
 Option.bind (rdI M22 (u + 1) 108 92) fun x26 =>
 Option.bind (wrI M22 (u + 1) 108 x24 x26) fun M28 =>
 some M28
set_option maxHeartbeats 4000000 in
set_option maxRecDepth 100000 in
theorem b_Mo_putsDecree {X : KX} {B : KB} {L : KLay} {M : KMem} {u : Nat} {p0 : Int32} {p1 : Int32} {p2 : Int32} {p3 : Int32} (G : Good X B RX11 cX11_putsDecree 6 rm_Mo_putsDecree) (hu : okL L u moT) (h : kOk (m_Mo_putsDecree u p0 p1 p2 p3 M) (fun r => RV X B L 6 cX11_putsDecree rm_Mo_putsDecree r)) : KK X B L 6 0 0 M 0 [(0, .ref (B.1 + u)), (1, .int p0), (2, .int p1), (3, .int p2), (4, .int p3)] [] := by
  unfold m_Mo_putsDecree at h
  refine k_aload_n G (dc d_Mo_putsDecree 0 rfl) 0 rfl rfl ?_
  refine k_getR G kc8 (dc d_Mo_putsDecree 1 rfl) (okL_lt hu (o := 0) 0 rfl) (okL_k hu (o := 0) 0 rfl) 1 (by decide) rfl fl_RX11_7 (u + 1) (okL_r hu (o := 0) (c := 1) 0 rfl 0 rfl) ?_
  refine k_bipush G (dc d_Mo_putsDecree 2 rfl) cB_41 ?_
  obtain ⟨x2, e1, h⟩ := kOk_b h
  refine k_ild G (dc d_Mo_putsDecree 3 rfl) (okL_lt hu (o := 1) 1 rfl) (okL_k hu (o := 1) 1 rfl) (okL_n hu (o := 1) 1 rfl) e1 ?_
  refine k_istore G (dc d_Mo_putsDecree 4 rfl) (ls' := [(5, .int x2), (0, .ref (B.1 + u)), (1, .int p0), (2, .int p1), (3, .int p2), (4, .int p3)]) rfl rfl ?_
  refine k_aload_n G (dc d_Mo_putsDecree 5 rfl) 1 rfl rfl ?_
  refine k_getR G kc8 (dc d_Mo_putsDecree 6 rfl) (okL_lt hu (o := 0) 0 rfl) (okL_k hu (o := 0) 0 rfl) 1 (by decide) rfl fl_RX11_7 (u + 1) (okL_r hu (o := 0) (c := 1) 0 rfl 0 rfl) ?_
  refine k_bipush G (dc d_Mo_putsDecree 7 rfl) cB_41 ?_
  refine k_dup2 G (dc d_Mo_putsDecree 8 rfl) rfl rfl ?_
  obtain ⟨x4, e3, h⟩ := kOk_b h
  refine k_ild G (dc d_Mo_putsDecree 9 rfl) (okL_lt hu (o := 1) 1 rfl) (okL_k hu (o := 1) 1 rfl) (okL_n hu (o := 1) 1 rfl) e3 ?_
  refine k_iconst G (dc d_Mo_putsDecree 10 rfl) cI_1 ?_
  refine k_iadd G (dc d_Mo_putsDecree 11 rfl) ?_
  obtain ⟨M6, e5, h⟩ := kOk_b h
  refine k_ist G (dc d_Mo_putsDecree 12 rfl) (okL_lt hu (o := 1) 1 rfl) (okL_k hu (o := 1) 1 rfl) (okL_n hu (o := 1) 1 rfl) e5 ?_
  refine k_aload_n G (dc d_Mo_putsDecree 13 rfl) 1 rfl rfl ?_
  refine k_getR G kc8 (dc d_Mo_putsDecree 14 rfl) (okL_lt hu (o := 0) 0 rfl) (okL_k hu (o := 0) 0 rfl) 1 (by decide) rfl fl_RX11_7 (u + 1) (okL_r hu (o := 0) (c := 1) 0 rfl 0 rfl) ?_
  refine k_iload G (dc d_Mo_putsDecree 15 rfl) 0 rfl ?_
  refine k_iconst G (dc d_Mo_putsDecree 16 rfl) cI_0 ?_
  obtain ⟨x8, e7, h⟩ := kOk_b h
  refine k_cSI G (dc d_Mo_putsDecree 17 rfl) mi_Mo_ofDecree ms_Mo_ofDecree ml_RX11_57 (c_Mo_ofDecree (gst G)  e7) rfl rfl ⟨rfl, rfl⟩ rfl ⟨rfl, rfl⟩ ⟨rfl, rfl⟩ ?_
  refine k_iload_n G (dc d_Mo_putsDecree 18 rfl) 2 rfl rfl ?_
  obtain ⟨M10, e9, h⟩ := kOk_b h
  refine k_ist G (dc d_Mo_putsDecree 19 rfl) (okL_lt hu (o := 1) 1 rfl) (okL_k hu (o := 1) 1 rfl) (okL_n hu (o := 1) 1 rfl) e9 ?_
  refine k_aload_n G (dc d_Mo_putsDecree 20 rfl) 1 rfl rfl ?_
  refine k_getR G kc8 (dc d_Mo_putsDecree 21 rfl) (okL_lt hu (o := 0) 0 rfl) (okL_k hu (o := 0) 0 rfl) 1 (by decide) rfl fl_RX11_7 (u + 1) (okL_r hu (o := 0) (c := 1) 0 rfl 0 rfl) ?_
  refine k_iload G (dc d_Mo_putsDecree 22 rfl) 0 rfl ?_
  refine k_iconst G (dc d_Mo_putsDecree 23 rfl) cI_1 ?_
  obtain ⟨x12, e11, h⟩ := kOk_b h
  refine k_cSI G (dc d_Mo_putsDecree 24 rfl) mi_Mo_ofDecree ms_Mo_ofDecree ml_RX11_57 (c_Mo_ofDecree (gst G)  e11) rfl rfl ⟨rfl, rfl⟩ rfl ⟨rfl, rfl⟩ ⟨rfl, rfl⟩ ?_
  refine k_iload_n G (dc d_Mo_putsDecree 25 rfl) 3 rfl rfl ?_
  obtain ⟨M14, e13, h⟩ := kOk_b h
  refine k_ist G (dc d_Mo_putsDecree 26 rfl) (okL_lt hu (o := 1) 1 rfl) (okL_k hu (o := 1) 1 rfl) (okL_n hu (o := 1) 1 rfl) e13 ?_
  refine k_aload_n G (dc d_Mo_putsDecree 27 rfl) 1 rfl rfl ?_
  refine k_getR G kc8 (dc d_Mo_putsDecree 28 rfl) (okL_lt hu (o := 0) 0 rfl) (okL_k hu (o := 0) 0 rfl) 1 (by decide) rfl fl_RX11_7 (u + 1) (okL_r hu (o := 0) (c := 1) 0 rfl 0 rfl) ?_
  refine k_iload G (dc d_Mo_putsDecree 29 rfl) 0 rfl ?_
  refine k_iconst G (dc d_Mo_putsDecree 30 rfl) cI_2 ?_
  obtain ⟨x16, e15, h⟩ := kOk_b h
  refine k_cSI G (dc d_Mo_putsDecree 31 rfl) mi_Mo_ofDecree ms_Mo_ofDecree ml_RX11_57 (c_Mo_ofDecree (gst G)  e15) rfl rfl ⟨rfl, rfl⟩ rfl ⟨rfl, rfl⟩ ⟨rfl, rfl⟩ ?_
  refine k_iload_n G (dc d_Mo_putsDecree 32 rfl) 4 rfl rfl ?_
  obtain ⟨M18, e17, h⟩ := kOk_b h
  refine k_ist G (dc d_Mo_putsDecree 33 rfl) (okL_lt hu (o := 1) 1 rfl) (okL_k hu (o := 1) 1 rfl) (okL_n hu (o := 1) 1 rfl) e17 ?_
  refine k_aload_n G (dc d_Mo_putsDecree 34 rfl) 1 rfl rfl ?_
  refine k_getR G kc8 (dc d_Mo_putsDecree 35 rfl) (okL_lt hu (o := 0) 0 rfl) (okL_k hu (o := 0) 0 rfl) 1 (by decide) rfl fl_RX11_7 (u + 1) (okL_r hu (o := 0) (c := 1) 0 rfl 0 rfl) ?_
  refine k_iload G (dc d_Mo_putsDecree 36 rfl) 0 rfl ?_
  refine k_iconst G (dc d_Mo_putsDecree 37 rfl) cI_3 ?_
  obtain ⟨x20, e19, h⟩ := kOk_b h
  refine k_cSI G (dc d_Mo_putsDecree 38 rfl) mi_Mo_ofDecree ms_Mo_ofDecree ml_RX11_57 (c_Mo_ofDecree (gst G)  e19) rfl rfl ⟨rfl, rfl⟩ rfl ⟨rfl, rfl⟩ ⟨rfl, rfl⟩ ?_
  refine k_iload G (dc d_Mo_putsDecree 39 rfl) 5 rfl ?_
  obtain ⟨M22, e21, h⟩ := kOk_b h
  refine k_ist G (dc d_Mo_putsDecree 40 rfl) (okL_lt hu (o := 1) 1 rfl) (okL_k hu (o := 1) 1 rfl) (okL_n hu (o := 1) 1 rfl) e21 ?_
  refine k_aload_n G (dc d_Mo_putsDecree 41 rfl) 1 rfl rfl ?_
  refine k_getR G kc8 (dc d_Mo_putsDecree 42 rfl) (okL_lt hu (o := 0) 0 rfl) (okL_k hu (o := 0) 0 rfl) 1 (by decide) rfl fl_RX11_7 (u + 1) (okL_r hu (o := 0) (c := 1) 0 rfl 0 rfl) ?_
  refine k_iload G (dc d_Mo_putsDecree 43 rfl) 0 rfl ?_
  refine k_iconst G (dc d_Mo_putsDecree 44 rfl) cI_4 ?_
  obtain ⟨x24, e23, h⟩ := kOk_b h
  refine k_cSI G (dc d_Mo_putsDecree 45 rfl) mi_Mo_ofDecree ms_Mo_ofDecree ml_RX11_57 (c_Mo_ofDecree (gst G)  e23) rfl rfl ⟨rfl, rfl⟩ rfl ⟨rfl, rfl⟩ ⟨rfl, rfl⟩ ?_
  refine k_aload_n G (dc d_Mo_putsDecree 46 rfl) 1 rfl rfl ?_
  refine k_getR G kc8 (dc d_Mo_putsDecree 47 rfl) (okL_lt hu (o := 0) 0 rfl) (okL_k hu (o := 0) 0 rfl) 1 (by decide) rfl fl_RX11_7 (u + 1) (okL_r hu (o := 0) (c := 1) 0 rfl 0 rfl) ?_
  refine k_bipush G (dc d_Mo_putsDecree 48 rfl) cB_92 ?_
  obtain ⟨x26, e25, h⟩ := kOk_b h
  refine k_ild G (dc d_Mo_putsDecree 49 rfl) (okL_lt hu (o := 1) 1 rfl) (okL_k hu (o := 1) 1 rfl) (okL_n hu (o := 1) 1 rfl) e25 ?_
  obtain ⟨M28, e27, h⟩ := kOk_b h
  refine k_ist G (dc d_Mo_putsDecree 50 rfl) (okL_lt hu (o := 1) 1 rfl) (okL_k hu (o := 1) 1 rfl) (okL_n hu (o := 1) 1 rfl) e27 ?_
  exact (kOk_s h) _ _ _ _ rfl rfl (dc d_Mo_putsDecree 51 rfl)
theorem c_Mo_putsDecree {l : Launch} {B : KB} {L : KLay} {M : KMem} {u : Nat} {p0 : Int32} {p1 : Int32} {p2 : Int32} {p3 : Int32} (hst : l.stackTraces = false) (hu : okL L u moT) {M' : KMem} (e : m_Mo_putsDecree u p0 p1 p2 p3 M = some M') : CtrN l B yX11_putsDecree cX11_putsDecree 6 none rm_Mo_putsDecree [.ref (B.1 + u), .int p0, .int p1, .int p2, .int p3] L M none L M' :=
  mk_V rfl hst rfl (fun X hl G _ R => b_Mo_putsDecree G hu ⟨_, e, R⟩)
def I_Mo_keepsDecrees : List (Nat × Instr × Nat) := [(0, .iconst 0, 1), (1, .istore_n 1, 1), (2, .iload_n 1, 1), (3, .bipush 51, 2), (5, .if_icmp .ge 24, 3), (8, .aload_n 0, 1), (9, .getfield 28, 3), (12, .iload_n 1, 1), (13, .aload_n 0, 1), (14, .getfield 7, 3), (17, .bipush 41, 2), (19, .iload_n 1, 1), (20, .iadd, 1), (21, .iaload, 1), (22, .iastore, 1), (23, .iinc 1 1, 3), (26, .goto (-24), 3), (29, .return_, 1)]
set_option maxRecDepth 100000 in
theorem d_Mo_keepsDecrees : decA cX11_keepsDecrees I_Mo_keepsDecrees = true := by decide +kernel
abbrev rm_Mo_keepsDecrees : Room := ({ frames := 0, cells := 0, slots := 0, locals := 0 } : Room)
def m_Mo_keepsDecrees_l2 (u : Nat) : (Int32 × KMem) → Option ((Int32 × KMem) ⊕ KMem) := fun (v1_1, M2) =>
 if 51 ≤ v1_1 then
 (some (.inr M2))
 else
 (Option.bind (rdI M2 (u + 1) 108 (41 + v1_1)) fun x5 =>
 Option.bind (wrI M2 (u + 7) 51 v1_1 x5) fun M7 =>
 some (.inl (v1_1 + 1, M7)))
def m_Mo_keepsDecrees (u : Nat) (M : KMem) : Option KMem :=
 Option.bind (α := KMem) (kLp (m_Mo_keepsDecrees_l2 u) kFU (0, M)) fun M8 =>
 some M8
set_option maxHeartbeats 4000000 in
set_option maxRecDepth 100000 in
theorem b_Mo_keepsDecrees {X : KX} {B : KB} {L : KLay} {M : KMem} {u : Nat} (G : Good X B RX11 cX11_keepsDecrees 2 rm_Mo_keepsDecrees) (hu : okL L u moT) (h : kOk (m_Mo_keepsDecrees u M) (fun r => RV X B L 2 cX11_keepsDecrees rm_Mo_keepsDecrees r)) : KK X B L 2 0 0 M 0 [(0, .ref (B.1 + u))] [] := by
  unfold m_Mo_keepsDecrees at h
  refine k_iconst G (dc d_Mo_keepsDecrees 0 rfl) cI_0 ?_
  refine k_istore_n G (dc d_Mo_keepsDecrees 1 rfl) (ls' := [(1, .int 0), (0, .ref (B.1 + u))]) rfl rfl rfl ?_
  refine kJ h (fun r9 => KK X B L 2 0 0 r9 29 [] []) (fun r9 h => ?_) (fun h => ?_)
  · obtain ⟨M8, rfl⟩ : ∃ z, z = r9 := ⟨_, rfl⟩
    show KK X B L 2 0 0 M8 29 [] []
    exact (kOk_s h) _ _ _ _ rfl rfl (dc d_Mo_keepsDecrees 17 rfl)
  · refine k_sub [1, 0] rfl ?_
    refine kLp_ok (P := fun s10 => KK X B L 2 0 0 s10.2 2 [(0, .ref (B.1 + u)), (1, .int s10.1)] []) (fun s10 h => ?_) kFU _ h
    obtain ⟨v1_1, M2⟩ := s10
    unfold m_Mo_keepsDecrees_l2 at h
    show KK X B L 2 0 0 M2 2 [(0, .ref (B.1 + u)), (1, .int v1_1)] []
    refine k_iload_n G (dc d_Mo_keepsDecrees 2 rfl) 1 rfl rfl ?_
    refine k_bipush G (dc d_Mo_keepsDecrees 3 rfl) cB_51 ?_
    refine k_icmp_ge G (dc d_Mo_keepsDecrees 4 rfl) (tgt := 29) rfl (fun c3 => ?_) (fun c3 => ?_)
    · replace h := kOk_p c3 h
      refine k_sub [] rfl ?_
      have h9 := kOk_s h
      exact h9
    · replace h := kOk_n c3 h
      refine k_aload_n G (dc d_Mo_keepsDecrees 5 rfl) 0 rfl rfl ?_
      refine k_getR G kc8 (dc d_Mo_keepsDecrees 6 rfl) (okL_lt hu (o := 0) 0 rfl) (okL_k hu (o := 0) 0 rfl) 10 (by decide) rfl fl_RX11_28 (u + 7) (okL_r hu (o := 0) (c := 7) 0 rfl 6 rfl) ?_
      refine k_iload_n G (dc d_Mo_keepsDecrees 7 rfl) 1 rfl rfl ?_
      refine k_aload_n G (dc d_Mo_keepsDecrees 8 rfl) 0 rfl rfl ?_
      refine k_getR G kc8 (dc d_Mo_keepsDecrees 9 rfl) (okL_lt hu (o := 0) 0 rfl) (okL_k hu (o := 0) 0 rfl) 1 (by decide) rfl fl_RX11_7 (u + 1) (okL_r hu (o := 0) (c := 1) 0 rfl 0 rfl) ?_
      refine k_bipush G (dc d_Mo_keepsDecrees 10 rfl) cB_41 ?_
      refine k_iload_n G (dc d_Mo_keepsDecrees 11 rfl) 1 rfl rfl ?_
      refine k_iadd G (dc d_Mo_keepsDecrees 12 rfl) ?_
      obtain ⟨x5, e4, h⟩ := kOk_b h
      refine k_ild G (dc d_Mo_keepsDecrees 13 rfl) (okL_lt hu (o := 1) 1 rfl) (okL_k hu (o := 1) 1 rfl) (okL_n hu (o := 1) 1 rfl) e4 ?_
      obtain ⟨M7, e6, h⟩ := kOk_b h
      refine k_ist G (dc d_Mo_keepsDecrees 14 rfl) (okL_lt hu (o := 7) 7 rfl) (okL_k hu (o := 7) 7 rfl) (okL_n hu (o := 7) 7 rfl) e6 ?_
      refine k_iinc G (dc d_Mo_keepsDecrees 15 rfl) (ls' := [(1, .int (v1_1 + 1)), (0, .ref (B.1 + u))]) 1 rfl cI_1 rfl rfl ?_
      refine k_goto G (dc d_Mo_keepsDecrees 16 rfl) (tgt := 2) rfl ?_
      refine k_sub [1, 0] rfl ?_
      have h9 := kOk_s h
      exact h9
theorem c_Mo_keepsDecrees {l : Launch} {B : KB} {L : KLay} {M : KMem} {u : Nat} (hst : l.stackTraces = false) (hu : okL L u moT) {M' : KMem} (e : m_Mo_keepsDecrees u M = some M') : CtrN l B yX11_keepsDecrees cX11_keepsDecrees 2 none rm_Mo_keepsDecrees [.ref (B.1 + u)] L M none L M' :=
  mk_V rfl hst rfl (fun X hl G _ R => b_Mo_keepsDecrees G hu ⟨_, e, R⟩)
def I_Mo_restoresDecrees : List (Nat × Instr × Nat) := [(0, .iconst 0, 1), (1, .istore_n 1, 1), (2, .iload_n 1, 1), (3, .bipush 51, 2), (5, .if_icmp .ge 24, 3), (8, .aload_n 0, 1), (9, .getfield 7, 3), (12, .bipush 41, 2), (14, .iload_n 1, 1), (15, .iadd, 1), (16, .aload_n 0, 1), (17, .getfield 28, 3), (20, .iload_n 1, 1), (21, .iaload, 1), (22, .iastore, 1), (23, .iinc 1 1, 3), (26, .goto (-24), 3), (29, .return_, 1)]
set_option maxRecDepth 100000 in
theorem d_Mo_restoresDecrees : decA cX11_restoresDecrees I_Mo_restoresDecrees = true := by decide +kernel
abbrev rm_Mo_restoresDecrees : Room := ({ frames := 0, cells := 0, slots := 0, locals := 0 } : Room)
def m_Mo_restoresDecrees_l2 (u : Nat) : (Int32 × KMem) → Option ((Int32 × KMem) ⊕ KMem) := fun (v1_1, M2) =>
 if 51 ≤ v1_1 then
 (some (.inr M2))
 else
 (Option.bind (rdI M2 (u + 7) 51 v1_1) fun x5 =>
 Option.bind (wrI M2 (u + 1) 108 (41 + v1_1) x5) fun M7 =>
 some (.inl (v1_1 + 1, M7)))
def m_Mo_restoresDecrees (u : Nat) (M : KMem) : Option KMem :=
 Option.bind (α := KMem) (kLp (m_Mo_restoresDecrees_l2 u) kFU (0, M)) fun M8 =>
 some M8
set_option maxHeartbeats 4000000 in
set_option maxRecDepth 100000 in
theorem b_Mo_restoresDecrees {X : KX} {B : KB} {L : KLay} {M : KMem} {u : Nat} (G : Good X B RX11 cX11_restoresDecrees 2 rm_Mo_restoresDecrees) (hu : okL L u moT) (h : kOk (m_Mo_restoresDecrees u M) (fun r => RV X B L 2 cX11_restoresDecrees rm_Mo_restoresDecrees r)) : KK X B L 2 0 0 M 0 [(0, .ref (B.1 + u))] [] := by
  unfold m_Mo_restoresDecrees at h
  refine k_iconst G (dc d_Mo_restoresDecrees 0 rfl) cI_0 ?_
  refine k_istore_n G (dc d_Mo_restoresDecrees 1 rfl) (ls' := [(1, .int 0), (0, .ref (B.1 + u))]) rfl rfl rfl ?_
  refine kJ h (fun r9 => KK X B L 2 0 0 r9 29 [] []) (fun r9 h => ?_) (fun h => ?_)
  · obtain ⟨M8, rfl⟩ : ∃ z, z = r9 := ⟨_, rfl⟩
    show KK X B L 2 0 0 M8 29 [] []
    exact (kOk_s h) _ _ _ _ rfl rfl (dc d_Mo_restoresDecrees 17 rfl)
  · refine k_sub [1, 0] rfl ?_
    refine kLp_ok (P := fun s10 => KK X B L 2 0 0 s10.2 2 [(0, .ref (B.1 + u)), (1, .int s10.1)] []) (fun s10 h => ?_) kFU _ h
    obtain ⟨v1_1, M2⟩ := s10
    unfold m_Mo_restoresDecrees_l2 at h
    show KK X B L 2 0 0 M2 2 [(0, .ref (B.1 + u)), (1, .int v1_1)] []
    refine k_iload_n G (dc d_Mo_restoresDecrees 2 rfl) 1 rfl rfl ?_
    refine k_bipush G (dc d_Mo_restoresDecrees 3 rfl) cB_51 ?_
    refine k_icmp_ge G (dc d_Mo_restoresDecrees 4 rfl) (tgt := 29) rfl (fun c3 => ?_) (fun c3 => ?_)
    · replace h := kOk_p c3 h
      refine k_sub [] rfl ?_
      have h9 := kOk_s h
      exact h9
    · replace h := kOk_n c3 h
      refine k_aload_n G (dc d_Mo_restoresDecrees 5 rfl) 0 rfl rfl ?_
      refine k_getR G kc8 (dc d_Mo_restoresDecrees 6 rfl) (okL_lt hu (o := 0) 0 rfl) (okL_k hu (o := 0) 0 rfl) 1 (by decide) rfl fl_RX11_7 (u + 1) (okL_r hu (o := 0) (c := 1) 0 rfl 0 rfl) ?_
      refine k_bipush G (dc d_Mo_restoresDecrees 7 rfl) cB_41 ?_
      refine k_iload_n G (dc d_Mo_restoresDecrees 8 rfl) 1 rfl rfl ?_
      refine k_iadd G (dc d_Mo_restoresDecrees 9 rfl) ?_
      refine k_aload_n G (dc d_Mo_restoresDecrees 10 rfl) 0 rfl rfl ?_
      refine k_getR G kc8 (dc d_Mo_restoresDecrees 11 rfl) (okL_lt hu (o := 0) 0 rfl) (okL_k hu (o := 0) 0 rfl) 10 (by decide) rfl fl_RX11_28 (u + 7) (okL_r hu (o := 0) (c := 7) 0 rfl 6 rfl) ?_
      refine k_iload_n G (dc d_Mo_restoresDecrees 12 rfl) 1 rfl rfl ?_
      obtain ⟨x5, e4, h⟩ := kOk_b h
      refine k_ild G (dc d_Mo_restoresDecrees 13 rfl) (okL_lt hu (o := 7) 7 rfl) (okL_k hu (o := 7) 7 rfl) (okL_n hu (o := 7) 7 rfl) e4 ?_
      obtain ⟨M7, e6, h⟩ := kOk_b h
      refine k_ist G (dc d_Mo_restoresDecrees 14 rfl) (okL_lt hu (o := 1) 1 rfl) (okL_k hu (o := 1) 1 rfl) (okL_n hu (o := 1) 1 rfl) e6 ?_
      refine k_iinc G (dc d_Mo_restoresDecrees 15 rfl) (ls' := [(1, .int (v1_1 + 1)), (0, .ref (B.1 + u))]) 1 rfl cI_1 rfl rfl ?_
      refine k_goto G (dc d_Mo_restoresDecrees 16 rfl) (tgt := 2) rfl ?_
      refine k_sub [1, 0] rfl ?_
      have h9 := kOk_s h
      exact h9
theorem c_Mo_restoresDecrees {l : Launch} {B : KB} {L : KLay} {M : KMem} {u : Nat} (hst : l.stackTraces = false) (hu : okL L u moT) {M' : KMem} (e : m_Mo_restoresDecrees u M = some M') : CtrN l B yX11_restoresDecrees cX11_restoresDecrees 2 none rm_Mo_restoresDecrees [.ref (B.1 + u)] L M none L M' :=
  mk_V rfl hst rfl (fun X hl G _ R => b_Mo_restoresDecrees G hu ⟨_, e, R⟩)
def I_Mo_gives : List (Nat × Instr × Nat) := [(0, .aload_n 0, 1), (1, .iload_n 1, 1), (2, .iload_n 2, 1), (3, .iload_n 3, 1), (4, .iload 4, 2), (6, .invokevirtual 92, 3), (9, .aload_n 0, 1), (10, .invokevirtual 88, 3), (13, .istore 5, 2), (15, .aload_n 0, 1), (16, .getfield 7, 3), (19, .bipush 41, 2), (21, .dup2, 1), (22, .iaload, 1), (23, .iload 5, 2), (25, .ifCond .le 7, 3), (28, .iconst 1, 1), (29, .goto 4, 3), (32, .iconst 0, 1), (33, .isub, 1), (34, .iastore, 1), (35, .iload 5, 2), (37, .ireturn, 1)]
set_option maxRecDepth 100000 in
theorem d_Mo_gives : decA cX11_gives I_Mo_gives = true := by decide +kernel
abbrev rm_Mo_gives : Room := ({ frames := 6, cells := 0, slots := 0, locals := 147 } : Room)
def m_Mo_gives (u : Nat) (p0 : Int32) (p1 : Int32) (p2 : Int32) (p3 : Int32) (M : KMem) : Option (Int32 × KMem) :=
 Option.bind (m_Mo_putsDecree u p0 p1 p2 p3 M) fun M2 =>
 Option.bind (m_Mo_hindrance u M2) fun x4 =>
 Option.bind (rdI M2 (u + 1) 108 41) fun x6 =>
 Option.bind (α := Int32) (if x4 ≤ 0 then
 (some 0)
 else
 (some 1)) fun t7 =>
 Option.bind (wrI M2 (u + 1) 108 41 (x6 - t7)) fun M10 =>
 some (x4, M10)
set_option maxHeartbeats 4000000 in
set_option maxRecDepth 100000 in
theorem b_Mo_gives {X : KX} {B : KB} {L : KLay} {M : KMem} {u : Nat} {p0 : Int32} {p1 : Int32} {p2 : Int32} {p3 : Int32} (G : Good X B RX11 cX11_gives 6 rm_Mo_gives) (hu : okL L u moT) (h : kOk (m_Mo_gives u p0 p1 p2 p3 M) (fun r => RI X B L 6 cX11_gives .int rm_Mo_gives r.1 r.2)) : KK X B L 6 0 0 M 0 [(0, .ref (B.1 + u)), (1, .int p0), (2, .int p1), (3, .int p2), (4, .int p3)] [] := by
  unfold m_Mo_gives at h
  refine k_aload_n G (dc d_Mo_gives 0 rfl) 0 rfl rfl ?_
  refine k_iload_n G (dc d_Mo_gives 1 rfl) 1 rfl rfl ?_
  refine k_iload_n G (dc d_Mo_gives 2 rfl) 2 rfl rfl ?_
  refine k_iload_n G (dc d_Mo_gives 3 rfl) 3 rfl rfl ?_
  refine k_iload G (dc d_Mo_gives 4 rfl) 4 rfl ?_
  obtain ⟨M2, e1, h⟩ := kOk_b h
  refine k_cVV G (dc d_Mo_gives 5 rfl) kc8 (okL_lt hu (o := 0) 0 rfl) (okL_k hu (o := 0) 0 rfl) mi_Mo_putsDecree mv_Mo_putsDecree rfl ml_RX11_92 (c_Mo_putsDecree (gst G) hu e1) rfl rfl ⟨rfl, rfl⟩ rfl ⟨rfl, rfl⟩ ⟨rfl, rfl⟩ ?_
  refine k_aload_n G (dc d_Mo_gives 6 rfl) 0 rfl rfl ?_
  obtain ⟨x4, e3, h⟩ := kOk_b h
  refine k_cVI G (dc d_Mo_gives 7 rfl) kc8 (okL_lt hu (o := 0) 0 rfl) (okL_k hu (o := 0) 0 rfl) mi_Mo_hindrance mv_Mo_hindrance rfl ml_RX11_88 (c_Mo_hindrance (gst G) hu e3) rfl rfl ⟨rfl, rfl⟩ rfl ⟨rfl, rfl⟩ ⟨rfl, rfl⟩ ?_
  refine k_istore G (dc d_Mo_gives 8 rfl) (ls' := [(5, .int x4), (0, .ref (B.1 + u)), (1, .int p0), (2, .int p1), (3, .int p2), (4, .int p3)]) rfl rfl ?_
  refine k_aload_n G (dc d_Mo_gives 9 rfl) 1 rfl rfl ?_
  refine k_getR G kc8 (dc d_Mo_gives 10 rfl) (okL_lt hu (o := 0) 0 rfl) (okL_k hu (o := 0) 0 rfl) 1 (by decide) rfl fl_RX11_7 (u + 1) (okL_r hu (o := 0) (c := 1) 0 rfl 0 rfl) ?_
  refine k_bipush G (dc d_Mo_gives 11 rfl) cB_41 ?_
  refine k_dup2 G (dc d_Mo_gives 12 rfl) rfl rfl ?_
  obtain ⟨x6, e5, h⟩ := kOk_b h
  refine k_ild G (dc d_Mo_gives 13 rfl) (okL_lt hu (o := 1) 1 rfl) (okL_k hu (o := 1) 1 rfl) (okL_n hu (o := 1) 1 rfl) e5 ?_
  refine k_iload G (dc d_Mo_gives 14 rfl) 0 rfl ?_
  refine kJ h (fun r8 => KK X B L 6 0 0 M2 33 [(5, .int x4)] [.int r8, .int x6, .int 41, .ref (B.1 + (u + 1))]) (fun r8 h => ?_) (fun h => ?_)
  · obtain ⟨t7, rfl⟩ : ∃ z, z = r8 := ⟨_, rfl⟩
    show KK X B L 6 0 0 M2 33 [(5, .int x4)] [.int t7, .int x6, .int 41, .ref (B.1 + (u + 1))]
    refine k_isub G (dc d_Mo_gives 19 rfl) ?_
    obtain ⟨M10, e9, h⟩ := kOk_b h
    refine k_ist G (dc d_Mo_gives 20 rfl) (okL_lt hu (o := 1) 1 rfl) (okL_k hu (o := 1) 1 rfl) (okL_n hu (o := 1) 1 rfl) e9 ?_
    refine k_iload G (dc d_Mo_gives 21 rfl) 0 rfl ?_
    exact (kOk_s h) _ _ _ _ rfl rfl rfl (dc d_Mo_gives 22 rfl)
  · refine k_if_le G (dc d_Mo_gives 15 rfl) (tgt := 32) rfl (fun c11 => ?_) (fun c11 => ?_)
    · replace h := kOk_p c11 h
      refine k_iconst G (dc d_Mo_gives 18 rfl) cI_0 ?_
      refine k_sub [0] rfl ?_
      have h9 := kOk_s h
      exact h9
    · replace h := kOk_n c11 h
      refine k_iconst G (dc d_Mo_gives 16 rfl) cI_1 ?_
      refine k_goto G (dc d_Mo_gives 17 rfl) (tgt := 33) rfl ?_
      refine k_sub [0] rfl ?_
      have h9 := kOk_s h
      exact h9
theorem c_Mo_gives {l : Launch} {B : KB} {L : KLay} {M : KMem} {u : Nat} {p0 : Int32} {p1 : Int32} {p2 : Int32} {p3 : Int32} (hst : l.stackTraces = false) (hu : okL L u moT) {r : Int32} {M' : KMem} (e : m_Mo_gives u p0 p1 p2 p3 M = some (r, M')) : CtrN l B yX11_gives cX11_gives 6 (some .int) rm_Mo_gives [.ref (B.1 + u), .int p0, .int p1, .int p2, .int p3] L M (some (.int r)) L M' :=
  mk_I rfl hst rfl (fun X hl G _ R => b_Mo_gives G hu ⟨_, e, R⟩)
def I_Mo_revokes : List (Nat × Instr × Nat) := [(0, .aload_n 0, 1), (1, .invokevirtual 96, 3), (4, .iload_n 1, 1), (5, .iconst 0, 1), (6, .invokestatic 57, 3), (9, .istore_n 2, 1), (10, .iload_n 2, 1), (11, .aload_n 0, 1), (12, .getfield 7, 3), (15, .bipush 41, 2), (17, .iaload, 1), (18, .iconst 1, 1), (19, .isub, 1), (20, .iconst 0, 1), (21, .invokestatic 57, 3), (24, .if_icmp .ge 23, 3), (27, .aload_n 0, 1), (28, .getfield 7, 3), (31, .iload_n 2, 1), (32, .aload_n 0, 1), (33, .getfield 7, 3), (36, .iload_n 2, 1), (37, .iconst 5, 1), (38, .iadd, 1), (39, .iaload, 1), (40, .iastore, 1), (41, .iinc 2 1, 3), (44, .goto (-34), 3), (47, .aload_n 0, 1), (48, .getfield 7, 3), (51, .bipush 41, 2), (53, .dup2, 1), (54, .iaload, 1), (55, .iconst 1, 1), (56, .isub, 1), (57, .iastore, 1), (58, .aload_n 0, 1), (59, .invokevirtual 88, 3), (62, .istore_n 2, 1), (63, .iload_n 2, 1), (64, .ifCond .le 7, 3), (67, .aload_n 0, 1), (68, .invokevirtual 99, 3), (71, .iload_n 2, 1), (72, .ireturn, 1)]
set_option maxRecDepth 100000 in
theorem d_Mo_revokes : decA cX11_revokes I_Mo_revokes = true := by decide +kernel
abbrev rm_Mo_revokes : Room := ({ frames := 6, cells := 0, slots := 0, locals := 147 } : Room)
def m_Mo_revokes_l10 (u : Nat) : (Int32 × KMem) → Option ((Int32 × KMem) ⊕ KMem) := fun (v2_5, M6) =>
 Option.bind (rdI M6 (u + 1) 108 41) fun x8 =>
 Option.bind (m_Mo_ofDecree (x8 - 1) 0) fun x10 =>
 if x10 ≤ v2_5 then
 (some (.inr M6))
 else
 (Option.bind (rdI M6 (u + 1) 108 (v2_5 + 5)) fun x13 =>
 Option.bind (wrI M6 (u + 1) 108 v2_5 x13) fun M15 =>
 some (.inl (v2_5 + 1, M15)))
def m_Mo_revokes (u : Nat) (p0 : Int32) (M : KMem) : Option (Int32 × KMem) :=
 Option.bind (m_Mo_keepsDecrees u M) fun M2 =>
 Option.bind (m_Mo_ofDecree p0 0) fun x4 =>
 Option.bind (α := KMem) (kLp (m_Mo_revokes_l10 u) kFU (x4, M2)) fun M16 =>
 Option.bind (rdI M16 (u + 1) 108 41) fun x18 =>
 Option.bind (wrI M16 (u + 1) 108 41 (x18 - 1)) fun M20 =>
 Option.bind (m_Mo_hindrance u M20) fun x22 =>
 Option.bind (α := KMem) (if x22 ≤ 0 then
 (some M20)
 else
 (Option.bind (m_Mo_restoresDecrees u M20) fun M27 =>
 some M27)) fun M23 =>
 some (x22, M23)
set_option maxHeartbeats 4000000 in
set_option maxRecDepth 100000 in
theorem b_Mo_revokes {X : KX} {B : KB} {L : KLay} {M : KMem} {u : Nat} {p0 : Int32} (G : Good X B RX11 cX11_revokes 3 rm_Mo_revokes) (hu : okL L u moT) (h : kOk (m_Mo_revokes u p0 M) (fun r => RI X B L 3 cX11_revokes .int rm_Mo_revokes r.1 r.2)) : KK X B L 3 0 0 M 0 [(0, .ref (B.1 + u)), (1, .int p0)] [] := by
  unfold m_Mo_revokes at h
  refine k_aload_n G (dc d_Mo_revokes 0 rfl) 0 rfl rfl ?_
  obtain ⟨M2, e1, h⟩ := kOk_b h
  refine k_cVV G (dc d_Mo_revokes 1 rfl) kc8 (okL_lt hu (o := 0) 0 rfl) (okL_k hu (o := 0) 0 rfl) mi_Mo_keepsDecrees mv_Mo_keepsDecrees rfl ml_RX11_96 (c_Mo_keepsDecrees (gst G) hu e1) rfl rfl ⟨rfl, rfl⟩ rfl ⟨rfl, rfl⟩ ⟨rfl, rfl⟩ ?_
  refine k_iload_n G (dc d_Mo_revokes 2 rfl) 1 rfl rfl ?_
  refine k_iconst G (dc d_Mo_revokes 3 rfl) cI_0 ?_
  obtain ⟨x4, e3, h⟩ := kOk_b h
  refine k_cSI G (dc d_Mo_revokes 4 rfl) mi_Mo_ofDecree ms_Mo_ofDecree ml_RX11_57 (c_Mo_ofDecree (gst G)  e3) rfl rfl ⟨rfl, rfl⟩ rfl ⟨rfl, rfl⟩ ⟨rfl, rfl⟩ ?_
  refine k_istore_n G (dc d_Mo_revokes 5 rfl) (ls' := [(2, .int x4), (0, .ref (B.1 + u)), (1, .int p0)]) rfl rfl rfl ?_
  refine kJ h (fun r28 => KK X B L 3 0 0 r28 47 [(0, .ref (B.1 + u))] []) (fun r28 h => ?_) (fun h => ?_)
  · obtain ⟨M16, rfl⟩ : ∃ z, z = r28 := ⟨_, rfl⟩
    show KK X B L 3 0 0 M16 47 [(0, .ref (B.1 + u))] []
    refine k_aload_n G (dc d_Mo_revokes 28 rfl) 0 rfl rfl ?_
    refine k_getR G kc8 (dc d_Mo_revokes 29 rfl) (okL_lt hu (o := 0) 0 rfl) (okL_k hu (o := 0) 0 rfl) 1 (by decide) rfl fl_RX11_7 (u + 1) (okL_r hu (o := 0) (c := 1) 0 rfl 0 rfl) ?_
    refine k_bipush G (dc d_Mo_revokes 30 rfl) cB_41 ?_
    refine k_dup2 G (dc d_Mo_revokes 31 rfl) rfl rfl ?_
    obtain ⟨x18, e17, h⟩ := kOk_b h
    refine k_ild G (dc d_Mo_revokes 32 rfl) (okL_lt hu (o := 1) 1 rfl) (okL_k hu (o := 1) 1 rfl) (okL_n hu (o := 1) 1 rfl) e17 ?_
    refine k_iconst G (dc d_Mo_revokes 33 rfl) cI_1 ?_
    refine k_isub G (dc d_Mo_revokes 34 rfl) ?_
    obtain ⟨M20, e19, h⟩ := kOk_b h
    refine k_ist G (dc d_Mo_revokes 35 rfl) (okL_lt hu (o := 1) 1 rfl) (okL_k hu (o := 1) 1 rfl) (okL_n hu (o := 1) 1 rfl) e19 ?_
    refine k_aload_n G (dc d_Mo_revokes 36 rfl) 0 rfl rfl ?_
    obtain ⟨x22, e21, h⟩ := kOk_b h
    refine k_cVI G (dc d_Mo_revokes 37 rfl) kc8 (okL_lt hu (o := 0) 0 rfl) (okL_k hu (o := 0) 0 rfl) mi_Mo_hindrance mv_Mo_hindrance rfl ml_RX11_88 (c_Mo_hindrance (gst G) hu e21) rfl rfl ⟨rfl, rfl⟩ rfl ⟨rfl, rfl⟩ ⟨rfl, rfl⟩ ?_
    refine k_istore_n G (dc d_Mo_revokes 38 rfl) (ls' := [(2, .int x22), (0, .ref (B.1 + u))]) rfl rfl rfl ?_
    refine k_iload_n G (dc d_Mo_revokes 39 rfl) 0 rfl rfl ?_
    refine kJ h (fun r24 => KK X B L 3 0 0 r24 71 [(2, .int x22)] []) (fun r24 h => ?_) (fun h => ?_)
    · obtain ⟨M23, rfl⟩ : ∃ z, z = r24 := ⟨_, rfl⟩
      show KK X B L 3 0 0 M23 71 [(2, .int x22)] []
      refine k_iload_n G (dc d_Mo_revokes 43 rfl) 0 rfl rfl ?_
      exact (kOk_s h) _ _ _ _ rfl rfl rfl (dc d_Mo_revokes 44 rfl)
    · refine k_if_le G (dc d_Mo_revokes 40 rfl) (tgt := 71) rfl (fun c25 => ?_) (fun c25 => ?_)
      · replace h := kOk_p c25 h
        refine k_sub [0] rfl ?_
        have h9 := kOk_s h
        exact h9
      · replace h := kOk_n c25 h
        refine k_aload_n G (dc d_Mo_revokes 41 rfl) 1 rfl rfl ?_
        obtain ⟨M27, e26, h⟩ := kOk_b h
        refine k_cVV G (dc d_Mo_revokes 42 rfl) kc8 (okL_lt hu (o := 0) 0 rfl) (okL_k hu (o := 0) 0 rfl) mi_Mo_restoresDecrees mv_Mo_restoresDecrees rfl ml_RX11_99 (c_Mo_restoresDecrees (gst G) hu e26) rfl rfl ⟨rfl, rfl⟩ rfl ⟨rfl, rfl⟩ ⟨rfl, rfl⟩ ?_
        refine k_sub [0] rfl ?_
        have h9 := kOk_s h
        exact h9
  · refine k_sub [1, 0] rfl ?_
    refine kLp_ok (P := fun s29 => KK X B L 3 0 0 s29.2 10 [(0, .ref (B.1 + u)), (2, .int s29.1)] []) (fun s29 h => ?_) kFU _ h
    obtain ⟨v2_5, M6⟩ := s29
    unfold m_Mo_revokes_l10 at h
    show KK X B L 3 0 0 M6 10 [(0, .ref (B.1 + u)), (2, .int v2_5)] []
    refine k_iload_n G (dc d_Mo_revokes 6 rfl) 1 rfl rfl ?_
    refine k_aload_n G (dc d_Mo_revokes 7 rfl) 0 rfl rfl ?_
    refine k_getR G kc8 (dc d_Mo_revokes 8 rfl) (okL_lt hu (o := 0) 0 rfl) (okL_k hu (o := 0) 0 rfl) 1 (by decide) rfl fl_RX11_7 (u + 1) (okL_r hu (o := 0) (c := 1) 0 rfl 0 rfl) ?_
    refine k_bipush G (dc d_Mo_revokes 9 rfl) cB_41 ?_
    obtain ⟨x8, e7, h⟩ := kOk_b h
    refine k_ild G (dc d_Mo_revokes 10 rfl) (okL_lt hu (o := 1) 1 rfl) (okL_k hu (o := 1) 1 rfl) (okL_n hu (o := 1) 1 rfl) e7 ?_
    refine k_iconst G (dc d_Mo_revokes 11 rfl) cI_1 ?_
    refine k_isub G (dc d_Mo_revokes 12 rfl) ?_
    refine k_iconst G (dc d_Mo_revokes 13 rfl) cI_0 ?_
    obtain ⟨x10, e9, h⟩ := kOk_b h
    refine k_cSI G (dc d_Mo_revokes 14 rfl) mi_Mo_ofDecree ms_Mo_ofDecree ml_RX11_57 (c_Mo_ofDecree (gst G)  e9) rfl rfl ⟨rfl, rfl⟩ rfl ⟨rfl, rfl⟩ ⟨rfl, rfl⟩ ?_
    refine k_icmp_ge G (dc d_Mo_revokes 15 rfl) (tgt := 47) rfl (fun c11 => ?_) (fun c11 => ?_)
    · replace h := kOk_p c11 h
      refine k_sub [0] rfl ?_
      have h9 := kOk_s h
      exact h9
    · replace h := kOk_n c11 h
      refine k_aload_n G (dc d_Mo_revokes 16 rfl) 0 rfl rfl ?_
      refine k_getR G kc8 (dc d_Mo_revokes 17 rfl) (okL_lt hu (o := 0) 0 rfl) (okL_k hu (o := 0) 0 rfl) 1 (by decide) rfl fl_RX11_7 (u + 1) (okL_r hu (o := 0) (c := 1) 0 rfl 0 rfl) ?_
      refine k_iload_n G (dc d_Mo_revokes 18 rfl) 1 rfl rfl ?_
      refine k_aload_n G (dc d_Mo_revokes 19 rfl) 0 rfl rfl ?_
      refine k_getR G kc8 (dc d_Mo_revokes 20 rfl) (okL_lt hu (o := 0) 0 rfl) (okL_k hu (o := 0) 0 rfl) 1 (by decide) rfl fl_RX11_7 (u + 1) (okL_r hu (o := 0) (c := 1) 0 rfl 0 rfl) ?_
      refine k_iload_n G (dc d_Mo_revokes 21 rfl) 1 rfl rfl ?_
      refine k_iconst G (dc d_Mo_revokes 22 rfl) cI_5 ?_
      refine k_iadd G (dc d_Mo_revokes 23 rfl) ?_
      obtain ⟨x13, e12, h⟩ := kOk_b h
      refine k_ild G (dc d_Mo_revokes 24 rfl) (okL_lt hu (o := 1) 1 rfl) (okL_k hu (o := 1) 1 rfl) (okL_n hu (o := 1) 1 rfl) e12 ?_
      obtain ⟨M15, e14, h⟩ := kOk_b h
      refine k_ist G (dc d_Mo_revokes 25 rfl) (okL_lt hu (o := 1) 1 rfl) (okL_k hu (o := 1) 1 rfl) (okL_n hu (o := 1) 1 rfl) e14 ?_
      refine k_iinc G (dc d_Mo_revokes 26 rfl) (ls' := [(2, .int (v2_5 + 1)), (0, .ref (B.1 + u))]) 1 rfl cI_1 rfl rfl ?_
      refine k_goto G (dc d_Mo_revokes 27 rfl) (tgt := 10) rfl ?_
      refine k_sub [1, 0] rfl ?_
      have h9 := kOk_s h
      exact h9
theorem c_Mo_revokes {l : Launch} {B : KB} {L : KLay} {M : KMem} {u : Nat} {p0 : Int32} (hst : l.stackTraces = false) (hu : okL L u moT) {r : Int32} {M' : KMem} (e : m_Mo_revokes u p0 M = some (r, M')) : CtrN l B yX11_revokes cX11_revokes 3 (some .int) rm_Mo_revokes [.ref (B.1 + u), .int p0] L M (some (.int r)) L M' :=
  mk_I rfl hst rfl (fun X hl G _ R => b_Mo_revokes G hu ⟨_, e, R⟩)
