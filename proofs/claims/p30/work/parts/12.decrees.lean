/-! laid by wip/p30/g30.py: De_canBe, De_has, De_areFull, De_number, De_add, De_remove, De_spellingWithout, De_spellingOf, De_copyFrom -/
def I_De_canBe : List (Nat × Instr × Nat) := [(0, .iload_n 0, 1), (1, .ifCond .lt 15, 3), (4, .iload_n 0, 1), (5, .iconst 2, 1), (6, .if_icmp .gt 10, 3), (9, .iload_n 1, 1), (10, .invokestatic 15, 3), (13, .ifCond .ne 5, 3), (16, .iconst 0, 1), (17, .ireturn, 1), (18, .iload_n 0, 1), (19, .iconst 1, 1), (20, .if_icmp .ne 23, 3), (23, .iload_n 2, 1), (24, .invokestatic 15, 3), (27, .ifCond .eq 14, 3), (30, .iload_n 3, 1), (31, .invokestatic 15, 3), (34, .ifCond .eq 7, 3), (37, .iconst 1, 1), (38, .goto 4, 3), (41, .iconst 0, 1), (42, .ireturn, 1), (43, .iload_n 2, 1), (44, .ifCond .ne 11, 3), (47, .iload_n 3, 1), (48, .ifCond .ne 7, 3), (51, .iconst 1, 1), (52, .goto 4, 3), (55, .iconst 0, 1), (56, .ireturn, 1)]
set_option maxRecDepth 100000 in
theorem d_De_canBe : decA cX0_canBe I_De_canBe = true := by decide +kernel
abbrev rm_De_canBe : Room := ({ frames := 1, cells := 0, slots := 0, locals := 20 } : Room)
def m_De_canBe (p0 : Int32) (p1 : Int32) (p2 : Int32) (p3 : Int32) : Option Int32 :=
 if p0 < 0 then
 (Option.bind (kz 0) fun z2 =>
 some z2)
 else
 (if 2 < p0 then
 (Option.bind (kz 0) fun z5 =>
 some z5)
 else
 (Option.bind (m_Wo_isLetter p1) fun x8 =>
 if x8 = 0 then
 (Option.bind (kz 0) fun z27 =>
 some z27)
 else
 (if p0 = 1 then
 (Option.bind (m_Wo_isLetter p2) fun x18 =>
 Option.bind (α := Int32) (if x18 = 0 then
 (some 0)
 else
 (Option.bind (m_Wo_isLetter p3) fun x25 =>
 if x25 = 0 then
 (some 0)
 else
 (some 1))) fun t19 =>
 Option.bind (kz t19) fun z21 =>
 some z21)
 else
 (Option.bind (α := Int32) (if p2 = 0 then
 (if p3 = 0 then
 (some 1)
 else
 (some 0))
 else
 (some 0)) fun t11 =>
 Option.bind (kz t11) fun z13 =>
 some z13))))
set_option maxHeartbeats 4000000 in
set_option maxRecDepth 100000 in
theorem b_De_canBe {X : KX} {B : KB} {L : KLay} {M : KMem} {p0 : Int32} {p1 : Int32} {p2 : Int32} {p3 : Int32} (G : Good X B RX0 cX0_canBe 4 rm_De_canBe)  (h : kOk (m_De_canBe p0 p1 p2 p3) (fun r => RI X B L 4 cX0_canBe .boolean rm_De_canBe r M)) : KK X B L 4 0 0 M 0 [(0, .int p0), (1, .int p1), (2, .int p2), (3, .int p3)] [] := by
  unfold m_De_canBe at h
  refine k_iload_n G (dc d_De_canBe 0 rfl) 0 rfl rfl ?_
  refine k_if_lt G (dc d_De_canBe 1 rfl) (tgt := 16) rfl (fun c1 => ?_) (fun c1 => ?_)
  · replace h := kOk_p c1 h
    refine k_iconst G (dc d_De_canBe 8 rfl) cI_0 ?_
    obtain ⟨z2, e3, h⟩ := kOk_b h
    obtain ⟨e3, nz2, -⟩ := kz_ok e3
    rw [e3]
    exact (kOk_s h) _ _ _ _ rfl rfl nz2 (dc d_De_canBe 9 rfl)
  · replace h := kOk_n c1 h
    refine k_iload_n G (dc d_De_canBe 2 rfl) 0 rfl rfl ?_
    refine k_iconst G (dc d_De_canBe 3 rfl) cI_2 ?_
    refine k_icmp_gt G (dc d_De_canBe 4 rfl) (tgt := 16) rfl (fun c4 => ?_) (fun c4 => ?_)
    · replace h := kOk_p c4 h
      refine k_iconst G (dc d_De_canBe 8 rfl) cI_0 ?_
      obtain ⟨z5, e6, h⟩ := kOk_b h
      obtain ⟨e6, nz5, -⟩ := kz_ok e6
      rw [e6]
      exact (kOk_s h) _ _ _ _ rfl rfl nz5 (dc d_De_canBe 9 rfl)
    · replace h := kOk_n c4 h
      refine k_iload_n G (dc d_De_canBe 5 rfl) 1 rfl rfl ?_
      obtain ⟨x8, e7, h⟩ := kOk_b h
      refine k_cSI G (dc d_De_canBe 6 rfl) mi_Wo_isLetter ms_Wo_isLetter ml_RX0_15 (c_Wo_isLetter (gst G)  e7) rfl rfl ⟨rfl, rfl⟩ rfl ⟨rfl, rfl⟩ ⟨rfl, rfl⟩ ?_
      refine k_if_ne G (dc d_De_canBe 7 rfl) (tgt := 18) rfl (fun c9 => ?_) (fun c9 => ?_)
      · replace h := kOk_n c9 h
        refine k_iload_n G (dc d_De_canBe 10 rfl) 0 rfl rfl ?_
        refine k_iconst G (dc d_De_canBe 11 rfl) cI_1 ?_
        refine k_icmp_ne G (dc d_De_canBe 12 rfl) (tgt := 43) rfl (fun c10 => ?_) (fun c10 => ?_)
        · replace h := kOk_n c10 h
          refine k_iload_n G (dc d_De_canBe 23 rfl) 2 rfl rfl ?_
          refine kJ h (fun r12 => KK X B L 4 0 0 M 56 [] [.int r12]) (fun r12 h => ?_) (fun h => ?_)
          · obtain ⟨t11, rfl⟩ : ∃ z, z = r12 := ⟨_, rfl⟩
            show KK X B L 4 0 0 M 56 [] [.int t11]
            obtain ⟨z13, e14, h⟩ := kOk_b h
            obtain ⟨e14, nz13, -⟩ := kz_ok e14
            rw [e14]
            exact (kOk_s h) _ _ _ _ rfl rfl nz13 (dc d_De_canBe 30 rfl)
          · refine k_if_ne G (dc d_De_canBe 24 rfl) (tgt := 55) rfl (fun c15 => ?_) (fun c15 => ?_)
            · replace h := kOk_n c15 h
              refine k_iconst G (dc d_De_canBe 29 rfl) cI_0 ?_
              refine k_sub [] rfl ?_
              have h9 := kOk_s h
              exact h9
            · replace h := kOk_p c15 h
              refine k_iload_n G (dc d_De_canBe 25 rfl) 3 rfl rfl ?_
              refine k_if_ne G (dc d_De_canBe 26 rfl) (tgt := 55) rfl (fun c16 => ?_) (fun c16 => ?_)
              · replace h := kOk_n c16 h
                refine k_iconst G (dc d_De_canBe 29 rfl) cI_0 ?_
                refine k_sub [] rfl ?_
                have h9 := kOk_s h
                exact h9
              · replace h := kOk_p c16 h
                refine k_iconst G (dc d_De_canBe 27 rfl) cI_1 ?_
                refine k_goto G (dc d_De_canBe 28 rfl) (tgt := 56) rfl ?_
                refine k_sub [] rfl ?_
                have h9 := kOk_s h
                exact h9
        · replace h := kOk_p c10 h
          refine k_iload_n G (dc d_De_canBe 13 rfl) 2 rfl rfl ?_
          obtain ⟨x18, e17, h⟩ := kOk_b h
          refine k_cSI G (dc d_De_canBe 14 rfl) mi_Wo_isLetter ms_Wo_isLetter ml_RX0_15 (c_Wo_isLetter (gst G)  e17) rfl rfl ⟨rfl, rfl⟩ rfl ⟨rfl, rfl⟩ ⟨rfl, rfl⟩ ?_
          refine kJ h (fun r20 => KK X B L 4 0 0 M 42 [] [.int r20]) (fun r20 h => ?_) (fun h => ?_)
          · obtain ⟨t19, rfl⟩ : ∃ z, z = r20 := ⟨_, rfl⟩
            show KK X B L 4 0 0 M 42 [] [.int t19]
            obtain ⟨z21, e22, h⟩ := kOk_b h
            obtain ⟨e22, nz21, -⟩ := kz_ok e22
            rw [e22]
            exact (kOk_s h) _ _ _ _ rfl rfl nz21 (dc d_De_canBe 22 rfl)
          · refine k_if_eq G (dc d_De_canBe 15 rfl) (tgt := 41) rfl (fun c23 => ?_) (fun c23 => ?_)
            · replace h := kOk_p c23 h
              refine k_iconst G (dc d_De_canBe 21 rfl) cI_0 ?_
              refine k_sub [] rfl ?_
              have h9 := kOk_s h
              exact h9
            · replace h := kOk_n c23 h
              refine k_iload_n G (dc d_De_canBe 16 rfl) 3 rfl rfl ?_
              obtain ⟨x25, e24, h⟩ := kOk_b h
              refine k_cSI G (dc d_De_canBe 17 rfl) mi_Wo_isLetter ms_Wo_isLetter ml_RX0_15 (c_Wo_isLetter (gst G)  e24) rfl rfl ⟨rfl, rfl⟩ rfl ⟨rfl, rfl⟩ ⟨rfl, rfl⟩ ?_
              refine k_if_eq G (dc d_De_canBe 18 rfl) (tgt := 41) rfl (fun c26 => ?_) (fun c26 => ?_)
              · replace h := kOk_p c26 h
                refine k_iconst G (dc d_De_canBe 21 rfl) cI_0 ?_
                refine k_sub [] rfl ?_
                have h9 := kOk_s h
                exact h9
              · replace h := kOk_n c26 h
                refine k_iconst G (dc d_De_canBe 19 rfl) cI_1 ?_
                refine k_goto G (dc d_De_canBe 20 rfl) (tgt := 42) rfl ?_
                refine k_sub [] rfl ?_
                have h9 := kOk_s h
                exact h9
      · replace h := kOk_p c9 h
        refine k_iconst G (dc d_De_canBe 8 rfl) cI_0 ?_
        obtain ⟨z27, e28, h⟩ := kOk_b h
        obtain ⟨e28, nz27, -⟩ := kz_ok e28
        rw [e28]
        exact (kOk_s h) _ _ _ _ rfl rfl nz27 (dc d_De_canBe 9 rfl)
theorem c_De_canBe {l : Launch} {B : KB} {L : KLay} {M : KMem} {p0 : Int32} {p1 : Int32} {p2 : Int32} {p3 : Int32} (hst : l.stackTraces = false)  {r : Int32} (e : m_De_canBe p0 p1 p2 p3 = some r) : CtrN l B yX0_canBe cX0_canBe 4 (some .boolean) rm_De_canBe [.int p0, .int p1, .int p2, .int p3] L M (some (.int r)) L M :=
  mk_I rfl hst rfl (fun X hl G _ R => b_De_canBe G  ⟨_, e, R⟩)
def I_De_has : List (Nat × Instr × Nat) := [(0, .iload_n 1, 1), (1, .ifCond .lt 21, 3), (4, .iload_n 1, 1), (5, .aload_n 0, 1), (6, .getfield 21, 3), (9, .if_icmp .ge 13, 3), (12, .iload_n 1, 1), (13, .bipush 10, 2), (15, .if_icmp .ge 7, 3), (18, .iconst 1, 1), (19, .goto 4, 3), (22, .iconst 0, 1), (23, .ireturn, 1)]
set_option maxRecDepth 100000 in
theorem d_De_has : decA cX0_has I_De_has = true := by decide +kernel
abbrev rm_De_has : Room := ({ frames := 0, cells := 0, slots := 0, locals := 0 } : Room)
def m_De_has (u : Nat) (p0 : Int32) (M : KMem) : Option Int32 :=
 Option.bind (α := Int32) (if p0 < 0 then
 (some 0)
 else
 (if (M u 0) ≤ p0 then
 (some 0)
 else
 (if 10 ≤ p0 then
 (some 0)
 else
 (some 1)))) fun t1 =>
 Option.bind (kz t1) fun z3 =>
 some z3
set_option maxHeartbeats 4000000 in
set_option maxRecDepth 100000 in
theorem b_De_has {X : KX} {B : KB} {L : KLay} {M : KMem} {u : Nat} {p0 : Int32} (G : Good X B RX0 cX0_has 2 rm_De_has) (hu : okL L u deT) (h : kOk (m_De_has u p0 M) (fun r => RI X B L 2 cX0_has .boolean rm_De_has r M)) : KK X B L 2 0 0 M 0 [(0, .ref (B.1 + u)), (1, .int p0)] [] := by
  unfold m_De_has at h
  refine k_iload_n G (dc d_De_has 0 rfl) 1 rfl rfl ?_
  refine kJ h (fun r2 => KK X B L 2 0 0 M 23 [] [.int r2]) (fun r2 h => ?_) (fun h => ?_)
  · obtain ⟨t1, rfl⟩ : ∃ z, z = r2 := ⟨_, rfl⟩
    show KK X B L 2 0 0 M 23 [] [.int t1]
    obtain ⟨z3, e4, h⟩ := kOk_b h
    obtain ⟨e4, nz3, -⟩ := kz_ok e4
    rw [e4]
    exact (kOk_s h) _ _ _ _ rfl rfl nz3 (dc d_De_has 12 rfl)
  · refine k_if_lt G (dc d_De_has 1 rfl) (tgt := 22) rfl (fun c5 => ?_) (fun c5 => ?_)
    · replace h := kOk_p c5 h
      refine k_iconst G (dc d_De_has 11 rfl) cI_0 ?_
      refine k_sub [] rfl ?_
      have h9 := kOk_s h
      exact h9
    · replace h := kOk_n c5 h
      refine k_iload_n G (dc d_De_has 2 rfl) 1 rfl rfl ?_
      refine k_aload_n G (dc d_De_has 3 rfl) 0 rfl rfl ?_
      refine k_getI G kc0 (dc d_De_has 4 rfl) (okL_lt hu (o := 0) 0 rfl) (okL_k hu (o := 0) 0 rfl) 0 (by decide) rfl fl_RX0_21 ?_
      refine k_icmp_ge G (dc d_De_has 5 rfl) (tgt := 22) rfl (fun c6 => ?_) (fun c6 => ?_)
      · replace h := kOk_p c6 h
        refine k_iconst G (dc d_De_has 11 rfl) cI_0 ?_
        refine k_sub [] rfl ?_
        have h9 := kOk_s h
        exact h9
      · replace h := kOk_n c6 h
        refine k_iload_n G (dc d_De_has 6 rfl) 1 rfl rfl ?_
        refine k_bipush G (dc d_De_has 7 rfl) cB_10 ?_
        refine k_icmp_ge G (dc d_De_has 8 rfl) (tgt := 22) rfl (fun c7 => ?_) (fun c7 => ?_)
        · replace h := kOk_p c7 h
          refine k_iconst G (dc d_De_has 11 rfl) cI_0 ?_
          refine k_sub [] rfl ?_
          have h9 := kOk_s h
          exact h9
        · replace h := kOk_n c7 h
          refine k_iconst G (dc d_De_has 9 rfl) cI_1 ?_
          refine k_goto G (dc d_De_has 10 rfl) (tgt := 23) rfl ?_
          refine k_sub [] rfl ?_
          have h9 := kOk_s h
          exact h9
theorem c_De_has {l : Launch} {B : KB} {L : KLay} {M : KMem} {u : Nat} {p0 : Int32} (hst : l.stackTraces = false) (hu : okL L u deT) {r : Int32} (e : m_De_has u p0 M = some r) : CtrN l B yX0_has cX0_has 2 (some .boolean) rm_De_has [.ref (B.1 + u), .int p0] L M (some (.int r)) L M :=
  mk_I rfl hst rfl (fun X hl G _ R => b_De_has G hu ⟨_, e, R⟩)
def I_De_areFull : List (Nat × Instr × Nat) := [(0, .aload_n 0, 1), (1, .getfield 21, 3), (4, .bipush 10, 2), (6, .if_icmp .lt 7, 3), (9, .iconst 1, 1), (10, .goto 4, 3), (13, .iconst 0, 1), (14, .ireturn, 1)]
set_option maxRecDepth 100000 in
theorem d_De_areFull : decA cX0_areFull I_De_areFull = true := by decide +kernel
abbrev rm_De_areFull : Room := ({ frames := 0, cells := 0, slots := 0, locals := 0 } : Room)
def m_De_areFull (u : Nat) (M : KMem) : Option Int32 :=
 Option.bind (α := Int32) (if (M u 0) < 10 then
 (some 0)
 else
 (some 1)) fun t1 =>
 Option.bind (kz t1) fun z3 =>
 some z3
set_option maxHeartbeats 4000000 in
set_option maxRecDepth 100000 in
theorem b_De_areFull {X : KX} {B : KB} {L : KLay} {M : KMem} {u : Nat} (G : Good X B RX0 cX0_areFull 1 rm_De_areFull) (hu : okL L u deT) (h : kOk (m_De_areFull u M) (fun r => RI X B L 1 cX0_areFull .boolean rm_De_areFull r M)) : KK X B L 1 0 0 M 0 [(0, .ref (B.1 + u))] [] := by
  unfold m_De_areFull at h
  refine k_aload_n G (dc d_De_areFull 0 rfl) 0 rfl rfl ?_
  refine k_getI G kc0 (dc d_De_areFull 1 rfl) (okL_lt hu (o := 0) 0 rfl) (okL_k hu (o := 0) 0 rfl) 0 (by decide) rfl fl_RX0_21 ?_
  refine k_bipush G (dc d_De_areFull 2 rfl) cB_10 ?_
  refine kJ h (fun r2 => KK X B L 1 0 0 M 14 [] [.int r2]) (fun r2 h => ?_) (fun h => ?_)
  · obtain ⟨t1, rfl⟩ : ∃ z, z = r2 := ⟨_, rfl⟩
    show KK X B L 1 0 0 M 14 [] [.int t1]
    obtain ⟨z3, e4, h⟩ := kOk_b h
    obtain ⟨e4, nz3, -⟩ := kz_ok e4
    rw [e4]
    exact (kOk_s h) _ _ _ _ rfl rfl nz3 (dc d_De_areFull 7 rfl)
  · refine k_icmp_lt G (dc d_De_areFull 3 rfl) (tgt := 13) rfl (fun c5 => ?_) (fun c5 => ?_)
    · replace h := kOk_p c5 h
      refine k_iconst G (dc d_De_areFull 6 rfl) cI_0 ?_
      refine k_sub [] rfl ?_
      have h9 := kOk_s h
      exact h9
    · replace h := kOk_n c5 h
      refine k_iconst G (dc d_De_areFull 4 rfl) cI_1 ?_
      refine k_goto G (dc d_De_areFull 5 rfl) (tgt := 14) rfl ?_
      refine k_sub [] rfl ?_
      have h9 := kOk_s h
      exact h9
theorem c_De_areFull {l : Launch} {B : KB} {L : KLay} {M : KMem} {u : Nat} (hst : l.stackTraces = false) (hu : okL L u deT) {r : Int32} (e : m_De_areFull u M = some r) : CtrN l B yX0_areFull cX0_areFull 1 (some .boolean) rm_De_areFull [.ref (B.1 + u)] L M (some (.int r)) L M :=
  mk_I rfl hst rfl (fun X hl G _ R => b_De_areFull G hu ⟨_, e, R⟩)
def I_De_number : List (Nat × Instr × Nat) := [(0, .aload_n 0, 1), (1, .iload_n 1, 1), (2, .invokevirtual 25, 3), (5, .ifCond .eq 12, 3), (8, .iload_n 2, 1), (9, .ifCond .lt 8, 3), (12, .iload_n 2, 1), (13, .iconst 5, 1), (14, .if_icmp .lt 5, 3), (17, .iconst 0, 1), (18, .ireturn, 1), (19, .aload_n 0, 1), (20, .getfield 11, 3), (23, .iload_n 1, 1), (24, .iconst 5, 1), (25, .imul, 1), (26, .iload_n 2, 1), (27, .iadd, 1), (28, .iaload, 1), (29, .ireturn, 1)]
set_option maxRecDepth 100000 in
theorem d_De_number : decA cX0_number I_De_number = true := by decide +kernel
abbrev rm_De_number : Room := ({ frames := 1, cells := 0, slots := 0, locals := 21 } : Room)
def m_De_number (u : Nat) (p0 : Int32) (p1 : Int32) (M : KMem) : Option Int32 :=
 Option.bind (m_De_has u p0 M) fun x2 =>
 if x2 = 0 then
 (some 0)
 else
 (if p1 < 0 then
 (some 0)
 else
 (if p1 < 5 then
 (Option.bind (rdI M (u + 1) 50 ((p0 * 5) + p1)) fun x7 =>
 some x7)
 else
 (some 0)))
set_option maxHeartbeats 4000000 in
set_option maxRecDepth 100000 in
theorem b_De_number {X : KX} {B : KB} {L : KLay} {M : KMem} {u : Nat} {p0 : Int32} {p1 : Int32} (G : Good X B RX0 cX0_number 3 rm_De_number) (hu : okL L u deT) (h : kOk (m_De_number u p0 p1 M) (fun r => RI X B L 3 cX0_number .int rm_De_number r M)) : KK X B L 3 0 0 M 0 [(0, .ref (B.1 + u)), (1, .int p0), (2, .int p1)] [] := by
  unfold m_De_number at h
  refine k_aload_n G (dc d_De_number 0 rfl) 0 rfl rfl ?_
  refine k_iload_n G (dc d_De_number 1 rfl) 1 rfl rfl ?_
  obtain ⟨x2, e1, h⟩ := kOk_b h
  refine k_cVI G (dc d_De_number 2 rfl) kc0 (okL_lt hu (o := 0) 0 rfl) (okL_k hu (o := 0) 0 rfl) mi_De_has mv_De_has rfl ml_RX0_25 (c_De_has (gst G) hu e1) rfl rfl ⟨rfl, rfl⟩ rfl ⟨rfl, rfl⟩ ⟨rfl, rfl⟩ ?_
  refine k_if_eq G (dc d_De_number 3 rfl) (tgt := 17) rfl (fun c3 => ?_) (fun c3 => ?_)
  · replace h := kOk_p c3 h
    refine k_iconst G (dc d_De_number 9 rfl) cI_0 ?_
    exact (kOk_s h) _ _ _ _ rfl rfl rfl (dc d_De_number 10 rfl)
  · replace h := kOk_n c3 h
    refine k_iload_n G (dc d_De_number 4 rfl) 2 rfl rfl ?_
    refine k_if_lt G (dc d_De_number 5 rfl) (tgt := 17) rfl (fun c4 => ?_) (fun c4 => ?_)
    · replace h := kOk_p c4 h
      refine k_iconst G (dc d_De_number 9 rfl) cI_0 ?_
      exact (kOk_s h) _ _ _ _ rfl rfl rfl (dc d_De_number 10 rfl)
    · replace h := kOk_n c4 h
      refine k_iload_n G (dc d_De_number 6 rfl) 2 rfl rfl ?_
      refine k_iconst G (dc d_De_number 7 rfl) cI_5 ?_
      refine k_icmp_lt G (dc d_De_number 8 rfl) (tgt := 19) rfl (fun c5 => ?_) (fun c5 => ?_)
      · replace h := kOk_p c5 h
        refine k_aload_n G (dc d_De_number 11 rfl) 0 rfl rfl ?_
        refine k_getR G kc0 (dc d_De_number 12 rfl) (okL_lt hu (o := 0) 0 rfl) (okL_k hu (o := 0) 0 rfl) 1 (by decide) rfl fl_RX0_11 (u + 1) (okL_r hu (o := 0) (c := 1) 0 rfl 0 rfl) ?_
        refine k_iload_n G (dc d_De_number 13 rfl) 1 rfl rfl ?_
        refine k_iconst G (dc d_De_number 14 rfl) cI_5 ?_
        refine k_imul G (dc d_De_number 15 rfl) ?_
        refine k_iload_n G (dc d_De_number 16 rfl) 2 rfl rfl ?_
        refine k_iadd G (dc d_De_number 17 rfl) ?_
        obtain ⟨x7, e6, h⟩ := kOk_b h
        refine k_ild G (dc d_De_number 18 rfl) (okL_lt hu (o := 1) 1 rfl) (okL_k hu (o := 1) 1 rfl) (okL_n hu (o := 1) 1 rfl) e6 ?_
        exact (kOk_s h) _ _ _ _ rfl rfl rfl (dc d_De_number 19 rfl)
      · replace h := kOk_n c5 h
        refine k_iconst G (dc d_De_number 9 rfl) cI_0 ?_
        exact (kOk_s h) _ _ _ _ rfl rfl rfl (dc d_De_number 10 rfl)
theorem c_De_number {l : Launch} {B : KB} {L : KLay} {M : KMem} {u : Nat} {p0 : Int32} {p1 : Int32} (hst : l.stackTraces = false) (hu : okL L u deT) {r : Int32} (e : m_De_number u p0 p1 M = some r) : CtrN l B yX0_number cX0_number 3 (some .int) rm_De_number [.ref (B.1 + u), .int p0, .int p1] L M (some (.int r)) L M :=
  mk_I rfl hst rfl (fun X hl G _ R => b_De_number G hu ⟨_, e, R⟩)
def I_De_add : List (Nat × Instr × Nat) := [(0, .aload_n 0, 1), (1, .invokevirtual 28, 3), (4, .ifCond .eq 4, 3), (7, .return_, 1), (8, .aload_n 0, 1), (9, .getfield 21, 3), (12, .iconst 5, 1), (13, .imul, 1), (14, .istore 6, 2), (16, .aload_n 0, 1), (17, .getfield 11, 3), (20, .iload 6, 2), (22, .iload_n 1, 1), (23, .iastore, 1), (24, .aload_n 0, 1), (25, .getfield 11, 3), (28, .iload 6, 2), (30, .iconst 1, 1), (31, .iadd, 1), (32, .iload_n 2, 1), (33, .iastore, 1), (34, .aload_n 0, 1), (35, .getfield 11, 3), (38, .iload 6, 2), (40, .iconst 2, 1), (41, .iadd, 1), (42, .iload_n 3, 1), (43, .iastore, 1), (44, .aload_n 0, 1), (45, .getfield 11, 3), (48, .iload 6, 2), (50, .iconst 3, 1), (51, .iadd, 1), (52, .iload 4, 2), (54, .iastore, 1), (55, .aload_n 0, 1), (56, .getfield 11, 3), (59, .iload 6, 2), (61, .iconst 4, 1), (62, .iadd, 1), (63, .iload 5, 2), (65, .iastore, 1), (66, .aload_n 0, 1), (67, .dup, 1), (68, .getfield 21, 3), (71, .iconst 1, 1), (72, .iadd, 1), (73, .putfield 21, 3), (76, .return_, 1)]
set_option maxRecDepth 100000 in
theorem d_De_add : decA cX0_add I_De_add = true := by decide +kernel
abbrev rm_De_add : Room := ({ frames := 1, cells := 0, slots := 0, locals := 20 } : Room)
def m_De_add (u : Nat) (p0 : Int32) (p1 : Int32) (p2 : Int32) (p3 : Int32) (p4 : Int32) (M : KMem) : Option KMem :=
 Option.bind (m_De_areFull u M) fun x2 =>
 if x2 = 0 then
 (Option.bind (wrI M (u + 1) 50 ((M u 0) * 5) p0) fun M5 =>
 Option.bind (wrI M5 (u + 1) 50 (((M u 0) * 5) + 1) p1) fun M7 =>
 Option.bind (wrI M7 (u + 1) 50 (((M u 0) * 5) + 2) p2) fun M9 =>
 Option.bind (wrI M9 (u + 1) 50 (((M u 0) * 5) + 3) p3) fun M11 =>
 Option.bind (wrI M11 (u + 1) 50 (((M u 0) * 5) + 4) p4) fun M13 =>
 Option.bind (some (kup M13 u 0 ((M13 u 0) + 1))) fun M15 =>
 some M15)
 else
 (some M)
set_option maxHeartbeats 4000000 in
set_option maxRecDepth 100000 in
theorem b_De_add {X : KX} {B : KB} {L : KLay} {M : KMem} {u : Nat} {p0 : Int32} {p1 : Int32} {p2 : Int32} {p3 : Int32} {p4 : Int32} (G : Good X B RX0 cX0_add 7 rm_De_add) (hu : okL L u deT) (h : kOk (m_De_add u p0 p1 p2 p3 p4 M) (fun r => RV X B L 7 cX0_add rm_De_add r)) : KK X B L 7 0 0 M 0 [(0, .ref (B.1 + u)), (1, .int p0), (2, .int p1), (3, .int p2), (4, .int p3), (5, .int p4)] [] := by
  unfold m_De_add at h
  refine k_aload_n G (dc d_De_add 0 rfl) 0 rfl rfl ?_
  obtain ⟨x2, e1, h⟩ := kOk_b h
  refine k_cVI G (dc d_De_add 1 rfl) kc0 (okL_lt hu (o := 0) 0 rfl) (okL_k hu (o := 0) 0 rfl) mi_De_areFull mv_De_areFull rfl ml_RX0_28 (c_De_areFull (gst G) hu e1) rfl rfl ⟨rfl, rfl⟩ rfl ⟨rfl, rfl⟩ ⟨rfl, rfl⟩ ?_
  refine k_if_eq G (dc d_De_add 2 rfl) (tgt := 8) rfl (fun c3 => ?_) (fun c3 => ?_)
  · replace h := kOk_p c3 h
    refine k_aload_n G (dc d_De_add 4 rfl) 0 rfl rfl ?_
    refine k_getI G kc0 (dc d_De_add 5 rfl) (okL_lt hu (o := 0) 0 rfl) (okL_k hu (o := 0) 0 rfl) 0 (by decide) rfl fl_RX0_21 ?_
    refine k_iconst G (dc d_De_add 6 rfl) cI_5 ?_
    refine k_imul G (dc d_De_add 7 rfl) ?_
    refine k_istore G (dc d_De_add 8 rfl) (ls' := [(6, .int ((M u 0) * 5)), (0, .ref (B.1 + u)), (1, .int p0), (2, .int p1), (3, .int p2), (4, .int p3), (5, .int p4)]) rfl rfl ?_
    refine k_aload_n G (dc d_De_add 9 rfl) 1 rfl rfl ?_
    refine k_getR G kc0 (dc d_De_add 10 rfl) (okL_lt hu (o := 0) 0 rfl) (okL_k hu (o := 0) 0 rfl) 1 (by decide) rfl fl_RX0_11 (u + 1) (okL_r hu (o := 0) (c := 1) 0 rfl 0 rfl) ?_
    refine k_iload G (dc d_De_add 11 rfl) 0 rfl ?_
    refine k_iload_n G (dc d_De_add 12 rfl) 2 rfl rfl ?_
    obtain ⟨M5, e4, h⟩ := kOk_b h
    refine k_ist G (dc d_De_add 13 rfl) (okL_lt hu (o := 1) 1 rfl) (okL_k hu (o := 1) 1 rfl) (okL_n hu (o := 1) 1 rfl) e4 ?_
    refine k_aload_n G (dc d_De_add 14 rfl) 1 rfl rfl ?_
    refine k_getR G kc0 (dc d_De_add 15 rfl) (okL_lt hu (o := 0) 0 rfl) (okL_k hu (o := 0) 0 rfl) 1 (by decide) rfl fl_RX0_11 (u + 1) (okL_r hu (o := 0) (c := 1) 0 rfl 0 rfl) ?_
    refine k_iload G (dc d_De_add 16 rfl) 0 rfl ?_
    refine k_iconst G (dc d_De_add 17 rfl) cI_1 ?_
    refine k_iadd G (dc d_De_add 18 rfl) ?_
    refine k_iload_n G (dc d_De_add 19 rfl) 3 rfl rfl ?_
    obtain ⟨M7, e6, h⟩ := kOk_b h
    refine k_ist G (dc d_De_add 20 rfl) (okL_lt hu (o := 1) 1 rfl) (okL_k hu (o := 1) 1 rfl) (okL_n hu (o := 1) 1 rfl) e6 ?_
    refine k_aload_n G (dc d_De_add 21 rfl) 1 rfl rfl ?_
    refine k_getR G kc0 (dc d_De_add 22 rfl) (okL_lt hu (o := 0) 0 rfl) (okL_k hu (o := 0) 0 rfl) 1 (by decide) rfl fl_RX0_11 (u + 1) (okL_r hu (o := 0) (c := 1) 0 rfl 0 rfl) ?_
    refine k_iload G (dc d_De_add 23 rfl) 0 rfl ?_
    refine k_iconst G (dc d_De_add 24 rfl) cI_2 ?_
    refine k_iadd G (dc d_De_add 25 rfl) ?_
    refine k_iload_n G (dc d_De_add 26 rfl) 4 rfl rfl ?_
    obtain ⟨M9, e8, h⟩ := kOk_b h
    refine k_ist G (dc d_De_add 27 rfl) (okL_lt hu (o := 1) 1 rfl) (okL_k hu (o := 1) 1 rfl) (okL_n hu (o := 1) 1 rfl) e8 ?_
    refine k_aload_n G (dc d_De_add 28 rfl) 1 rfl rfl ?_
    refine k_getR G kc0 (dc d_De_add 29 rfl) (okL_lt hu (o := 0) 0 rfl) (okL_k hu (o := 0) 0 rfl) 1 (by decide) rfl fl_RX0_11 (u + 1) (okL_r hu (o := 0) (c := 1) 0 rfl 0 rfl) ?_
    refine k_iload G (dc d_De_add 30 rfl) 0 rfl ?_
    refine k_iconst G (dc d_De_add 31 rfl) cI_3 ?_
    refine k_iadd G (dc d_De_add 32 rfl) ?_
    refine k_iload G (dc d_De_add 33 rfl) 5 rfl ?_
    obtain ⟨M11, e10, h⟩ := kOk_b h
    refine k_ist G (dc d_De_add 34 rfl) (okL_lt hu (o := 1) 1 rfl) (okL_k hu (o := 1) 1 rfl) (okL_n hu (o := 1) 1 rfl) e10 ?_
    refine k_aload_n G (dc d_De_add 35 rfl) 1 rfl rfl ?_
    refine k_getR G kc0 (dc d_De_add 36 rfl) (okL_lt hu (o := 0) 0 rfl) (okL_k hu (o := 0) 0 rfl) 1 (by decide) rfl fl_RX0_11 (u + 1) (okL_r hu (o := 0) (c := 1) 0 rfl 0 rfl) ?_
    refine k_iload G (dc d_De_add 37 rfl) 0 rfl ?_
    refine k_iconst G (dc d_De_add 38 rfl) cI_4 ?_
    refine k_iadd G (dc d_De_add 39 rfl) ?_
    refine k_iload G (dc d_De_add 40 rfl) 6 rfl ?_
    obtain ⟨M13, e12, h⟩ := kOk_b h
    refine k_ist G (dc d_De_add 41 rfl) (okL_lt hu (o := 1) 1 rfl) (okL_k hu (o := 1) 1 rfl) (okL_n hu (o := 1) 1 rfl) e12 ?_
    refine k_aload_n G (dc d_De_add 42 rfl) 1 rfl rfl ?_
    refine k_dup G (dc d_De_add 43 rfl) rfl ?_
    refine k_getI G kc0 (dc d_De_add 44 rfl) (okL_lt hu (o := 0) 0 rfl) (okL_k hu (o := 0) 0 rfl) 0 (by decide) rfl fl_RX0_21 ?_
    refine k_iconst G (dc d_De_add 45 rfl) cI_1 ?_
    refine k_iadd G (dc d_De_add 46 rfl) ?_
    obtain ⟨M15, e14, h⟩ := kOk_b h
    refine k_putI G kc0 (dc d_De_add 47 rfl) (okL_lt hu (o := 0) 0 rfl) (okL_k hu (o := 0) 0 rfl) 0 (by decide) rfl rfl fl_RX0_21 rfl rfl e14 ?_
    exact (kOk_s h) _ _ _ _ rfl rfl (dc d_De_add 48 rfl)
  · replace h := kOk_n c3 h
    exact (kOk_s h) _ _ _ _ rfl rfl (dc d_De_add 3 rfl)
theorem c_De_add {l : Launch} {B : KB} {L : KLay} {M : KMem} {u : Nat} {p0 : Int32} {p1 : Int32} {p2 : Int32} {p3 : Int32} {p4 : Int32} (hst : l.stackTraces = false) (hu : okL L u deT) {M' : KMem} (e : m_De_add u p0 p1 p2 p3 p4 M = some M') : CtrN l B yX0_add cX0_add 7 none rm_De_add [.ref (B.1 + u), .int p0, .int p1, .int p2, .int p3, .int p4] L M none L M' :=
  mk_V rfl hst rfl (fun X hl G _ R => b_De_add G hu ⟨_, e, R⟩)
def I_De_remove : List (Nat × Instr × Nat) := [(0, .aload_n 0, 1), (1, .iload_n 1, 1), (2, .invokevirtual 25, 3), (5, .ifCond .ne 4, 3), (8, .return_, 1), (9, .aload_n 0, 1), (10, .getfield 21, 3), (13, .iconst 1, 1), (14, .isub, 1), (15, .iload_n 1, 1), (16, .isub, 1), (17, .istore_n 2, 1), (18, .aload_n 0, 1), (19, .getfield 11, 3), (22, .iload_n 1, 1), (23, .iconst 1, 1), (24, .iadd, 1), (25, .iconst 5, 1), (26, .imul, 1), (27, .aload_n 0, 1), (28, .getfield 11, 3), (31, .iload_n 1, 1), (32, .iconst 5, 1), (33, .imul, 1), (34, .iload_n 2, 1), (35, .iconst 5, 1), (36, .imul, 1), (37, .invokestatic 32, 3), (40, .aload_n 0, 1), (41, .dup, 1), (42, .getfield 21, 3), (45, .iconst 1, 1), (46, .isub, 1), (47, .putfield 21, 3), (50, .return_, 1)]
set_option maxRecDepth 100000 in
theorem d_De_remove : decA cX0_remove I_De_remove = true := by decide +kernel
abbrev rm_De_remove : Room := ({ frames := 1, cells := 0, slots := 0, locals := 60 } : Room)
def m_De_remove (u : Nat) (p0 : Int32) (M : KMem) : Option KMem :=
 Option.bind (m_De_has u p0 M) fun x2 =>
 if x2 = 0 then
 (some M)
 else
 (Option.bind (cpI M (u + 1) 50 (u + 1) 50 ((p0 + 1) * 5) (p0 * 5) ((((M u 0) - 1) - p0) * 5)) fun M5 =>
 Option.bind (some (kup M5 u 0 ((M5 u 0) - 1))) fun M7 =>
 some M7)
set_option maxHeartbeats 4000000 in
set_option maxRecDepth 100000 in
theorem b_De_remove {X : KX} {B : KB} {L : KLay} {M : KMem} {u : Nat} {p0 : Int32} (G : Good X B RX0 cX0_remove 3 rm_De_remove) (hx : B.2.2.2 = false) (hu : okL L u deT) (h : kOk (m_De_remove u p0 M) (fun r => RV X B L 3 cX0_remove rm_De_remove r)) : KK X B L 3 0 0 M 0 [(0, .ref (B.1 + u)), (1, .int p0)] [] := by
  unfold m_De_remove at h
  refine k_aload_n G (dc d_De_remove 0 rfl) 0 rfl rfl ?_
  refine k_iload_n G (dc d_De_remove 1 rfl) 1 rfl rfl ?_
  obtain ⟨x2, e1, h⟩ := kOk_b h
  refine k_cVI G (dc d_De_remove 2 rfl) kc0 (okL_lt hu (o := 0) 0 rfl) (okL_k hu (o := 0) 0 rfl) mi_De_has mv_De_has rfl ml_RX0_25 (c_De_has (gst G) hu e1) rfl rfl ⟨rfl, rfl⟩ rfl ⟨rfl, rfl⟩ ⟨rfl, rfl⟩ ?_
  refine k_if_ne G (dc d_De_remove 3 rfl) (tgt := 9) rfl (fun c3 => ?_) (fun c3 => ?_)
  · replace h := kOk_n c3 h
    refine k_aload_n G (dc d_De_remove 5 rfl) 0 rfl rfl ?_
    refine k_getI G kc0 (dc d_De_remove 6 rfl) (okL_lt hu (o := 0) 0 rfl) (okL_k hu (o := 0) 0 rfl) 0 (by decide) rfl fl_RX0_21 ?_
    refine k_iconst G (dc d_De_remove 7 rfl) cI_1 ?_
    refine k_isub G (dc d_De_remove 8 rfl) ?_
    refine k_iload_n G (dc d_De_remove 9 rfl) 1 rfl rfl ?_
    refine k_isub G (dc d_De_remove 10 rfl) ?_
    refine k_istore_n G (dc d_De_remove 11 rfl) (ls' := [(2, .int (((M u 0) - 1) - p0)), (0, .ref (B.1 + u)), (1, .int p0)]) rfl rfl rfl ?_
    refine k_aload_n G (dc d_De_remove 12 rfl) 1 rfl rfl ?_
    refine k_getR G kc0 (dc d_De_remove 13 rfl) (okL_lt hu (o := 0) 0 rfl) (okL_k hu (o := 0) 0 rfl) 1 (by decide) rfl fl_RX0_11 (u + 1) (okL_r hu (o := 0) (c := 1) 0 rfl 0 rfl) ?_
    refine k_iload_n G (dc d_De_remove 14 rfl) 2 rfl rfl ?_
    refine k_iconst G (dc d_De_remove 15 rfl) cI_1 ?_
    refine k_iadd G (dc d_De_remove 16 rfl) ?_
    refine k_iconst G (dc d_De_remove 17 rfl) cI_5 ?_
    refine k_imul G (dc d_De_remove 18 rfl) ?_
    refine k_aload_n G (dc d_De_remove 19 rfl) 1 rfl rfl ?_
    refine k_getR G kc0 (dc d_De_remove 20 rfl) (okL_lt hu (o := 0) 0 rfl) (okL_k hu (o := 0) 0 rfl) 1 (by decide) rfl fl_RX0_11 (u + 1) (okL_r hu (o := 0) (c := 1) 0 rfl 0 rfl) ?_
    refine k_iload_n G (dc d_De_remove 21 rfl) 2 rfl rfl ?_
    refine k_iconst G (dc d_De_remove 22 rfl) cI_5 ?_
    refine k_imul G (dc d_De_remove 23 rfl) ?_
    refine k_iload_n G (dc d_De_remove 24 rfl) 0 rfl rfl ?_
    refine k_iconst G (dc d_De_remove 25 rfl) cI_5 ?_
    refine k_imul G (dc d_De_remove 26 rfl) ?_
    obtain ⟨M5, e4, h⟩ := kOk_b h
    refine k_copy G hx (dc d_De_remove 27 rfl) ml_RX0_32 syscopy ⟨rfl, rfl⟩ (okL_lt hu (o := 1) 1 rfl) (okL_k hu (o := 1) 1 rfl) (okL_n hu (o := 1) 1 rfl) (okL_lt hu (o := 1) 1 rfl) (okL_k hu (o := 1) 1 rfl) (okL_n hu (o := 1) 1 rfl) e4 ?_
    refine k_aload_n G (dc d_De_remove 28 rfl) 1 rfl rfl ?_
    refine k_dup G (dc d_De_remove 29 rfl) rfl ?_
    refine k_getI G kc0 (dc d_De_remove 30 rfl) (okL_lt hu (o := 0) 0 rfl) (okL_k hu (o := 0) 0 rfl) 0 (by decide) rfl fl_RX0_21 ?_
    refine k_iconst G (dc d_De_remove 31 rfl) cI_1 ?_
    refine k_isub G (dc d_De_remove 32 rfl) ?_
    obtain ⟨M7, e6, h⟩ := kOk_b h
    refine k_putI G kc0 (dc d_De_remove 33 rfl) (okL_lt hu (o := 0) 0 rfl) (okL_k hu (o := 0) 0 rfl) 0 (by decide) rfl rfl fl_RX0_21 rfl rfl e6 ?_
    exact (kOk_s h) _ _ _ _ rfl rfl (dc d_De_remove 34 rfl)
  · replace h := kOk_p c3 h
    exact (kOk_s h) _ _ _ _ rfl rfl (dc d_De_remove 4 rfl)
theorem c_De_remove {l : Launch} {B : KB} {L : KLay} {M : KMem} {u : Nat} {p0 : Int32} (hst : l.stackTraces = false) (hx : B.2.2.2 = false) (hu : okL L u deT) {M' : KMem} (e : m_De_remove u p0 M = some M') : CtrN l B yX0_remove cX0_remove 3 none rm_De_remove [.ref (B.1 + u), .int p0] L M none L M' :=
  mk_V rfl hst rfl (fun X hl G _ R => b_De_remove G hx hu ⟨_, e, R⟩)
def I_De_spellingWithout : List (Nat × Instr × Nat) := [(0, .iload_n 2, 1), (1, .istore_n 3, 1), (2, .iconst 0, 1), (3, .istore 4, 2), (5, .iload 4, 2), (7, .bipush 10, 2), (9, .if_icmp .ge 69, 3), (12, .aload_n 0, 1), (13, .iload 4, 2), (15, .invokevirtual 25, 3), (18, .ifCond .eq 60, 3), (21, .iload 4, 2), (23, .iconst 5, 1), (24, .imul, 1), (25, .istore 5, 2), (27, .iload 4, 2), (29, .iload_n 1, 1), (30, .if_icmp .eq 42, 3), (33, .aload_n 0, 1), (34, .getfield 11, 3), (37, .iload 5, 2), (39, .iaload, 1), (40, .aload_n 0, 1), (41, .getfield 11, 3), (44, .iload 5, 2), (46, .iconst 1, 1), (47, .iadd, 1), (48, .iaload, 1), (49, .aload_n 0, 1), (50, .getfield 11, 3), (53, .iload 5, 2), (55, .iconst 2, 1), (56, .iadd, 1), (57, .iaload, 1), (58, .aload_n 0, 1), (59, .getfield 11, 3), (62, .iload 5, 2), (64, .iconst 3, 1), (65, .iadd, 1), (66, .iaload, 1), (67, .iload_n 3, 1), (68, .invokestatic 42, 3), (71, .istore_n 3, 1), (72, .iinc 4 1, 3), (75, .goto (-70), 3), (78, .iload_n 3, 1), (79, .ireturn, 1)]
set_option maxRecDepth 100000 in
theorem d_De_spellingWithout : decA cX0_spellingWithout I_De_spellingWithout = true := by decide +kernel
abbrev rm_De_spellingWithout : Room := ({ frames := 2, cells := 0, slots := 0, locals := 52 } : Room)
def m_De_spellingWithout_l5 (u : Nat) (p0 : Int32) (M : KMem) : (Int32 × Int32) → Option ((Int32 × Int32) ⊕ Int32) := fun (v3_1, v4_2) =>
 if 10 ≤ v4_2 then
 (some (.inr v3_1))
 else
 (Option.bind (m_De_has u v4_2 M) fun x5 =>
 if x5 = 0 then
 (some (.inr v3_1))
 else
 (Option.bind (α := Int32) (if v4_2 = p0 then
 (some v3_1)
 else
 (Option.bind (rdI M (u + 1) 50 (v4_2 * 5)) fun x11 =>
 Option.bind (rdI M (u + 1) 50 ((v4_2 * 5) + 1)) fun x13 =>
 Option.bind (rdI M (u + 1) 50 ((v4_2 * 5) + 2)) fun x15 =>
 Option.bind (rdI M (u + 1) 50 ((v4_2 * 5) + 3)) fun x17 =>
 Option.bind (m_Wo_decreed x11 x13 x15 x17 v3_1) fun x19 =>
 some x19)) fun v3_7 =>
 some (.inl (v3_7, v4_2 + 1))))
def m_De_spellingWithout (u : Nat) (p0 : Int32) (p1 : Int32) (M : KMem) : Option Int32 :=
 Option.bind (α := Int32) (kLp (m_De_spellingWithout_l5 u p0 M) kFU (p1, 0)) fun v3_20 =>
 some v3_20
set_option maxHeartbeats 4000000 in
set_option maxRecDepth 100000 in
theorem b_De_spellingWithout {X : KX} {B : KB} {L : KLay} {M : KMem} {u : Nat} {p0 : Int32} {p1 : Int32} (G : Good X B RX0 cX0_spellingWithout 6 rm_De_spellingWithout) (hu : okL L u deT) (h : kOk (m_De_spellingWithout u p0 p1 M) (fun r => RI X B L 6 cX0_spellingWithout .int rm_De_spellingWithout r M)) : KK X B L 6 0 0 M 0 [(0, .ref (B.1 + u)), (1, .int p0), (2, .int p1)] [] := by
  unfold m_De_spellingWithout at h
  refine k_iload_n G (dc d_De_spellingWithout 0 rfl) 2 rfl rfl ?_
  refine k_istore_n G (dc d_De_spellingWithout 1 rfl) (ls' := [(3, .int p1), (0, .ref (B.1 + u)), (1, .int p0), (2, .int p1)]) rfl rfl rfl ?_
  refine k_iconst G (dc d_De_spellingWithout 2 rfl) cI_0 ?_
  refine k_istore G (dc d_De_spellingWithout 3 rfl) (ls' := [(4, .int 0), (3, .int p1), (0, .ref (B.1 + u)), (1, .int p0), (2, .int p1)]) rfl rfl ?_
  refine kJ h (fun r21 => KK X B L 6 0 0 M 78 [(3, .int r21)] []) (fun r21 h => ?_) (fun h => ?_)
  · obtain ⟨v3_20, rfl⟩ : ∃ z, z = r21 := ⟨_, rfl⟩
    show KK X B L 6 0 0 M 78 [(3, .int v3_20)] []
    refine k_iload_n G (dc d_De_spellingWithout 45 rfl) 0 rfl rfl ?_
    exact (kOk_s h) _ _ _ _ rfl rfl rfl (dc d_De_spellingWithout 46 rfl)
  · refine k_sub [2, 3, 1, 0] rfl ?_
    refine kLp_ok (P := fun s22 => KK X B L 6 0 0 M 5 [(0, .ref (B.1 + u)), (1, .int p0), (3, .int s22.1), (4, .int s22.2)] []) (fun s22 h => ?_) kFU _ h
    obtain ⟨v3_1, v4_2⟩ := s22
    unfold m_De_spellingWithout_l5 at h
    show KK X B L 6 0 0 M 5 [(0, .ref (B.1 + u)), (1, .int p0), (3, .int v3_1), (4, .int v4_2)] []
    refine k_iload G (dc d_De_spellingWithout 4 rfl) 3 rfl ?_
    refine k_bipush G (dc d_De_spellingWithout 5 rfl) cB_10 ?_
    refine k_icmp_ge G (dc d_De_spellingWithout 6 rfl) (tgt := 78) rfl (fun c3 => ?_) (fun c3 => ?_)
    · replace h := kOk_p c3 h
      refine k_sub [2] rfl ?_
      have h9 := kOk_s h
      exact h9
    · replace h := kOk_n c3 h
      refine k_aload_n G (dc d_De_spellingWithout 7 rfl) 0 rfl rfl ?_
      refine k_iload G (dc d_De_spellingWithout 8 rfl) 3 rfl ?_
      obtain ⟨x5, e4, h⟩ := kOk_b h
      refine k_cVI G (dc d_De_spellingWithout 9 rfl) kc0 (okL_lt hu (o := 0) 0 rfl) (okL_k hu (o := 0) 0 rfl) mi_De_has mv_De_has rfl ml_RX0_25 (c_De_has (gst G) hu e4) rfl rfl ⟨rfl, rfl⟩ rfl ⟨rfl, rfl⟩ ⟨rfl, rfl⟩ ?_
      refine k_if_eq G (dc d_De_spellingWithout 10 rfl) (tgt := 78) rfl (fun c6 => ?_) (fun c6 => ?_)
      · replace h := kOk_p c6 h
        refine k_sub [2] rfl ?_
        have h9 := kOk_s h
        exact h9
      · replace h := kOk_n c6 h
        refine k_iload G (dc d_De_spellingWithout 11 rfl) 3 rfl ?_
        refine k_iconst G (dc d_De_spellingWithout 12 rfl) cI_5 ?_
        refine k_imul G (dc d_De_spellingWithout 13 rfl) ?_
        refine k_istore G (dc d_De_spellingWithout 14 rfl) (ls' := [(5, .int (v4_2 * 5)), (0, .ref (B.1 + u)), (1, .int p0), (3, .int v3_1), (4, .int v4_2)]) rfl rfl ?_
        refine k_iload G (dc d_De_spellingWithout 15 rfl) 4 rfl ?_
        refine k_iload_n G (dc d_De_spellingWithout 16 rfl) 2 rfl rfl ?_
        refine kJ h (fun r8 => KK X B L 6 0 0 M 72 [(0, .ref (B.1 + u)), (1, .int p0), (3, .int r8), (4, .int v4_2)] []) (fun r8 h => ?_) (fun h => ?_)
        · obtain ⟨v3_7, rfl⟩ : ∃ z, z = r8 := ⟨_, rfl⟩
          show KK X B L 6 0 0 M 72 [(0, .ref (B.1 + u)), (1, .int p0), (3, .int v3_7), (4, .int v4_2)] []
          refine k_iinc G (dc d_De_spellingWithout 43 rfl) (ls' := [(4, .int (v4_2 + 1)), (0, .ref (B.1 + u)), (1, .int p0), (3, .int v3_7)]) 3 rfl cI_1 rfl rfl ?_
          refine k_goto G (dc d_De_spellingWithout 44 rfl) (tgt := 5) rfl ?_
          refine k_sub [1, 2, 3, 0] rfl ?_
          have h9 := kOk_s h
          exact h9
        · refine k_icmp_eq G (dc d_De_spellingWithout 17 rfl) (tgt := 72) rfl (fun c9 => ?_) (fun c9 => ?_)
          · replace h := kOk_p c9 h
            refine k_sub [1, 2, 3, 4] rfl ?_
            have h9 := kOk_s h
            exact h9
          · replace h := kOk_n c9 h
            refine k_aload_n G (dc d_De_spellingWithout 18 rfl) 1 rfl rfl ?_
            refine k_getR G kc0 (dc d_De_spellingWithout 19 rfl) (okL_lt hu (o := 0) 0 rfl) (okL_k hu (o := 0) 0 rfl) 1 (by decide) rfl fl_RX0_11 (u + 1) (okL_r hu (o := 0) (c := 1) 0 rfl 0 rfl) ?_
            refine k_iload G (dc d_De_spellingWithout 20 rfl) 0 rfl ?_
            obtain ⟨x11, e10, h⟩ := kOk_b h
            refine k_ild G (dc d_De_spellingWithout 21 rfl) (okL_lt hu (o := 1) 1 rfl) (okL_k hu (o := 1) 1 rfl) (okL_n hu (o := 1) 1 rfl) e10 ?_
            refine k_aload_n G (dc d_De_spellingWithout 22 rfl) 1 rfl rfl ?_
            refine k_getR G kc0 (dc d_De_spellingWithout 23 rfl) (okL_lt hu (o := 0) 0 rfl) (okL_k hu (o := 0) 0 rfl) 1 (by decide) rfl fl_RX0_11 (u + 1) (okL_r hu (o := 0) (c := 1) 0 rfl 0 rfl) ?_
            refine k_iload G (dc d_De_spellingWithout 24 rfl) 0 rfl ?_
            refine k_iconst G (dc d_De_spellingWithout 25 rfl) cI_1 ?_
            refine k_iadd G (dc d_De_spellingWithout 26 rfl) ?_
            obtain ⟨x13, e12, h⟩ := kOk_b h
            refine k_ild G (dc d_De_spellingWithout 27 rfl) (okL_lt hu (o := 1) 1 rfl) (okL_k hu (o := 1) 1 rfl) (okL_n hu (o := 1) 1 rfl) e12 ?_
            refine k_aload_n G (dc d_De_spellingWithout 28 rfl) 1 rfl rfl ?_
            refine k_getR G kc0 (dc d_De_spellingWithout 29 rfl) (okL_lt hu (o := 0) 0 rfl) (okL_k hu (o := 0) 0 rfl) 1 (by decide) rfl fl_RX0_11 (u + 1) (okL_r hu (o := 0) (c := 1) 0 rfl 0 rfl) ?_
            refine k_iload G (dc d_De_spellingWithout 30 rfl) 0 rfl ?_
            refine k_iconst G (dc d_De_spellingWithout 31 rfl) cI_2 ?_
            refine k_iadd G (dc d_De_spellingWithout 32 rfl) ?_
            obtain ⟨x15, e14, h⟩ := kOk_b h
            refine k_ild G (dc d_De_spellingWithout 33 rfl) (okL_lt hu (o := 1) 1 rfl) (okL_k hu (o := 1) 1 rfl) (okL_n hu (o := 1) 1 rfl) e14 ?_
            refine k_aload_n G (dc d_De_spellingWithout 34 rfl) 1 rfl rfl ?_
            refine k_getR G kc0 (dc d_De_spellingWithout 35 rfl) (okL_lt hu (o := 0) 0 rfl) (okL_k hu (o := 0) 0 rfl) 1 (by decide) rfl fl_RX0_11 (u + 1) (okL_r hu (o := 0) (c := 1) 0 rfl 0 rfl) ?_
            refine k_iload G (dc d_De_spellingWithout 36 rfl) 0 rfl ?_
            refine k_iconst G (dc d_De_spellingWithout 37 rfl) cI_3 ?_
            refine k_iadd G (dc d_De_spellingWithout 38 rfl) ?_
            obtain ⟨x17, e16, h⟩ := kOk_b h
            refine k_ild G (dc d_De_spellingWithout 39 rfl) (okL_lt hu (o := 1) 1 rfl) (okL_k hu (o := 1) 1 rfl) (okL_n hu (o := 1) 1 rfl) e16 ?_
            refine k_iload_n G (dc d_De_spellingWithout 40 rfl) 3 rfl rfl ?_
            obtain ⟨x19, e18, h⟩ := kOk_b h
            refine k_cSI G (dc d_De_spellingWithout 41 rfl) mi_Wo_decreed ms_Wo_decreed ml_RX0_42 (c_Wo_decreed (gst G)  e18) rfl rfl ⟨rfl, rfl⟩ rfl ⟨rfl, rfl⟩ ⟨rfl, rfl⟩ ?_
            refine k_istore_n G (dc d_De_spellingWithout 42 rfl) (ls' := [(3, .int x19), (5, .int (v4_2 * 5)), (0, .ref (B.1 + u)), (1, .int p0), (4, .int v4_2)]) rfl rfl rfl ?_
            refine k_sub [2, 3, 0, 4] rfl ?_
            have h9 := kOk_s h
            exact h9
theorem c_De_spellingWithout {l : Launch} {B : KB} {L : KLay} {M : KMem} {u : Nat} {p0 : Int32} {p1 : Int32} (hst : l.stackTraces = false) (hu : okL L u deT) {r : Int32} (e : m_De_spellingWithout u p0 p1 M = some r) : CtrN l B yX0_spellingWithout cX0_spellingWithout 6 (some .int) rm_De_spellingWithout [.ref (B.1 + u), .int p0, .int p1] L M (some (.int r)) L M :=
  mk_I rfl hst rfl (fun X hl G _ R => b_De_spellingWithout G hu ⟨_, e, R⟩)
def I_De_spellingOf : List (Nat × Instr × Nat) := [(0, .aload_n 0, 1), (1, .iconst (-1), 1), (2, .iload_n 1, 1), (3, .invokevirtual 38, 3), (6, .ireturn, 1)]
set_option maxRecDepth 100000 in
theorem d_De_spellingOf : decA cX0_spellingOf I_De_spellingOf = true := by decide +kernel
abbrev rm_De_spellingOf : Room := ({ frames := 3, cells := 0, slots := 0, locals := 77 } : Room)
def m_De_spellingOf (u : Nat) (p0 : Int32) (M : KMem) : Option Int32 :=
 Option.bind (m_De_spellingWithout u (-1) p0 M) fun x2 =>
 some x2
set_option maxHeartbeats 4000000 in
set_option maxRecDepth 100000 in
theorem b_De_spellingOf {X : KX} {B : KB} {L : KLay} {M : KMem} {u : Nat} {p0 : Int32} (G : Good X B RX0 cX0_spellingOf 2 rm_De_spellingOf) (hu : okL L u deT) (h : kOk (m_De_spellingOf u p0 M) (fun r => RI X B L 2 cX0_spellingOf .int rm_De_spellingOf r M)) : KK X B L 2 0 0 M 0 [(0, .ref (B.1 + u)), (1, .int p0)] [] := by
  unfold m_De_spellingOf at h
  refine k_aload_n G (dc d_De_spellingOf 0 rfl) 0 rfl rfl ?_
  refine k_iconst G (dc d_De_spellingOf 1 rfl) cI_m1 ?_
  refine k_iload_n G (dc d_De_spellingOf 2 rfl) 1 rfl rfl ?_
  obtain ⟨x2, e1, h⟩ := kOk_b h
  refine k_cVI G (dc d_De_spellingOf 3 rfl) kc0 (okL_lt hu (o := 0) 0 rfl) (okL_k hu (o := 0) 0 rfl) mi_De_spellingWithout mv_De_spellingWithout rfl ml_RX0_38 (c_De_spellingWithout (gst G) hu e1) rfl rfl ⟨rfl, rfl⟩ rfl ⟨rfl, rfl⟩ ⟨rfl, rfl⟩ ?_
  exact (kOk_s h) _ _ _ _ rfl rfl rfl (dc d_De_spellingOf 4 rfl)
theorem c_De_spellingOf {l : Launch} {B : KB} {L : KLay} {M : KMem} {u : Nat} {p0 : Int32} (hst : l.stackTraces = false) (hu : okL L u deT) {r : Int32} (e : m_De_spellingOf u p0 M = some r) : CtrN l B yX0_spellingOf cX0_spellingOf 2 (some .int) rm_De_spellingOf [.ref (B.1 + u), .int p0] L M (some (.int r)) L M :=
  mk_I rfl hst rfl (fun X hl G _ R => b_De_spellingOf G hu ⟨_, e, R⟩)
def I_De_copyFrom : List (Nat × Instr × Nat) := [(0, .aload_n 0, 1), (1, .aload_n 1, 1), (2, .getfield 21, 3), (5, .putfield 21, 3), (8, .aload_n 1, 1), (9, .getfield 11, 3), (12, .iconst 0, 1), (13, .aload_n 0, 1), (14, .getfield 11, 3), (17, .iconst 0, 1), (18, .aload_n 0, 1), (19, .getfield 11, 3), (22, .arraylength, 1), (23, .invokestatic 32, 3), (26, .return_, 1)]
set_option maxRecDepth 100000 in
theorem d_De_copyFrom : decA cX0_copyFrom I_De_copyFrom = true := by decide +kernel
abbrev rm_De_copyFrom : Room := ({ frames := 1, cells := 0, slots := 0, locals := 60 } : Room)
def m_De_copyFrom (u : Nat) (p0 : Nat) (M : KMem) : Option KMem :=
 Option.bind (some (kup M u 0 (M p0 0))) fun M2 =>
 Option.bind (cpI M2 (p0 + 1) 50 (u + 1) 50 0 0 (Int32.ofNat 50)) fun M4 =>
 some M4
set_option maxHeartbeats 4000000 in
set_option maxRecDepth 100000 in
theorem b_De_copyFrom {X : KX} {B : KB} {L : KLay} {M : KMem} {u : Nat} {p0 : Nat} (G : Good X B RX0 cX0_copyFrom 2 rm_De_copyFrom) (hx : B.2.2.2 = false) (hu : okL L u deT) (hp0 : okL L p0 deT) (h : kOk (m_De_copyFrom u p0 M) (fun r => RV X B L 2 cX0_copyFrom rm_De_copyFrom r)) : KK X B L 2 0 0 M 0 [(0, .ref (B.1 + u)), (1, .ref (B.1 + p0))] [] := by
  unfold m_De_copyFrom at h
  refine k_aload_n G (dc d_De_copyFrom 0 rfl) 0 rfl rfl ?_
  refine k_aload_n G (dc d_De_copyFrom 1 rfl) 1 rfl rfl ?_
  refine k_getI G kc0 (dc d_De_copyFrom 2 rfl) (okL_lt hp0 (o := 0) 0 rfl) (okL_k hp0 (o := 0) 0 rfl) 0 (by decide) rfl fl_RX0_21 ?_
  obtain ⟨M2, e1, h⟩ := kOk_b h
  refine k_putI G kc0 (dc d_De_copyFrom 3 rfl) (okL_lt hu (o := 0) 0 rfl) (okL_k hu (o := 0) 0 rfl) 0 (by decide) rfl rfl fl_RX0_21 rfl rfl e1 ?_
  refine k_aload_n G (dc d_De_copyFrom 4 rfl) 1 rfl rfl ?_
  refine k_getR G kc0 (dc d_De_copyFrom 5 rfl) (okL_lt hp0 (o := 0) 0 rfl) (okL_k hp0 (o := 0) 0 rfl) 1 (by decide) rfl fl_RX0_11 (p0 + 1) (okL_r hp0 (o := 0) (c := 1) 0 rfl 0 rfl) ?_
  refine k_iconst G (dc d_De_copyFrom 6 rfl) cI_0 ?_
  refine k_aload_n G (dc d_De_copyFrom 7 rfl) 0 rfl rfl ?_
  refine k_getR G kc0 (dc d_De_copyFrom 8 rfl) (okL_lt hu (o := 0) 0 rfl) (okL_k hu (o := 0) 0 rfl) 1 (by decide) rfl fl_RX0_11 (u + 1) (okL_r hu (o := 0) (c := 1) 0 rfl 0 rfl) ?_
  refine k_iconst G (dc d_De_copyFrom 9 rfl) cI_0 ?_
  refine k_aload_n G (dc d_De_copyFrom 10 rfl) 0 rfl rfl ?_
  refine k_getR G kc0 (dc d_De_copyFrom 11 rfl) (okL_lt hu (o := 0) 0 rfl) (okL_k hu (o := 0) 0 rfl) 1 (by decide) rfl fl_RX0_11 (u + 1) (okL_r hu (o := 0) (c := 1) 0 rfl 0 rfl) ?_
  refine k_len G (dc d_De_copyFrom 12 rfl) (okL_lt hu (o := 1) 1 rfl) (okL_k hu (o := 1) 1 rfl) (v := Int32.ofNat 50) (by rw [(okL_n hu (o := 1) 1 rfl)]) ?_
  obtain ⟨M4, e3, h⟩ := kOk_b h
  refine k_copy G hx (dc d_De_copyFrom 13 rfl) ml_RX0_32 syscopy ⟨rfl, rfl⟩ (okL_lt hp0 (o := 1) 1 rfl) (okL_k hp0 (o := 1) 1 rfl) (okL_n hp0 (o := 1) 1 rfl) (okL_lt hu (o := 1) 1 rfl) (okL_k hu (o := 1) 1 rfl) (okL_n hu (o := 1) 1 rfl) e3 ?_
  exact (kOk_s h) _ _ _ _ rfl rfl (dc d_De_copyFrom 14 rfl)
theorem c_De_copyFrom {l : Launch} {B : KB} {L : KLay} {M : KMem} {u : Nat} {p0 : Nat} (hst : l.stackTraces = false) (hx : B.2.2.2 = false) (hu : okL L u deT) (hp0 : okL L p0 deT) {M' : KMem} (e : m_De_copyFrom u p0 M = some M') : CtrN l B yX0_copyFrom cX0_copyFrom 2 none rm_De_copyFrom [.ref (B.1 + u), .ref (B.1 + p0)] L M none L M' :=
  mk_V rfl hst rfl (fun X hl G _ R => b_De_copyFrom G hx hu hp0 ⟨_, e, R⟩)
