/-! laid by wip/p30/g30.py: Tw_hasSign, Tw_isWrong, Tw_lettersWrong, Tw_costOf, Tw_spelled, Tw_spellingsApart, Tw_reasonAgainstSign, Tw_bringSign, Tw_reasonAgainstPlan, Tw_reasonAgainstDecree, Tw_giveDecree, Tw_takeDecree -/
def I_Tw_hasSign : List (Nat × Instr × Nat) := [(0, .iload_n 1, 1), (1, .ifCond .lt 24, 3), (4, .iload_n 1, 1), (5, .aload_n 0, 1), (6, .getfield 12, 3), (9, .getfield 36, 3), (12, .if_icmp .ge 13, 3), (15, .iload_n 1, 1), (16, .bipush 8, 2), (18, .if_icmp .ge 7, 3), (21, .iconst 1, 1), (22, .goto 4, 3), (25, .iconst 0, 1), (26, .ireturn, 1)]
set_option maxRecDepth 100000 in
theorem d_Tw_hasSign : decA cX8_hasSign I_Tw_hasSign = true := by decide +kernel
abbrev rm_Tw_hasSign : Room := ({ frames := 0, cells := 0, slots := 0, locals := 0 } : Room)
def m_Tw_hasSign (u : Nat) (p0 : Int32) (M : KMem) : Option Int32 :=
 Option.bind (α := Int32) (if p0 < 0 then
 (some 0)
 else
 (if (M (u + 1) 1) ≤ p0 then
 (some 0)
 else
 (if 8 ≤ p0 then
 (some 0)
 else
 (some 1)))) fun t1 =>
 Option.bind (kz t1) fun z3 =>
 some z3
set_option maxHeartbeats 4000000 in
set_option maxRecDepth 100000 in
theorem b_Tw_hasSign {X : KX} {B : KB} {L : KLay} {M : KMem} {u : Nat} {p0 : Int32} (G : Good X B RX8 cX8_hasSign 2 rm_Tw_hasSign) (hu : okL L u twT) (h : kOk (m_Tw_hasSign u p0 M) (fun r => RI X B L 2 cX8_hasSign .boolean rm_Tw_hasSign r M)) : KK X B L 2 0 0 M 0 [(0, .ref (B.1 + u)), (1, .int p0)] [] := by
  unfold m_Tw_hasSign at h
  refine k_iload_n G (dc d_Tw_hasSign 0 rfl) 1 rfl rfl ?_
  refine kJ h (fun r2 => KK X B L 2 0 0 M 26 [] [.int r2]) (fun r2 h => ?_) (fun h => ?_)
  · obtain ⟨t1, rfl⟩ : ∃ z, z = r2 := ⟨_, rfl⟩
    show KK X B L 2 0 0 M 26 [] [.int t1]
    obtain ⟨z3, e4, h⟩ := kOk_b h
    obtain ⟨e4, nz3, -⟩ := kz_ok e4
    rw [e4]
    exact (kOk_s h) _ _ _ _ rfl rfl nz3 (dc d_Tw_hasSign 13 rfl)
  · refine k_if_lt G (dc d_Tw_hasSign 1 rfl) (tgt := 25) rfl (fun c5 => ?_) (fun c5 => ?_)
    · replace h := kOk_p c5 h
      refine k_iconst G (dc d_Tw_hasSign 12 rfl) cI_0 ?_
      refine k_sub [] rfl ?_
      have h9 := kOk_s h
      exact h9
    · replace h := kOk_n c5 h
      refine k_iload_n G (dc d_Tw_hasSign 2 rfl) 1 rfl rfl ?_
      refine k_aload_n G (dc d_Tw_hasSign 3 rfl) 0 rfl rfl ?_
      refine k_getR G kc6 (dc d_Tw_hasSign 4 rfl) (okL_lt hu (o := 0) 0 rfl) (okL_k hu (o := 0) 0 rfl) 0 (by decide) rfl fl_RX8_12 (u + 1) (okL_r hu (o := 0) (c := 1) 0 rfl 0 rfl) ?_
      refine k_getI G kc5 (dc d_Tw_hasSign 5 rfl) (okL_lt hu (o := 1) 1 rfl) (okL_k hu (o := 1) 1 rfl) 1 (by decide) rfl fl_RX8_36 ?_
      refine k_icmp_ge G (dc d_Tw_hasSign 6 rfl) (tgt := 25) rfl (fun c6 => ?_) (fun c6 => ?_)
      · replace h := kOk_p c6 h
        refine k_iconst G (dc d_Tw_hasSign 12 rfl) cI_0 ?_
        refine k_sub [] rfl ?_
        have h9 := kOk_s h
        exact h9
      · replace h := kOk_n c6 h
        refine k_iload_n G (dc d_Tw_hasSign 7 rfl) 1 rfl rfl ?_
        refine k_bipush G (dc d_Tw_hasSign 8 rfl) cB_8 ?_
        refine k_icmp_ge G (dc d_Tw_hasSign 9 rfl) (tgt := 25) rfl (fun c7 => ?_) (fun c7 => ?_)
        · replace h := kOk_p c7 h
          refine k_iconst G (dc d_Tw_hasSign 12 rfl) cI_0 ?_
          refine k_sub [] rfl ?_
          have h9 := kOk_s h
          exact h9
        · replace h := kOk_n c7 h
          refine k_iconst G (dc d_Tw_hasSign 10 rfl) cI_1 ?_
          refine k_goto G (dc d_Tw_hasSign 11 rfl) (tgt := 26) rfl ?_
          refine k_sub [] rfl ?_
          have h9 := kOk_s h
          exact h9
theorem c_Tw_hasSign {l : Launch} {B : KB} {L : KLay} {M : KMem} {u : Nat} {p0 : Int32} (hst : l.stackTraces = false) (hu : okL L u twT) {r : Int32} (e : m_Tw_hasSign u p0 M = some r) : CtrN l B yX8_hasSign cX8_hasSign 2 (some .boolean) rm_Tw_hasSign [.ref (B.1 + u), .int p0] L M (some (.int r)) L M :=
  mk_I rfl hst rfl (fun X hl G _ R => b_Tw_hasSign G hu ⟨_, e, R⟩)
def I_Tw_isWrong : List (Nat × Instr × Nat) := [(0, .aload_n 0, 1), (1, .iload_n 1, 1), (2, .invokevirtual 40, 3), (5, .ifCond .eq 28, 3), (8, .aload_n 0, 1), (9, .getfield 12, 3), (12, .getfield 44, 3), (15, .iload_n 1, 1), (16, .iaload, 1), (17, .aload_n 0, 1), (18, .getfield 12, 3), (21, .getfield 47, 3), (24, .iload_n 1, 1), (25, .iaload, 1), (26, .if_icmp .eq 7, 3), (29, .iconst 1, 1), (30, .goto 4, 3), (33, .iconst 0, 1), (34, .ireturn, 1)]
set_option maxRecDepth 100000 in
theorem d_Tw_isWrong : decA cX8_isWrong I_Tw_isWrong = true := by decide +kernel
abbrev rm_Tw_isWrong : Room := ({ frames := 1, cells := 0, slots := 0, locals := 21 } : Room)
def m_Tw_isWrong (u : Nat) (p0 : Int32) (M : KMem) : Option Int32 :=
 Option.bind (m_Tw_hasSign u p0 M) fun x2 =>
 Option.bind (α := Int32) (if x2 = 0 then
 (some 0)
 else
 (Option.bind (rdI M (u + 6) 8 p0) fun x9 =>
 Option.bind (rdI M (u + 7) 8 p0) fun x11 =>
 if x9 = x11 then
 (some 0)
 else
 (some 1))) fun t3 =>
 Option.bind (kz t3) fun z5 =>
 some z5
set_option maxHeartbeats 4000000 in
set_option maxRecDepth 100000 in
theorem b_Tw_isWrong {X : KX} {B : KB} {L : KLay} {M : KMem} {u : Nat} {p0 : Int32} (G : Good X B RX8 cX8_isWrong 2 rm_Tw_isWrong) (hu : okL L u twT) (h : kOk (m_Tw_isWrong u p0 M) (fun r => RI X B L 2 cX8_isWrong .boolean rm_Tw_isWrong r M)) : KK X B L 2 0 0 M 0 [(0, .ref (B.1 + u)), (1, .int p0)] [] := by
  unfold m_Tw_isWrong at h
  refine k_aload_n G (dc d_Tw_isWrong 0 rfl) 0 rfl rfl ?_
  refine k_iload_n G (dc d_Tw_isWrong 1 rfl) 1 rfl rfl ?_
  obtain ⟨x2, e1, h⟩ := kOk_b h
  refine k_cVI G (dc d_Tw_isWrong 2 rfl) kc6 (okL_lt hu (o := 0) 0 rfl) (okL_k hu (o := 0) 0 rfl) mi_Tw_hasSign mv_Tw_hasSign rfl ml_RX8_40 (c_Tw_hasSign (gst G) hu e1) rfl rfl ⟨rfl, rfl⟩ rfl ⟨rfl, rfl⟩ ⟨rfl, rfl⟩ ?_
  refine kJ h (fun r4 => KK X B L 2 0 0 M 34 [] [.int r4]) (fun r4 h => ?_) (fun h => ?_)
  · obtain ⟨t3, rfl⟩ : ∃ z, z = r4 := ⟨_, rfl⟩
    show KK X B L 2 0 0 M 34 [] [.int t3]
    obtain ⟨z5, e6, h⟩ := kOk_b h
    obtain ⟨e6, nz5, -⟩ := kz_ok e6
    rw [e6]
    exact (kOk_s h) _ _ _ _ rfl rfl nz5 (dc d_Tw_isWrong 18 rfl)
  · refine k_if_eq G (dc d_Tw_isWrong 3 rfl) (tgt := 33) rfl (fun c7 => ?_) (fun c7 => ?_)
    · replace h := kOk_p c7 h
      refine k_iconst G (dc d_Tw_isWrong 17 rfl) cI_0 ?_
      refine k_sub [] rfl ?_
      have h9 := kOk_s h
      exact h9
    · replace h := kOk_n c7 h
      refine k_aload_n G (dc d_Tw_isWrong 4 rfl) 0 rfl rfl ?_
      refine k_getR G kc6 (dc d_Tw_isWrong 5 rfl) (okL_lt hu (o := 0) 0 rfl) (okL_k hu (o := 0) 0 rfl) 0 (by decide) rfl fl_RX8_12 (u + 1) (okL_r hu (o := 0) (c := 1) 0 rfl 0 rfl) ?_
      refine k_getR G kc5 (dc d_Tw_isWrong 6 rfl) (okL_lt hu (o := 1) 1 rfl) (okL_k hu (o := 1) 1 rfl) 4 (by decide) rfl fl_RX8_44 (u + 6) (okL_r hu (o := 1) (c := 6) 1 rfl 3 rfl) ?_
      refine k_iload_n G (dc d_Tw_isWrong 7 rfl) 1 rfl rfl ?_
      obtain ⟨x9, e8, h⟩ := kOk_b h
      refine k_ild G (dc d_Tw_isWrong 8 rfl) (okL_lt hu (o := 6) 6 rfl) (okL_k hu (o := 6) 6 rfl) (okL_n hu (o := 6) 6 rfl) e8 ?_
      refine k_aload_n G (dc d_Tw_isWrong 9 rfl) 0 rfl rfl ?_
      refine k_getR G kc6 (dc d_Tw_isWrong 10 rfl) (okL_lt hu (o := 0) 0 rfl) (okL_k hu (o := 0) 0 rfl) 0 (by decide) rfl fl_RX8_12 (u + 1) (okL_r hu (o := 0) (c := 1) 0 rfl 0 rfl) ?_
      refine k_getR G kc5 (dc d_Tw_isWrong 11 rfl) (okL_lt hu (o := 1) 1 rfl) (okL_k hu (o := 1) 1 rfl) 5 (by decide) rfl fl_RX8_47 (u + 7) (okL_r hu (o := 1) (c := 7) 1 rfl 4 rfl) ?_
      refine k_iload_n G (dc d_Tw_isWrong 12 rfl) 1 rfl rfl ?_
      obtain ⟨x11, e10, h⟩ := kOk_b h
      refine k_ild G (dc d_Tw_isWrong 13 rfl) (okL_lt hu (o := 7) 7 rfl) (okL_k hu (o := 7) 7 rfl) (okL_n hu (o := 7) 7 rfl) e10 ?_
      refine k_icmp_eq G (dc d_Tw_isWrong 14 rfl) (tgt := 33) rfl (fun c12 => ?_) (fun c12 => ?_)
      · replace h := kOk_p c12 h
        refine k_iconst G (dc d_Tw_isWrong 17 rfl) cI_0 ?_
        refine k_sub [] rfl ?_
        have h9 := kOk_s h
        exact h9
      · replace h := kOk_n c12 h
        refine k_iconst G (dc d_Tw_isWrong 15 rfl) cI_1 ?_
        refine k_goto G (dc d_Tw_isWrong 16 rfl) (tgt := 34) rfl ?_
        refine k_sub [] rfl ?_
        have h9 := kOk_s h
        exact h9
theorem c_Tw_isWrong {l : Launch} {B : KB} {L : KLay} {M : KMem} {u : Nat} {p0 : Int32} (hst : l.stackTraces = false) (hu : okL L u twT) {r : Int32} (e : m_Tw_isWrong u p0 M = some r) : CtrN l B yX8_isWrong cX8_isWrong 2 (some .boolean) rm_Tw_isWrong [.ref (B.1 + u), .int p0] L M (some (.int r)) L M :=
  mk_I rfl hst rfl (fun X hl G _ R => b_Tw_isWrong G hu ⟨_, e, R⟩)
def I_Tw_lettersWrong : List (Nat × Instr × Nat) := [(0, .aload_n 0, 1), (1, .iload_n 1, 1), (2, .invokevirtual 40, 3), (5, .ifCond .ne 5, 3), (8, .iconst 0, 1), (9, .ireturn, 1), (10, .aload_n 0, 1), (11, .getfield 21, 3), (14, .aload_n 0, 1), (15, .getfield 12, 3), (18, .getfield 44, 3), (21, .iload_n 1, 1), (22, .iaload, 1), (23, .aload_n 0, 1), (24, .getfield 12, 3), (27, .getfield 47, 3), (30, .iload_n 1, 1), (31, .iaload, 1), (32, .invokevirtual 50, 3), (35, .ireturn, 1)]
set_option maxRecDepth 100000 in
theorem d_Tw_lettersWrong : decA cX8_lettersWrong I_Tw_lettersWrong = true := by decide +kernel
abbrev rm_Tw_lettersWrong : Room := ({ frames := 3, cells := 0, slots := 0, locals := 73 } : Room)
def m_Tw_lettersWrong (u : Nat) (p0 : Int32) (M : KMem) : Option (Int32 × KMem) :=
 Option.bind (m_Tw_hasSign u p0 M) fun x2 =>
 if x2 = 0 then
 (some (0, M))
 else
 (Option.bind (rdI M (u + 6) 8 p0) fun x5 =>
 Option.bind (rdI M (u + 7) 8 p0) fun x7 =>
 Option.bind (m_Ru_measured (u + 13) x5 x7 M) fun (x9, M10) =>
 some (x9, M10))
set_option maxHeartbeats 4000000 in
set_option maxRecDepth 100000 in
theorem b_Tw_lettersWrong {X : KX} {B : KB} {L : KLay} {M : KMem} {u : Nat} {p0 : Int32} (G : Good X B RX8 cX8_lettersWrong 2 rm_Tw_lettersWrong) (hu : okL L u twT) (h : kOk (m_Tw_lettersWrong u p0 M) (fun r => RI X B L 2 cX8_lettersWrong .int rm_Tw_lettersWrong r.1 r.2)) : KK X B L 2 0 0 M 0 [(0, .ref (B.1 + u)), (1, .int p0)] [] := by
  unfold m_Tw_lettersWrong at h
  refine k_aload_n G (dc d_Tw_lettersWrong 0 rfl) 0 rfl rfl ?_
  refine k_iload_n G (dc d_Tw_lettersWrong 1 rfl) 1 rfl rfl ?_
  obtain ⟨x2, e1, h⟩ := kOk_b h
  refine k_cVI G (dc d_Tw_lettersWrong 2 rfl) kc6 (okL_lt hu (o := 0) 0 rfl) (okL_k hu (o := 0) 0 rfl) mi_Tw_hasSign mv_Tw_hasSign rfl ml_RX8_40 (c_Tw_hasSign (gst G) hu e1) rfl rfl ⟨rfl, rfl⟩ rfl ⟨rfl, rfl⟩ ⟨rfl, rfl⟩ ?_
  refine k_if_ne G (dc d_Tw_lettersWrong 3 rfl) (tgt := 10) rfl (fun c3 => ?_) (fun c3 => ?_)
  · replace h := kOk_n c3 h
    refine k_aload_n G (dc d_Tw_lettersWrong 6 rfl) 0 rfl rfl ?_
    refine k_getR G kc6 (dc d_Tw_lettersWrong 7 rfl) (okL_lt hu (o := 0) 0 rfl) (okL_k hu (o := 0) 0 rfl) 1 (by decide) rfl fl_RX8_21 (u + 13) (okL_r hu (o := 0) (c := 13) 0 rfl 1 rfl) ?_
    refine k_aload_n G (dc d_Tw_lettersWrong 8 rfl) 0 rfl rfl ?_
    refine k_getR G kc6 (dc d_Tw_lettersWrong 9 rfl) (okL_lt hu (o := 0) 0 rfl) (okL_k hu (o := 0) 0 rfl) 0 (by decide) rfl fl_RX8_12 (u + 1) (okL_r hu (o := 0) (c := 1) 0 rfl 0 rfl) ?_
    refine k_getR G kc5 (dc d_Tw_lettersWrong 10 rfl) (okL_lt hu (o := 1) 1 rfl) (okL_k hu (o := 1) 1 rfl) 4 (by decide) rfl fl_RX8_44 (u + 6) (okL_r hu (o := 1) (c := 6) 1 rfl 3 rfl) ?_
    refine k_iload_n G (dc d_Tw_lettersWrong 11 rfl) 1 rfl rfl ?_
    obtain ⟨x5, e4, h⟩ := kOk_b h
    refine k_ild G (dc d_Tw_lettersWrong 12 rfl) (okL_lt hu (o := 6) 6 rfl) (okL_k hu (o := 6) 6 rfl) (okL_n hu (o := 6) 6 rfl) e4 ?_
    refine k_aload_n G (dc d_Tw_lettersWrong 13 rfl) 0 rfl rfl ?_
    refine k_getR G kc6 (dc d_Tw_lettersWrong 14 rfl) (okL_lt hu (o := 0) 0 rfl) (okL_k hu (o := 0) 0 rfl) 0 (by decide) rfl fl_RX8_12 (u + 1) (okL_r hu (o := 0) (c := 1) 0 rfl 0 rfl) ?_
    refine k_getR G kc5 (dc d_Tw_lettersWrong 15 rfl) (okL_lt hu (o := 1) 1 rfl) (okL_k hu (o := 1) 1 rfl) 5 (by decide) rfl fl_RX8_47 (u + 7) (okL_r hu (o := 1) (c := 7) 1 rfl 4 rfl) ?_
    refine k_iload_n G (dc d_Tw_lettersWrong 16 rfl) 1 rfl rfl ?_
    obtain ⟨x7, e6, h⟩ := kOk_b h
    refine k_ild G (dc d_Tw_lettersWrong 17 rfl) (okL_lt hu (o := 7) 7 rfl) (okL_k hu (o := 7) 7 rfl) (okL_n hu (o := 7) 7 rfl) e6 ?_
    obtain ⟨⟨x9, M10⟩, e8, h⟩ := kOk_b h
    refine k_cVI G (dc d_Tw_lettersWrong 18 rfl) kc4 (okL_lt hu (o := 13) 13 rfl) (okL_k hu (o := 13) 13 rfl) mi_Ru_measured mv_Ru_measured rfl ml_RX8_50 (c_Ru_measured (gst G) (okL_sub hu 13 (by decide +kernel)) e8) rfl rfl ⟨rfl, rfl⟩ rfl ⟨rfl, rfl⟩ ⟨rfl, rfl⟩ ?_
    exact (kOk_s h) _ _ _ _ rfl rfl rfl (dc d_Tw_lettersWrong 19 rfl)
  · replace h := kOk_p c3 h
    refine k_iconst G (dc d_Tw_lettersWrong 4 rfl) cI_0 ?_
    exact (kOk_s h) _ _ _ _ rfl rfl rfl (dc d_Tw_lettersWrong 5 rfl)
theorem c_Tw_lettersWrong {l : Launch} {B : KB} {L : KLay} {M : KMem} {u : Nat} {p0 : Int32} (hst : l.stackTraces = false) (hu : okL L u twT) {r : Int32} {M' : KMem} (e : m_Tw_lettersWrong u p0 M = some (r, M')) : CtrN l B yX8_lettersWrong cX8_lettersWrong 2 (some .int) rm_Tw_lettersWrong [.ref (B.1 + u), .int p0] L M (some (.int r)) L M' :=
  mk_I rfl hst rfl (fun X hl G _ R => b_Tw_lettersWrong G hu ⟨_, e, R⟩)
def I_Tw_costOf : List (Nat × Instr × Nat) := [(0, .aload_n 0, 1), (1, .iload_n 1, 1), (2, .invokevirtual 54, 3), (5, .aload_n 0, 1), (6, .getfield 12, 3), (9, .getfield 58, 3), (12, .iconst 0, 1), (13, .iaload, 1), (14, .imul, 1), (15, .ireturn, 1)]
set_option maxRecDepth 100000 in
theorem d_Tw_costOf : decA cX8_costOf I_Tw_costOf = true := by decide +kernel
abbrev rm_Tw_costOf : Room := ({ frames := 4, cells := 0, slots := 0, locals := 94 } : Room)
def m_Tw_costOf (u : Nat) (p0 : Int32) (M : KMem) : Option (Int32 × KMem) :=
 Option.bind (m_Tw_lettersWrong u p0 M) fun (x2, M3) =>
 Option.bind (rdI M3 (u + 12) 2 0) fun x5 =>
 some (x2 * x5, M3)
set_option maxHeartbeats 4000000 in
set_option maxRecDepth 100000 in
theorem b_Tw_costOf {X : KX} {B : KB} {L : KLay} {M : KMem} {u : Nat} {p0 : Int32} (G : Good X B RX8 cX8_costOf 2 rm_Tw_costOf) (hu : okL L u twT) (h : kOk (m_Tw_costOf u p0 M) (fun r => RI X B L 2 cX8_costOf .int rm_Tw_costOf r.1 r.2)) : KK X B L 2 0 0 M 0 [(0, .ref (B.1 + u)), (1, .int p0)] [] := by
  unfold m_Tw_costOf at h
  refine k_aload_n G (dc d_Tw_costOf 0 rfl) 0 rfl rfl ?_
  refine k_iload_n G (dc d_Tw_costOf 1 rfl) 1 rfl rfl ?_
  obtain ⟨⟨x2, M3⟩, e1, h⟩ := kOk_b h
  refine k_cVI G (dc d_Tw_costOf 2 rfl) kc6 (okL_lt hu (o := 0) 0 rfl) (okL_k hu (o := 0) 0 rfl) mi_Tw_lettersWrong mv_Tw_lettersWrong rfl ml_RX8_54 (c_Tw_lettersWrong (gst G) hu e1) rfl rfl ⟨rfl, rfl⟩ rfl ⟨rfl, rfl⟩ ⟨rfl, rfl⟩ ?_
  refine k_aload_n G (dc d_Tw_costOf 3 rfl) 0 rfl rfl ?_
  refine k_getR G kc6 (dc d_Tw_costOf 4 rfl) (okL_lt hu (o := 0) 0 rfl) (okL_k hu (o := 0) 0 rfl) 0 (by decide) rfl fl_RX8_12 (u + 1) (okL_r hu (o := 0) (c := 1) 0 rfl 0 rfl) ?_
  refine k_getR G kc5 (dc d_Tw_costOf 5 rfl) (okL_lt hu (o := 1) 1 rfl) (okL_k hu (o := 1) 1 rfl) 10 (by decide) rfl fl_RX8_58 (u + 12) (okL_r hu (o := 1) (c := 12) 1 rfl 9 rfl) ?_
  refine k_iconst G (dc d_Tw_costOf 6 rfl) cI_0 ?_
  obtain ⟨x5, e4, h⟩ := kOk_b h
  refine k_ild G (dc d_Tw_costOf 7 rfl) (okL_lt hu (o := 12) 12 rfl) (okL_k hu (o := 12) 12 rfl) (okL_n hu (o := 12) 12 rfl) e4 ?_
  refine k_imul G (dc d_Tw_costOf 8 rfl) ?_
  exact (kOk_s h) _ _ _ _ rfl rfl rfl (dc d_Tw_costOf 9 rfl)
theorem c_Tw_costOf {l : Launch} {B : KB} {L : KLay} {M : KMem} {u : Nat} {p0 : Int32} (hst : l.stackTraces = false) (hu : okL L u twT) {r : Int32} {M' : KMem} (e : m_Tw_costOf u p0 M = some (r, M')) : CtrN l B yX8_costOf cX8_costOf 2 (some .int) rm_Tw_costOf [.ref (B.1 + u), .int p0] L M (some (.int r)) L M' :=
  mk_I rfl hst rfl (fun X hl G _ R => b_Tw_costOf G hu ⟨_, e, R⟩)
def I_Tw_spelled : List (Nat × Instr × Nat) := [(0, .aload_n 0, 1), (1, .iload_n 1, 1), (2, .invokevirtual 40, 3), (5, .ifCond .ne 5, 3), (8, .iconst 0, 1), (9, .ireturn, 1), (10, .aload_n 0, 1), (11, .getfield 12, 3), (14, .getfield 61, 3), (17, .iload_n 1, 1), (18, .iaload, 1), (19, .istore_n 3, 1), (20, .iload_n 2, 1), (21, .ifCond .eq 21, 3), (24, .aload_n 0, 1), (25, .getfield 28, 3), (28, .aload_n 0, 1), (29, .getfield 12, 3), (32, .getfield 64, 3), (35, .iload_n 3, 1), (36, .invokevirtual 68, 3), (39, .goto 14, 3), (42, .aload_n 0, 1), (43, .getfield 12, 3), (46, .getfield 64, 3), (49, .iload_n 3, 1), (50, .invokevirtual 72, 3), (53, .ireturn, 1)]
set_option maxRecDepth 100000 in
theorem d_Tw_spelled : decA cX8_spelled I_Tw_spelled = true := by decide +kernel
abbrev rm_Tw_spelled : Room := ({ frames := 6, cells := 0, slots := 0, locals := 145 } : Room)
def m_Tw_spelled (u : Nat) (p0 : Int32) (p1 : Int32) (M : KMem) : Option (Int32 × KMem) :=
 Option.bind (m_Tw_hasSign u p0 M) fun x2 =>
 if x2 = 0 then
 (some (0, M))
 else
 (Option.bind (rdI M (u + 5) 8 p0) fun x5 =>
 Option.bind (α := Int32 × KMem) (if p1 = 0 then
 (Option.bind (m_De_spellingOf (u + 2) x5 M) fun x11 =>
 some (x11, M))
 else
 (Option.bind (m_Fl_spellingOf (u + 15) (u + 2) x5 M) fun (x13, M14) =>
 some (x13, M14))) fun (t6, M7) =>
 some (t6, M7))
set_option maxHeartbeats 4000000 in
set_option maxRecDepth 100000 in
theorem b_Tw_spelled {X : KX} {B : KB} {L : KLay} {M : KMem} {u : Nat} {p0 : Int32} {p1 : Int32} (G : Good X B RX8 cX8_spelled 4 rm_Tw_spelled) (hu : okL L u twT) (h : kOk (m_Tw_spelled u p0 p1 M) (fun r => RI X B L 4 cX8_spelled .int rm_Tw_spelled r.1 r.2)) : KK X B L 4 0 0 M 0 [(0, .ref (B.1 + u)), (1, .int p0), (2, .int p1)] [] := by
  unfold m_Tw_spelled at h
  refine k_aload_n G (dc d_Tw_spelled 0 rfl) 0 rfl rfl ?_
  refine k_iload_n G (dc d_Tw_spelled 1 rfl) 1 rfl rfl ?_
  obtain ⟨x2, e1, h⟩ := kOk_b h
  refine k_cVI G (dc d_Tw_spelled 2 rfl) kc6 (okL_lt hu (o := 0) 0 rfl) (okL_k hu (o := 0) 0 rfl) mi_Tw_hasSign mv_Tw_hasSign rfl ml_RX8_40 (c_Tw_hasSign (gst G) hu e1) rfl rfl ⟨rfl, rfl⟩ rfl ⟨rfl, rfl⟩ ⟨rfl, rfl⟩ ?_
  refine k_if_ne G (dc d_Tw_spelled 3 rfl) (tgt := 10) rfl (fun c3 => ?_) (fun c3 => ?_)
  · replace h := kOk_n c3 h
    refine k_aload_n G (dc d_Tw_spelled 6 rfl) 0 rfl rfl ?_
    refine k_getR G kc6 (dc d_Tw_spelled 7 rfl) (okL_lt hu (o := 0) 0 rfl) (okL_k hu (o := 0) 0 rfl) 0 (by decide) rfl fl_RX8_12 (u + 1) (okL_r hu (o := 0) (c := 1) 0 rfl 0 rfl) ?_
    refine k_getR G kc5 (dc d_Tw_spelled 8 rfl) (okL_lt hu (o := 1) 1 rfl) (okL_k hu (o := 1) 1 rfl) 3 (by decide) rfl fl_RX8_61 (u + 5) (okL_r hu (o := 1) (c := 5) 1 rfl 2 rfl) ?_
    refine k_iload_n G (dc d_Tw_spelled 9 rfl) 1 rfl rfl ?_
    obtain ⟨x5, e4, h⟩ := kOk_b h
    refine k_ild G (dc d_Tw_spelled 10 rfl) (okL_lt hu (o := 5) 5 rfl) (okL_k hu (o := 5) 5 rfl) (okL_n hu (o := 5) 5 rfl) e4 ?_
    refine k_istore_n G (dc d_Tw_spelled 11 rfl) (ls' := [(3, .int x5), (0, .ref (B.1 + u)), (1, .int p0), (2, .int p1)]) rfl rfl rfl ?_
    refine k_iload_n G (dc d_Tw_spelled 12 rfl) 3 rfl rfl ?_
    refine kJ h (fun r8 => KK X B L 4 0 0 r8.2 53 [] [.int r8.1]) (fun r8 h => ?_) (fun h => ?_)
    · obtain ⟨t6, M7⟩ := r8
      show KK X B L 4 0 0 M7 53 [] [.int t6]
      exact (kOk_s h) _ _ _ _ rfl rfl rfl (dc d_Tw_spelled 27 rfl)
    · refine k_if_eq G (dc d_Tw_spelled 13 rfl) (tgt := 42) rfl (fun c9 => ?_) (fun c9 => ?_)
      · replace h := kOk_p c9 h
        refine k_aload_n G (dc d_Tw_spelled 22 rfl) 1 rfl rfl ?_
        refine k_getR G kc6 (dc d_Tw_spelled 23 rfl) (okL_lt hu (o := 0) 0 rfl) (okL_k hu (o := 0) 0 rfl) 0 (by decide) rfl fl_RX8_12 (u + 1) (okL_r hu (o := 0) (c := 1) 0 rfl 0 rfl) ?_
        refine k_getR G kc5 (dc d_Tw_spelled 24 rfl) (okL_lt hu (o := 1) 1 rfl) (okL_k hu (o := 1) 1 rfl) 0 (by decide) rfl fl_RX8_64 (u + 2) (okL_r hu (o := 1) (c := 2) 1 rfl 0 rfl) ?_
        refine k_iload_n G (dc d_Tw_spelled 25 rfl) 0 rfl rfl ?_
        obtain ⟨x11, e10, h⟩ := kOk_b h
        refine k_cVI G (dc d_Tw_spelled 26 rfl) kc0 (okL_lt hu (o := 2) 2 rfl) (okL_k hu (o := 2) 2 rfl) mi_De_spellingOf mv_De_spellingOf rfl ml_RX8_72 (c_De_spellingOf (gst G) (okL_sub hu 2 (by decide +kernel)) e10) rfl rfl ⟨rfl, rfl⟩ rfl ⟨rfl, rfl⟩ ⟨rfl, rfl⟩ ?_
        refine k_sub [] rfl ?_
        have h9 := kOk_s h
        exact h9
      · replace h := kOk_n c9 h
        refine k_aload_n G (dc d_Tw_spelled 14 rfl) 1 rfl rfl ?_
        refine k_getR G kc6 (dc d_Tw_spelled 15 rfl) (okL_lt hu (o := 0) 0 rfl) (okL_k hu (o := 0) 0 rfl) 2 (by decide) rfl fl_RX8_28 (u + 15) (okL_r hu (o := 0) (c := 15) 0 rfl 2 rfl) ?_
        refine k_aload_n G (dc d_Tw_spelled 16 rfl) 1 rfl rfl ?_
        refine k_getR G kc6 (dc d_Tw_spelled 17 rfl) (okL_lt hu (o := 0) 0 rfl) (okL_k hu (o := 0) 0 rfl) 0 (by decide) rfl fl_RX8_12 (u + 1) (okL_r hu (o := 0) (c := 1) 0 rfl 0 rfl) ?_
        refine k_getR G kc5 (dc d_Tw_spelled 18 rfl) (okL_lt hu (o := 1) 1 rfl) (okL_k hu (o := 1) 1 rfl) 0 (by decide) rfl fl_RX8_64 (u + 2) (okL_r hu (o := 1) (c := 2) 1 rfl 0 rfl) ?_
        refine k_iload_n G (dc d_Tw_spelled 19 rfl) 0 rfl rfl ?_
        obtain ⟨⟨x13, M14⟩, e12, h⟩ := kOk_b h
        refine k_cVI G (dc d_Tw_spelled 20 rfl) kc1 (okL_lt hu (o := 15) 15 rfl) (okL_k hu (o := 15) 15 rfl) mi_Fl_spellingOf mv_Fl_spellingOf rfl ml_RX8_68 (c_Fl_spellingOf (gst G) (okL_sub hu 15 (by decide +kernel)) (okL_sub hu 2 (by decide +kernel)) e12) rfl rfl ⟨rfl, rfl⟩ rfl ⟨rfl, rfl⟩ ⟨rfl, rfl⟩ ?_
        refine k_goto G (dc d_Tw_spelled 21 rfl) (tgt := 53) rfl ?_
        refine k_sub [] rfl ?_
        have h9 := kOk_s h
        exact h9
  · replace h := kOk_p c3 h
    refine k_iconst G (dc d_Tw_spelled 4 rfl) cI_0 ?_
    exact (kOk_s h) _ _ _ _ rfl rfl rfl (dc d_Tw_spelled 5 rfl)
theorem c_Tw_spelled {l : Launch} {B : KB} {L : KLay} {M : KMem} {u : Nat} {p0 : Int32} {p1 : Int32} (hst : l.stackTraces = false) (hu : okL L u twT) {r : Int32} {M' : KMem} (e : m_Tw_spelled u p0 p1 M = some (r, M')) : CtrN l B yX8_spelled cX8_spelled 4 (some .int) rm_Tw_spelled [.ref (B.1 + u), .int p0, .int p1] L M (some (.int r)) L M' :=
  mk_I rfl hst rfl (fun X hl G _ R => b_Tw_spelled G hu ⟨_, e, R⟩)
def I_Tw_spellingsApart : List (Nat × Instr × Nat) := [(0, .aload_n 0, 1), (1, .iload_n 1, 1), (2, .invokevirtual 40, 3), (5, .ifCond .eq 11, 3), (8, .aload_n 0, 1), (9, .iload_n 2, 1), (10, .invokevirtual 40, 3), (13, .ifCond .ne 5, 3), (16, .iconst 0, 1), (17, .ireturn, 1), (18, .aload_n 0, 1), (19, .getfield 21, 3), (22, .aload_n 0, 1), (23, .getfield 12, 3), (26, .getfield 47, 3), (29, .iload_n 1, 1), (30, .iaload, 1), (31, .aload_n 0, 1), (32, .getfield 12, 3), (35, .getfield 47, 3), (38, .iload_n 2, 1), (39, .iaload, 1), (40, .invokevirtual 50, 3), (43, .ireturn, 1)]
set_option maxRecDepth 100000 in
theorem d_Tw_spellingsApart : decA cX8_spellingsApart I_Tw_spellingsApart = true := by decide +kernel
abbrev rm_Tw_spellingsApart : Room := ({ frames := 3, cells := 0, slots := 0, locals := 73 } : Room)
def m_Tw_spellingsApart (u : Nat) (p0 : Int32) (p1 : Int32) (M : KMem) : Option (Int32 × KMem) :=
 Option.bind (m_Tw_hasSign u p0 M) fun x2 =>
 if x2 = 0 then
 (some (0, M))
 else
 (Option.bind (m_Tw_hasSign u p1 M) fun x5 =>
 if x5 = 0 then
 (some (0, M))
 else
 (Option.bind (rdI M (u + 7) 8 p0) fun x8 =>
 Option.bind (rdI M (u + 7) 8 p1) fun x10 =>
 Option.bind (m_Ru_measured (u + 13) x8 x10 M) fun (x12, M13) =>
 some (x12, M13)))
set_option maxHeartbeats 4000000 in
set_option maxRecDepth 100000 in
theorem b_Tw_spellingsApart {X : KX} {B : KB} {L : KLay} {M : KMem} {u : Nat} {p0 : Int32} {p1 : Int32} (G : Good X B RX8 cX8_spellingsApart 3 rm_Tw_spellingsApart) (hu : okL L u twT) (h : kOk (m_Tw_spellingsApart u p0 p1 M) (fun r => RI X B L 3 cX8_spellingsApart .int rm_Tw_spellingsApart r.1 r.2)) : KK X B L 3 0 0 M 0 [(0, .ref (B.1 + u)), (1, .int p0), (2, .int p1)] [] := by
  unfold m_Tw_spellingsApart at h
  refine k_aload_n G (dc d_Tw_spellingsApart 0 rfl) 0 rfl rfl ?_
  refine k_iload_n G (dc d_Tw_spellingsApart 1 rfl) 1 rfl rfl ?_
  obtain ⟨x2, e1, h⟩ := kOk_b h
  refine k_cVI G (dc d_Tw_spellingsApart 2 rfl) kc6 (okL_lt hu (o := 0) 0 rfl) (okL_k hu (o := 0) 0 rfl) mi_Tw_hasSign mv_Tw_hasSign rfl ml_RX8_40 (c_Tw_hasSign (gst G) hu e1) rfl rfl ⟨rfl, rfl⟩ rfl ⟨rfl, rfl⟩ ⟨rfl, rfl⟩ ?_
  refine k_if_eq G (dc d_Tw_spellingsApart 3 rfl) (tgt := 16) rfl (fun c3 => ?_) (fun c3 => ?_)
  · replace h := kOk_p c3 h
    refine k_iconst G (dc d_Tw_spellingsApart 8 rfl) cI_0 ?_
    exact (kOk_s h) _ _ _ _ rfl rfl rfl (dc d_Tw_spellingsApart 9 rfl)
  · replace h := kOk_n c3 h
    refine k_aload_n G (dc d_Tw_spellingsApart 4 rfl) 0 rfl rfl ?_
    refine k_iload_n G (dc d_Tw_spellingsApart 5 rfl) 2 rfl rfl ?_
    obtain ⟨x5, e4, h⟩ := kOk_b h
    refine k_cVI G (dc d_Tw_spellingsApart 6 rfl) kc6 (okL_lt hu (o := 0) 0 rfl) (okL_k hu (o := 0) 0 rfl) mi_Tw_hasSign mv_Tw_hasSign rfl ml_RX8_40 (c_Tw_hasSign (gst G) hu e4) rfl rfl ⟨rfl, rfl⟩ rfl ⟨rfl, rfl⟩ ⟨rfl, rfl⟩ ?_
    refine k_if_ne G (dc d_Tw_spellingsApart 7 rfl) (tgt := 18) rfl (fun c6 => ?_) (fun c6 => ?_)
    · replace h := kOk_n c6 h
      refine k_aload_n G (dc d_Tw_spellingsApart 10 rfl) 0 rfl rfl ?_
      refine k_getR G kc6 (dc d_Tw_spellingsApart 11 rfl) (okL_lt hu (o := 0) 0 rfl) (okL_k hu (o := 0) 0 rfl) 1 (by decide) rfl fl_RX8_21 (u + 13) (okL_r hu (o := 0) (c := 13) 0 rfl 1 rfl) ?_
      refine k_aload_n G (dc d_Tw_spellingsApart 12 rfl) 0 rfl rfl ?_
      refine k_getR G kc6 (dc d_Tw_spellingsApart 13 rfl) (okL_lt hu (o := 0) 0 rfl) (okL_k hu (o := 0) 0 rfl) 0 (by decide) rfl fl_RX8_12 (u + 1) (okL_r hu (o := 0) (c := 1) 0 rfl 0 rfl) ?_
      refine k_getR G kc5 (dc d_Tw_spellingsApart 14 rfl) (okL_lt hu (o := 1) 1 rfl) (okL_k hu (o := 1) 1 rfl) 5 (by decide) rfl fl_RX8_47 (u + 7) (okL_r hu (o := 1) (c := 7) 1 rfl 4 rfl) ?_
      refine k_iload_n G (dc d_Tw_spellingsApart 15 rfl) 1 rfl rfl ?_
      obtain ⟨x8, e7, h⟩ := kOk_b h
      refine k_ild G (dc d_Tw_spellingsApart 16 rfl) (okL_lt hu (o := 7) 7 rfl) (okL_k hu (o := 7) 7 rfl) (okL_n hu (o := 7) 7 rfl) e7 ?_
      refine k_aload_n G (dc d_Tw_spellingsApart 17 rfl) 0 rfl rfl ?_
      refine k_getR G kc6 (dc d_Tw_spellingsApart 18 rfl) (okL_lt hu (o := 0) 0 rfl) (okL_k hu (o := 0) 0 rfl) 0 (by decide) rfl fl_RX8_12 (u + 1) (okL_r hu (o := 0) (c := 1) 0 rfl 0 rfl) ?_
      refine k_getR G kc5 (dc d_Tw_spellingsApart 19 rfl) (okL_lt hu (o := 1) 1 rfl) (okL_k hu (o := 1) 1 rfl) 5 (by decide) rfl fl_RX8_47 (u + 7) (okL_r hu (o := 1) (c := 7) 1 rfl 4 rfl) ?_
      refine k_iload_n G (dc d_Tw_spellingsApart 20 rfl) 2 rfl rfl ?_
      obtain ⟨x10, e9, h⟩ := kOk_b h
      refine k_ild G (dc d_Tw_spellingsApart 21 rfl) (okL_lt hu (o := 7) 7 rfl) (okL_k hu (o := 7) 7 rfl) (okL_n hu (o := 7) 7 rfl) e9 ?_
      obtain ⟨⟨x12, M13⟩, e11, h⟩ := kOk_b h
      refine k_cVI G (dc d_Tw_spellingsApart 22 rfl) kc4 (okL_lt hu (o := 13) 13 rfl) (okL_k hu (o := 13) 13 rfl) mi_Ru_measured mv_Ru_measured rfl ml_RX8_50 (c_Ru_measured (gst G) (okL_sub hu 13 (by decide +kernel)) e11) rfl rfl ⟨rfl, rfl⟩ rfl ⟨rfl, rfl⟩ ⟨rfl, rfl⟩ ?_
      exact (kOk_s h) _ _ _ _ rfl rfl rfl (dc d_Tw_spellingsApart 23 rfl)
    · replace h := kOk_p c6 h
      refine k_iconst G (dc d_Tw_spellingsApart 8 rfl) cI_0 ?_
      exact (kOk_s h) _ _ _ _ rfl rfl rfl (dc d_Tw_spellingsApart 9 rfl)
theorem c_Tw_spellingsApart {l : Launch} {B : KB} {L : KLay} {M : KMem} {u : Nat} {p0 : Int32} {p1 : Int32} (hst : l.stackTraces = false) (hu : okL L u twT) {r : Int32} {M' : KMem} (e : m_Tw_spellingsApart u p0 p1 M = some (r, M')) : CtrN l B yX8_spellingsApart cX8_spellingsApart 3 (some .int) rm_Tw_spellingsApart [.ref (B.1 + u), .int p0, .int p1] L M (some (.int r)) L M' :=
  mk_I rfl hst rfl (fun X hl G _ R => b_Tw_spellingsApart G hu ⟨_, e, R⟩)
def I_Tw_reasonAgainstSign : List (Nat × Instr × Nat) := [(0, .iload_n 2, 1), (1, .ifCond .ne 5, 3), (4, .iconst 1, 1), (5, .ireturn, 1), (6, .iconst 0, 1), (7, .istore_n 3, 1), (8, .iload_n 3, 1), (9, .bipush 8, 2), (11, .if_icmp .ge 45, 3), (14, .aload_n 0, 1), (15, .iload_n 3, 1), (16, .invokevirtual 40, 3), (19, .ifCond .eq 37, 3), (22, .aload_n 0, 1), (23, .getfield 12, 3), (26, .getfield 79, 3), (29, .iload_n 3, 1), (30, .iaload, 1), (31, .iload_n 1, 1), (32, .if_icmp .ne 18, 3), (35, .aload_n 0, 1), (36, .getfield 12, 3), (39, .getfield 47, 3), (42, .iload_n 3, 1), (43, .iaload, 1), (44, .iload_n 2, 1), (45, .if_icmp .ne 5, 3), (48, .iconst 2, 1), (49, .ireturn, 1), (50, .iinc 3 1, 3), (53, .goto (-45), 3), (56, .iconst 0, 1), (57, .ireturn, 1)]
set_option maxRecDepth 100000 in
theorem d_Tw_reasonAgainstSign : decA cX8_reasonAgainstSign I_Tw_reasonAgainstSign = true := by decide +kernel
abbrev rm_Tw_reasonAgainstSign : Room := ({ frames := 1, cells := 0, slots := 0, locals := 21 } : Room)
def m_Tw_reasonAgainstSign_l8 (u : Nat) (p0 : Int32) (p1 : Int32) (M : KMem) : Int32 → Option (Int32 ⊕ (Int32 ⊕ Unit)) := fun v3_2 =>
 if 8 ≤ v3_2 then
 (some (.inr (.inr ())))
 else
 (Option.bind (m_Tw_hasSign u v3_2 M) fun x5 =>
 if x5 = 0 then
 (some (.inr (.inr ())))
 else
 (Option.bind (rdI M (u + 4) 8 v3_2) fun x8 =>
 if x8 = p0 then
 (Option.bind (rdI M (u + 7) 8 v3_2) fun x11 =>
 if x11 = p1 then
 (some (.inr (.inl 2)))
 else
 (some (.inl (v3_2 + 1))))
 else
 (some (.inl (v3_2 + 1)))))
def m_Tw_reasonAgainstSign (u : Nat) (p0 : Int32) (p1 : Int32) (M : KMem) : Option Int32 :=
 if p1 = 0 then
 (some 1)
 else
 (Option.bind (α := Int32 ⊕ Unit) (kLp (m_Tw_reasonAgainstSign_l8 u p0 p1 M) kFU 0) fun r => match r with
 | .inl q => some q
 | .inr _ =>
 (some 0))
set_option maxHeartbeats 4000000 in
set_option maxRecDepth 100000 in
theorem b_Tw_reasonAgainstSign {X : KX} {B : KB} {L : KLay} {M : KMem} {u : Nat} {p0 : Int32} {p1 : Int32} (G : Good X B RX8 cX8_reasonAgainstSign 4 rm_Tw_reasonAgainstSign) (hu : okL L u twT) (h : kOk (m_Tw_reasonAgainstSign u p0 p1 M) (fun r => RI X B L 4 cX8_reasonAgainstSign .int rm_Tw_reasonAgainstSign r M)) : KK X B L 4 0 0 M 0 [(0, .ref (B.1 + u)), (1, .int p0), (2, .int p1)] [] := by
  unfold m_Tw_reasonAgainstSign at h
  refine k_iload_n G (dc d_Tw_reasonAgainstSign 0 rfl) 2 rfl rfl ?_
  refine k_if_ne G (dc d_Tw_reasonAgainstSign 1 rfl) (tgt := 6) rfl (fun c1 => ?_) (fun c1 => ?_)
  · replace h := kOk_n c1 h
    refine k_iconst G (dc d_Tw_reasonAgainstSign 4 rfl) cI_0 ?_
    refine k_istore_n G (dc d_Tw_reasonAgainstSign 5 rfl) (ls' := [(3, .int 0), (0, .ref (B.1 + u)), (1, .int p0), (2, .int p1)]) rfl rfl rfl ?_
    refine kJ h (fun r13 => match r13 with | .inl q => RI X B L 4 cX8_reasonAgainstSign .int rm_Tw_reasonAgainstSign q M | .inr r13 => KK X B L 4 0 0 M 56 [] []) (fun r13 h => ?_) (fun h => ?_)
    · rcases r13 with q | r13
      · have h9 := kOk_s h
        exact h9
      · show KK X B L 4 0 0 M 56 [] []
        refine k_iconst G (dc d_Tw_reasonAgainstSign 31 rfl) cI_0 ?_
        exact (kOk_s h) _ _ _ _ rfl rfl rfl (dc d_Tw_reasonAgainstSign 32 rfl)
    · refine k_sub [1, 2, 3, 0] rfl ?_
      refine kLp_ok (P := fun s14 => KK X B L 4 0 0 M 8 [(0, .ref (B.1 + u)), (1, .int p0), (2, .int p1), (3, .int s14)] []) (fun s14 h => ?_) kFU _ h
      obtain ⟨v3_2, rfl⟩ : ∃ z, z = s14 := ⟨_, rfl⟩
      unfold m_Tw_reasonAgainstSign_l8 at h
      show KK X B L 4 0 0 M 8 [(0, .ref (B.1 + u)), (1, .int p0), (2, .int p1), (3, .int v3_2)] []
      refine k_iload_n G (dc d_Tw_reasonAgainstSign 6 rfl) 3 rfl rfl ?_
      refine k_bipush G (dc d_Tw_reasonAgainstSign 7 rfl) cB_8 ?_
      refine k_icmp_ge G (dc d_Tw_reasonAgainstSign 8 rfl) (tgt := 56) rfl (fun c3 => ?_) (fun c3 => ?_)
      · replace h := kOk_p c3 h
        refine k_sub [] rfl ?_
        have h9 := kOk_s h
        exact h9
      · replace h := kOk_n c3 h
        refine k_aload_n G (dc d_Tw_reasonAgainstSign 9 rfl) 0 rfl rfl ?_
        refine k_iload_n G (dc d_Tw_reasonAgainstSign 10 rfl) 3 rfl rfl ?_
        obtain ⟨x5, e4, h⟩ := kOk_b h
        refine k_cVI G (dc d_Tw_reasonAgainstSign 11 rfl) kc6 (okL_lt hu (o := 0) 0 rfl) (okL_k hu (o := 0) 0 rfl) mi_Tw_hasSign mv_Tw_hasSign rfl ml_RX8_40 (c_Tw_hasSign (gst G) hu e4) rfl rfl ⟨rfl, rfl⟩ rfl ⟨rfl, rfl⟩ ⟨rfl, rfl⟩ ?_
        refine k_if_eq G (dc d_Tw_reasonAgainstSign 12 rfl) (tgt := 56) rfl (fun c6 => ?_) (fun c6 => ?_)
        · replace h := kOk_p c6 h
          refine k_sub [] rfl ?_
          have h9 := kOk_s h
          exact h9
        · replace h := kOk_n c6 h
          refine k_aload_n G (dc d_Tw_reasonAgainstSign 13 rfl) 0 rfl rfl ?_
          refine k_getR G kc6 (dc d_Tw_reasonAgainstSign 14 rfl) (okL_lt hu (o := 0) 0 rfl) (okL_k hu (o := 0) 0 rfl) 0 (by decide) rfl fl_RX8_12 (u + 1) (okL_r hu (o := 0) (c := 1) 0 rfl 0 rfl) ?_
          refine k_getR G kc5 (dc d_Tw_reasonAgainstSign 15 rfl) (okL_lt hu (o := 1) 1 rfl) (okL_k hu (o := 1) 1 rfl) 2 (by decide) rfl fl_RX8_79 (u + 4) (okL_r hu (o := 1) (c := 4) 1 rfl 1 rfl) ?_
          refine k_iload_n G (dc d_Tw_reasonAgainstSign 16 rfl) 3 rfl rfl ?_
          obtain ⟨x8, e7, h⟩ := kOk_b h
          refine k_ild G (dc d_Tw_reasonAgainstSign 17 rfl) (okL_lt hu (o := 4) 4 rfl) (okL_k hu (o := 4) 4 rfl) (okL_n hu (o := 4) 4 rfl) e7 ?_
          refine k_iload_n G (dc d_Tw_reasonAgainstSign 18 rfl) 1 rfl rfl ?_
          refine k_icmp_ne G (dc d_Tw_reasonAgainstSign 19 rfl) (tgt := 50) rfl (fun c9 => ?_) (fun c9 => ?_)
          · replace h := kOk_n c9 h
            refine k_iinc G (dc d_Tw_reasonAgainstSign 29 rfl) (ls' := [(3, .int (v3_2 + 1)), (0, .ref (B.1 + u)), (1, .int p0), (2, .int p1)]) 3 rfl cI_1 rfl rfl ?_
            refine k_goto G (dc d_Tw_reasonAgainstSign 30 rfl) (tgt := 8) rfl ?_
            refine k_sub [1, 2, 3, 0] rfl ?_
            have h9 := kOk_s h
            exact h9
          · replace h := kOk_p c9 h
            refine k_aload_n G (dc d_Tw_reasonAgainstSign 20 rfl) 0 rfl rfl ?_
            refine k_getR G kc6 (dc d_Tw_reasonAgainstSign 21 rfl) (okL_lt hu (o := 0) 0 rfl) (okL_k hu (o := 0) 0 rfl) 0 (by decide) rfl fl_RX8_12 (u + 1) (okL_r hu (o := 0) (c := 1) 0 rfl 0 rfl) ?_
            refine k_getR G kc5 (dc d_Tw_reasonAgainstSign 22 rfl) (okL_lt hu (o := 1) 1 rfl) (okL_k hu (o := 1) 1 rfl) 5 (by decide) rfl fl_RX8_47 (u + 7) (okL_r hu (o := 1) (c := 7) 1 rfl 4 rfl) ?_
            refine k_iload_n G (dc d_Tw_reasonAgainstSign 23 rfl) 3 rfl rfl ?_
            obtain ⟨x11, e10, h⟩ := kOk_b h
            refine k_ild G (dc d_Tw_reasonAgainstSign 24 rfl) (okL_lt hu (o := 7) 7 rfl) (okL_k hu (o := 7) 7 rfl) (okL_n hu (o := 7) 7 rfl) e10 ?_
            refine k_iload_n G (dc d_Tw_reasonAgainstSign 25 rfl) 2 rfl rfl ?_
            refine k_icmp_ne G (dc d_Tw_reasonAgainstSign 26 rfl) (tgt := 50) rfl (fun c12 => ?_) (fun c12 => ?_)
            · replace h := kOk_n c12 h
              refine k_iinc G (dc d_Tw_reasonAgainstSign 29 rfl) (ls' := [(3, .int (v3_2 + 1)), (0, .ref (B.1 + u)), (1, .int p0), (2, .int p1)]) 3 rfl cI_1 rfl rfl ?_
              refine k_goto G (dc d_Tw_reasonAgainstSign 30 rfl) (tgt := 8) rfl ?_
              refine k_sub [1, 2, 3, 0] rfl ?_
              have h9 := kOk_s h
              exact h9
            · replace h := kOk_p c12 h
              refine k_iconst G (dc d_Tw_reasonAgainstSign 27 rfl) cI_2 ?_
              exact (kOk_s h) _ _ _ _ rfl rfl rfl (dc d_Tw_reasonAgainstSign 28 rfl)
  · replace h := kOk_p c1 h
    refine k_iconst G (dc d_Tw_reasonAgainstSign 2 rfl) cI_1 ?_
    exact (kOk_s h) _ _ _ _ rfl rfl rfl (dc d_Tw_reasonAgainstSign 3 rfl)
theorem c_Tw_reasonAgainstSign {l : Launch} {B : KB} {L : KLay} {M : KMem} {u : Nat} {p0 : Int32} {p1 : Int32} (hst : l.stackTraces = false) (hu : okL L u twT) {r : Int32} (e : m_Tw_reasonAgainstSign u p0 p1 M = some r) : CtrN l B yX8_reasonAgainstSign cX8_reasonAgainstSign 4 (some .int) rm_Tw_reasonAgainstSign [.ref (B.1 + u), .int p0, .int p1] L M (some (.int r)) L M :=
  mk_I rfl hst rfl (fun X hl G _ R => b_Tw_reasonAgainstSign G hu ⟨_, e, R⟩)
def I_Tw_bringSign : List (Nat × Instr × Nat) := [(0, .aload_n 0, 1), (1, .getfield 12, 3), (4, .getfield 36, 3), (7, .istore_n 3, 1), (8, .iload_n 3, 1), (9, .bipush 8, 2), (11, .if_icmp .ge 12, 3), (14, .iload_n 1, 1), (15, .ifCond .lt 8, 3), (18, .iload_n 1, 1), (19, .iconst 4, 1), (20, .if_icmp .lt 5, 3), (23, .iconst 3, 1), (24, .ireturn, 1), (25, .aload_n 0, 1), (26, .getfield 12, 3), (29, .getfield 64, 3), (32, .iload_n 2, 1), (33, .invokevirtual 72, 3), (36, .istore 4, 2), (38, .aload_n 0, 1), (39, .iload_n 1, 1), (40, .iload 4, 2), (42, .invokevirtual 76, 3), (45, .istore 5, 2), (47, .iload 5, 2), (49, .ifCond .eq 6, 3), (52, .iload 5, 2), (54, .ireturn, 1), (55, .aload_n 0, 1), (56, .getfield 12, 3), (59, .getfield 79, 3), (62, .iload_n 3, 1), (63, .iload_n 1, 1), (64, .iastore, 1), (65, .aload_n 0, 1), (66, .getfield 12, 3), (69, .getfield 61, 3), (72, .iload_n 3, 1), (73, .iload_n 2, 1), (74, .iastore, 1), (75, .aload_n 0, 1), (76, .getfield 12, 3), (79, .getfield 44, 3), (82, .iload_n 3, 1), (83, .iload 4, 2), (85, .iastore, 1), (86, .aload_n 0, 1), (87, .getfield 12, 3), (90, .getfield 47, 3), (93, .iload_n 3, 1), (94, .iload 4, 2), (96, .iastore, 1), (97, .aload_n 0, 1), (98, .getfield 12, 3), (101, .getfield 82, 3), (104, .iload_n 3, 1), (105, .iconst 0, 1), (106, .iastore, 1), (107, .aload_n 0, 1), (108, .getfield 12, 3), (111, .getfield 85, 3), (114, .iload_n 3, 1), (115, .iconst 0, 1), (116, .iastore, 1), (117, .aload_n 0, 1), (118, .getfield 12, 3), (121, .dup, 1), (122, .getfield 36, 3), (125, .iconst 1, 1), (126, .iadd, 1), (127, .putfield 36, 3), (130, .iconst 0, 1), (131, .ireturn, 1)]
set_option maxRecDepth 100000 in
theorem d_Tw_bringSign : decA cX8_bringSign I_Tw_bringSign = true := by decide +kernel
abbrev rm_Tw_bringSign : Room := ({ frames := 4, cells := 0, slots := 0, locals := 98 } : Room)
def m_Tw_bringSign (u : Nat) (p0 : Int32) (p1 : Int32) (M : KMem) : Option (Int32 × KMem) :=
 if 8 ≤ (M (u + 1) 1) then
 (some (3, M))
 else
 (if p0 < 0 then
 (some (3, M))
 else
 (if p0 < 4 then
 (Option.bind (m_De_spellingOf (u + 2) p1 M) fun x5 =>
 Option.bind (m_Tw_reasonAgainstSign u p0 x5 M) fun x7 =>
 if x7 = 0 then
 (Option.bind (wrI M (u + 4) 8 (M (u + 1) 1) p0) fun M10 =>
 Option.bind (wrI M10 (u + 5) 8 (M (u + 1) 1) p1) fun M12 =>
 Option.bind (wrI M12 (u + 6) 8 (M (u + 1) 1) x5) fun M14 =>
 Option.bind (wrI M14 (u + 7) 8 (M (u + 1) 1) x5) fun M16 =>
 Option.bind (wrI M16 (u + 8) 8 (M (u + 1) 1) 0) fun M18 =>
 Option.bind (wrI M18 (u + 9) 8 (M (u + 1) 1) 0) fun M20 =>
 Option.bind (some (kup M20 (u + 1) 1 ((M20 (u + 1) 1) + 1))) fun M22 =>
 some (0, M22))
 else
 (some (x7, M)))
 else
 (some (3, M))))
set_option maxHeartbeats 4000000 in
set_option maxRecDepth 100000 in
theorem b_Tw_bringSign {X : KX} {B : KB} {L : KLay} {M : KMem} {u : Nat} {p0 : Int32} {p1 : Int32} (G : Good X B RX8 cX8_bringSign 6 rm_Tw_bringSign) (hu : okL L u twT) (h : kOk (m_Tw_bringSign u p0 p1 M) (fun r => RI X B L 6 cX8_bringSign .int rm_Tw_bringSign r.1 r.2)) : KK X B L 6 0 0 M 0 [(0, .ref (B.1 + u)), (1, .int p0), (2, .int p1)] [] := by
  unfold m_Tw_bringSign at h
  refine k_aload_n G (dc d_Tw_bringSign 0 rfl) 0 rfl rfl ?_
  refine k_getR G kc6 (dc d_Tw_bringSign 1 rfl) (okL_lt hu (o := 0) 0 rfl) (okL_k hu (o := 0) 0 rfl) 0 (by decide) rfl fl_RX8_12 (u + 1) (okL_r hu (o := 0) (c := 1) 0 rfl 0 rfl) ?_
  refine k_getI G kc5 (dc d_Tw_bringSign 2 rfl) (okL_lt hu (o := 1) 1 rfl) (okL_k hu (o := 1) 1 rfl) 1 (by decide) rfl fl_RX8_36 ?_
  refine k_istore_n G (dc d_Tw_bringSign 3 rfl) (ls' := [(3, .int (M (u + 1) 1)), (0, .ref (B.1 + u)), (1, .int p0), (2, .int p1)]) rfl rfl rfl ?_
  refine k_iload_n G (dc d_Tw_bringSign 4 rfl) 0 rfl rfl ?_
  refine k_bipush G (dc d_Tw_bringSign 5 rfl) cB_8 ?_
  refine k_icmp_ge G (dc d_Tw_bringSign 6 rfl) (tgt := 23) rfl (fun c1 => ?_) (fun c1 => ?_)
  · replace h := kOk_p c1 h
    refine k_iconst G (dc d_Tw_bringSign 12 rfl) cI_3 ?_
    exact (kOk_s h) _ _ _ _ rfl rfl rfl (dc d_Tw_bringSign 13 rfl)
  · replace h := kOk_n c1 h
    refine k_iload_n G (dc d_Tw_bringSign 7 rfl) 2 rfl rfl ?_
    refine k_if_lt G (dc d_Tw_bringSign 8 rfl) (tgt := 23) rfl (fun c2 => ?_) (fun c2 => ?_)
    · replace h := kOk_p c2 h
      refine k_iconst G (dc d_Tw_bringSign 12 rfl) cI_3 ?_
      exact (kOk_s h) _ _ _ _ rfl rfl rfl (dc d_Tw_bringSign 13 rfl)
    · replace h := kOk_n c2 h
      refine k_iload_n G (dc d_Tw_bringSign 9 rfl) 2 rfl rfl ?_
      refine k_iconst G (dc d_Tw_bringSign 10 rfl) cI_4 ?_
      refine k_icmp_lt G (dc d_Tw_bringSign 11 rfl) (tgt := 25) rfl (fun c3 => ?_) (fun c3 => ?_)
      · replace h := kOk_p c3 h
        refine k_aload_n G (dc d_Tw_bringSign 14 rfl) 1 rfl rfl ?_
        refine k_getR G kc6 (dc d_Tw_bringSign 15 rfl) (okL_lt hu (o := 0) 0 rfl) (okL_k hu (o := 0) 0 rfl) 0 (by decide) rfl fl_RX8_12 (u + 1) (okL_r hu (o := 0) (c := 1) 0 rfl 0 rfl) ?_
        refine k_getR G kc5 (dc d_Tw_bringSign 16 rfl) (okL_lt hu (o := 1) 1 rfl) (okL_k hu (o := 1) 1 rfl) 0 (by decide) rfl fl_RX8_64 (u + 2) (okL_r hu (o := 1) (c := 2) 1 rfl 0 rfl) ?_
        refine k_iload_n G (dc d_Tw_bringSign 17 rfl) 3 rfl rfl ?_
        obtain ⟨x5, e4, h⟩ := kOk_b h
        refine k_cVI G (dc d_Tw_bringSign 18 rfl) kc0 (okL_lt hu (o := 2) 2 rfl) (okL_k hu (o := 2) 2 rfl) mi_De_spellingOf mv_De_spellingOf rfl ml_RX8_72 (c_De_spellingOf (gst G) (okL_sub hu 2 (by decide +kernel)) e4) rfl rfl ⟨rfl, rfl⟩ rfl ⟨rfl, rfl⟩ ⟨rfl, rfl⟩ ?_
        refine k_istore G (dc d_Tw_bringSign 19 rfl) (ls' := [(4, .int x5), (3, .int (M (u + 1) 1)), (0, .ref (B.1 + u)), (1, .int p0), (2, .int p1)]) rfl rfl ?_
        refine k_aload_n G (dc d_Tw_bringSign 20 rfl) 2 rfl rfl ?_
        refine k_iload_n G (dc d_Tw_bringSign 21 rfl) 3 rfl rfl ?_
        refine k_iload G (dc d_Tw_bringSign 22 rfl) 0 rfl ?_
        obtain ⟨x7, e6, h⟩ := kOk_b h
        refine k_cVI G (dc d_Tw_bringSign 23 rfl) kc6 (okL_lt hu (o := 0) 0 rfl) (okL_k hu (o := 0) 0 rfl) mi_Tw_reasonAgainstSign mv_Tw_reasonAgainstSign rfl ml_RX8_76 (c_Tw_reasonAgainstSign (gst G) hu e6) rfl rfl ⟨rfl, rfl⟩ rfl ⟨rfl, rfl⟩ ⟨rfl, rfl⟩ ?_
        refine k_istore G (dc d_Tw_bringSign 24 rfl) (ls' := [(5, .int x7), (4, .int x5), (3, .int (M (u + 1) 1)), (0, .ref (B.1 + u)), (1, .int p0), (2, .int p1)]) rfl rfl ?_
        refine k_iload G (dc d_Tw_bringSign 25 rfl) 0 rfl ?_
        refine k_if_eq G (dc d_Tw_bringSign 26 rfl) (tgt := 55) rfl (fun c8 => ?_) (fun c8 => ?_)
        · replace h := kOk_p c8 h
          refine k_aload_n G (dc d_Tw_bringSign 29 rfl) 3 rfl rfl ?_
          refine k_getR G kc6 (dc d_Tw_bringSign 30 rfl) (okL_lt hu (o := 0) 0 rfl) (okL_k hu (o := 0) 0 rfl) 0 (by decide) rfl fl_RX8_12 (u + 1) (okL_r hu (o := 0) (c := 1) 0 rfl 0 rfl) ?_
          refine k_getR G kc5 (dc d_Tw_bringSign 31 rfl) (okL_lt hu (o := 1) 1 rfl) (okL_k hu (o := 1) 1 rfl) 2 (by decide) rfl fl_RX8_79 (u + 4) (okL_r hu (o := 1) (c := 4) 1 rfl 1 rfl) ?_
          refine k_iload_n G (dc d_Tw_bringSign 32 rfl) 2 rfl rfl ?_
          refine k_iload_n G (dc d_Tw_bringSign 33 rfl) 4 rfl rfl ?_
          obtain ⟨M10, e9, h⟩ := kOk_b h
          refine k_ist G (dc d_Tw_bringSign 34 rfl) (okL_lt hu (o := 4) 4 rfl) (okL_k hu (o := 4) 4 rfl) (okL_n hu (o := 4) 4 rfl) e9 ?_
          refine k_aload_n G (dc d_Tw_bringSign 35 rfl) 3 rfl rfl ?_
          refine k_getR G kc6 (dc d_Tw_bringSign 36 rfl) (okL_lt hu (o := 0) 0 rfl) (okL_k hu (o := 0) 0 rfl) 0 (by decide) rfl fl_RX8_12 (u + 1) (okL_r hu (o := 0) (c := 1) 0 rfl 0 rfl) ?_
          refine k_getR G kc5 (dc d_Tw_bringSign 37 rfl) (okL_lt hu (o := 1) 1 rfl) (okL_k hu (o := 1) 1 rfl) 3 (by decide) rfl fl_RX8_61 (u + 5) (okL_r hu (o := 1) (c := 5) 1 rfl 2 rfl) ?_
          refine k_iload_n G (dc d_Tw_bringSign 38 rfl) 2 rfl rfl ?_
          refine k_iload_n G (dc d_Tw_bringSign 39 rfl) 5 rfl rfl ?_
          obtain ⟨M12, e11, h⟩ := kOk_b h
          refine k_ist G (dc d_Tw_bringSign 40 rfl) (okL_lt hu (o := 5) 5 rfl) (okL_k hu (o := 5) 5 rfl) (okL_n hu (o := 5) 5 rfl) e11 ?_
          refine k_aload_n G (dc d_Tw_bringSign 41 rfl) 3 rfl rfl ?_
          refine k_getR G kc6 (dc d_Tw_bringSign 42 rfl) (okL_lt hu (o := 0) 0 rfl) (okL_k hu (o := 0) 0 rfl) 0 (by decide) rfl fl_RX8_12 (u + 1) (okL_r hu (o := 0) (c := 1) 0 rfl 0 rfl) ?_
          refine k_getR G kc5 (dc d_Tw_bringSign 43 rfl) (okL_lt hu (o := 1) 1 rfl) (okL_k hu (o := 1) 1 rfl) 4 (by decide) rfl fl_RX8_44 (u + 6) (okL_r hu (o := 1) (c := 6) 1 rfl 3 rfl) ?_
          refine k_iload_n G (dc d_Tw_bringSign 44 rfl) 2 rfl rfl ?_
          refine k_iload G (dc d_Tw_bringSign 45 rfl) 1 rfl ?_
          obtain ⟨M14, e13, h⟩ := kOk_b h
          refine k_ist G (dc d_Tw_bringSign 46 rfl) (okL_lt hu (o := 6) 6 rfl) (okL_k hu (o := 6) 6 rfl) (okL_n hu (o := 6) 6 rfl) e13 ?_
          refine k_aload_n G (dc d_Tw_bringSign 47 rfl) 3 rfl rfl ?_
          refine k_getR G kc6 (dc d_Tw_bringSign 48 rfl) (okL_lt hu (o := 0) 0 rfl) (okL_k hu (o := 0) 0 rfl) 0 (by decide) rfl fl_RX8_12 (u + 1) (okL_r hu (o := 0) (c := 1) 0 rfl 0 rfl) ?_
          refine k_getR G kc5 (dc d_Tw_bringSign 49 rfl) (okL_lt hu (o := 1) 1 rfl) (okL_k hu (o := 1) 1 rfl) 5 (by decide) rfl fl_RX8_47 (u + 7) (okL_r hu (o := 1) (c := 7) 1 rfl 4 rfl) ?_
          refine k_iload_n G (dc d_Tw_bringSign 50 rfl) 2 rfl rfl ?_
          refine k_iload G (dc d_Tw_bringSign 51 rfl) 1 rfl ?_
          obtain ⟨M16, e15, h⟩ := kOk_b h
          refine k_ist G (dc d_Tw_bringSign 52 rfl) (okL_lt hu (o := 7) 7 rfl) (okL_k hu (o := 7) 7 rfl) (okL_n hu (o := 7) 7 rfl) e15 ?_
          refine k_aload_n G (dc d_Tw_bringSign 53 rfl) 3 rfl rfl ?_
          refine k_getR G kc6 (dc d_Tw_bringSign 54 rfl) (okL_lt hu (o := 0) 0 rfl) (okL_k hu (o := 0) 0 rfl) 0 (by decide) rfl fl_RX8_12 (u + 1) (okL_r hu (o := 0) (c := 1) 0 rfl 0 rfl) ?_
          refine k_getR G kc5 (dc d_Tw_bringSign 55 rfl) (okL_lt hu (o := 1) 1 rfl) (okL_k hu (o := 1) 1 rfl) 6 (by decide) rfl fl_RX8_82 (u + 8) (okL_r hu (o := 1) (c := 8) 1 rfl 5 rfl) ?_
          refine k_iload_n G (dc d_Tw_bringSign 56 rfl) 2 rfl rfl ?_
          refine k_iconst G (dc d_Tw_bringSign 57 rfl) cI_0 ?_
          obtain ⟨M18, e17, h⟩ := kOk_b h
          refine k_ist G (dc d_Tw_bringSign 58 rfl) (okL_lt hu (o := 8) 8 rfl) (okL_k hu (o := 8) 8 rfl) (okL_n hu (o := 8) 8 rfl) e17 ?_
          refine k_aload_n G (dc d_Tw_bringSign 59 rfl) 3 rfl rfl ?_
          refine k_getR G kc6 (dc d_Tw_bringSign 60 rfl) (okL_lt hu (o := 0) 0 rfl) (okL_k hu (o := 0) 0 rfl) 0 (by decide) rfl fl_RX8_12 (u + 1) (okL_r hu (o := 0) (c := 1) 0 rfl 0 rfl) ?_
          refine k_getR G kc5 (dc d_Tw_bringSign 61 rfl) (okL_lt hu (o := 1) 1 rfl) (okL_k hu (o := 1) 1 rfl) 7 (by decide) rfl fl_RX8_85 (u + 9) (okL_r hu (o := 1) (c := 9) 1 rfl 6 rfl) ?_
          refine k_iload_n G (dc d_Tw_bringSign 62 rfl) 2 rfl rfl ?_
          refine k_iconst G (dc d_Tw_bringSign 63 rfl) cI_0 ?_
          obtain ⟨M20, e19, h⟩ := kOk_b h
          refine k_ist G (dc d_Tw_bringSign 64 rfl) (okL_lt hu (o := 9) 9 rfl) (okL_k hu (o := 9) 9 rfl) (okL_n hu (o := 9) 9 rfl) e19 ?_
          refine k_aload_n G (dc d_Tw_bringSign 65 rfl) 3 rfl rfl ?_
          refine k_getR G kc6 (dc d_Tw_bringSign 66 rfl) (okL_lt hu (o := 0) 0 rfl) (okL_k hu (o := 0) 0 rfl) 0 (by decide) rfl fl_RX8_12 (u + 1) (okL_r hu (o := 0) (c := 1) 0 rfl 0 rfl) ?_
          refine k_dup G (dc d_Tw_bringSign 67 rfl) rfl ?_
          refine k_getI G kc5 (dc d_Tw_bringSign 68 rfl) (okL_lt hu (o := 1) 1 rfl) (okL_k hu (o := 1) 1 rfl) 1 (by decide) rfl fl_RX8_36 ?_
          refine k_iconst G (dc d_Tw_bringSign 69 rfl) cI_1 ?_
          refine k_iadd G (dc d_Tw_bringSign 70 rfl) ?_
          obtain ⟨M22, e21, h⟩ := kOk_b h
          refine k_putI G kc5 (dc d_Tw_bringSign 71 rfl) (okL_lt hu (o := 1) 1 rfl) (okL_k hu (o := 1) 1 rfl) 1 (by decide) rfl rfl fl_RX8_36 rfl rfl e21 ?_
          refine k_iconst G (dc d_Tw_bringSign 72 rfl) cI_0 ?_
          exact (kOk_s h) _ _ _ _ rfl rfl rfl (dc d_Tw_bringSign 73 rfl)
        · replace h := kOk_n c8 h
          refine k_iload G (dc d_Tw_bringSign 27 rfl) 0 rfl ?_
          exact (kOk_s h) _ _ _ _ rfl rfl rfl (dc d_Tw_bringSign 28 rfl)
      · replace h := kOk_n c3 h
        refine k_iconst G (dc d_Tw_bringSign 12 rfl) cI_3 ?_
        exact (kOk_s h) _ _ _ _ rfl rfl rfl (dc d_Tw_bringSign 13 rfl)
theorem c_Tw_bringSign {l : Launch} {B : KB} {L : KLay} {M : KMem} {u : Nat} {p0 : Int32} {p1 : Int32} (hst : l.stackTraces = false) (hu : okL L u twT) {r : Int32} {M' : KMem} (e : m_Tw_bringSign u p0 p1 M = some (r, M')) : CtrN l B yX8_bringSign cX8_bringSign 6 (some .int) rm_Tw_bringSign [.ref (B.1 + u), .int p0, .int p1] L M (some (.int r)) L M' :=
  mk_I rfl hst rfl (fun X hl G _ R => b_Tw_bringSign G hu ⟨_, e, R⟩)
def I_Tw_reasonAgainstPlan : List (Nat × Instr × Nat) := [(0, .iconst 0, 1), (1, .istore_n 1, 1), (2, .iload_n 1, 1), (3, .bipush 8, 2), (5, .if_icmp .ge 28, 3), (8, .aload_n 0, 1), (9, .iload_n 1, 1), (10, .invokevirtual 40, 3), (13, .ifCond .eq 20, 3), (16, .aload_n 0, 1), (17, .getfield 32, 3), (20, .iload_n 1, 1), (21, .iaload, 1), (22, .ifCond .ne 5, 3), (25, .iconst 1, 1), (26, .ireturn, 1), (27, .iinc 1 1, 3), (30, .goto (-28), 3), (33, .iconst 0, 1), (34, .istore_n 1, 1), (35, .iload_n 1, 1), (36, .bipush 8, 2), (38, .if_icmp .ge 68, 3), (41, .aload_n 0, 1), (42, .iload_n 1, 1), (43, .invokevirtual 40, 3), (46, .ifCond .eq 60, 3), (49, .iconst 0, 1), (50, .istore_n 2, 1), (51, .iload_n 2, 1), (52, .iload_n 1, 1), (53, .if_icmp .ge 47, 3), (56, .aload_n 0, 1), (57, .getfield 12, 3), (60, .getfield 79, 3), (63, .iload_n 1, 1), (64, .iaload, 1), (65, .aload_n 0, 1), (66, .getfield 12, 3), (69, .getfield 79, 3), (72, .iload_n 2, 1), (73, .iaload, 1), (74, .if_icmp .ne 20, 3), (77, .aload_n 0, 1), (78, .getfield 32, 3), (81, .iload_n 1, 1), (82, .iaload, 1), (83, .aload_n 0, 1), (84, .getfield 32, 3), (87, .iload_n 2, 1), (88, .iaload, 1), (89, .if_icmp .ne 5, 3), (92, .iconst 2, 1), (93, .ireturn, 1), (94, .iinc 2 1, 3), (97, .goto (-46), 3), (100, .iinc 1 1, 3), (103, .goto (-68), 3), (106, .iconst 0, 1), (107, .ireturn, 1)]
set_option maxRecDepth 100000 in
theorem d_Tw_reasonAgainstPlan : decA cX8_reasonAgainstPlan I_Tw_reasonAgainstPlan = true := by decide +kernel
abbrev rm_Tw_reasonAgainstPlan : Room := ({ frames := 1, cells := 0, slots := 0, locals := 21 } : Room)
def m_Tw_reasonAgainstPlan_l2 (u : Nat) (M : KMem) : Int32 → Option (Int32 ⊕ (Int32 ⊕ Unit)) := fun v1_1 =>
 if 8 ≤ v1_1 then
 (some (.inr (.inr ())))
 else
 (Option.bind (m_Tw_hasSign u v1_1 M) fun x4 =>
 if x4 = 0 then
 (some (.inr (.inr ())))
 else
 (Option.bind (rdI M (u + 17) 8 v1_1) fun x7 =>
 if x7 = 0 then
 (some (.inr (.inl 1)))
 else
 (some (.inl (v1_1 + 1)))))
def m_Tw_reasonAgainstPlan_l51 (u : Nat) (M : KMem) (v1_9 : Int32) : Int32 → Option (Int32 ⊕ (Int32 ⊕ Unit)) := fun v2_14 =>
 if v1_9 ≤ v2_14 then
 (some (.inr (.inr ())))
 else
 (Option.bind (rdI M (u + 4) 8 v1_9) fun x17 =>
 Option.bind (rdI M (u + 4) 8 v2_14) fun x19 =>
 if x17 = x19 then
 (Option.bind (rdI M (u + 17) 8 v1_9) fun x22 =>
 Option.bind (rdI M (u + 17) 8 v2_14) fun x24 =>
 if x22 = x24 then
 (some (.inr (.inl 2)))
 else
 (some (.inl (v2_14 + 1))))
 else
 (some (.inl (v2_14 + 1))))
def m_Tw_reasonAgainstPlan_l35 (u : Nat) (M : KMem) : Int32 → Option (Int32 ⊕ (Int32 ⊕ Unit)) := fun v1_9 =>
 if 8 ≤ v1_9 then
 (some (.inr (.inr ())))
 else
 (Option.bind (m_Tw_hasSign u v1_9 M) fun x12 =>
 if x12 = 0 then
 (some (.inr (.inr ())))
 else
 (Option.bind (α := Int32 ⊕ Unit) (kLp (m_Tw_reasonAgainstPlan_l51 u M v1_9) kFU 0) fun r => match r with
 | .inl q => some (.inr (.inl q))
 | .inr _ =>
 (some (.inl (v1_9 + 1)))))
def m_Tw_reasonAgainstPlan (u : Nat) (M : KMem) : Option Int32 :=
 Option.bind (α := Int32 ⊕ Unit) (kLp (m_Tw_reasonAgainstPlan_l2 u M) kFU 0) fun r => match r with
 | .inl q => some q
 | .inr _ =>
 (Option.bind (α := Int32 ⊕ Unit) (kLp (m_Tw_reasonAgainstPlan_l35 u M) kFU 0) fun r => match r with
 | .inl q => some q
 | .inr _ =>
 (some 0))
set_option maxHeartbeats 4000000 in
set_option maxRecDepth 100000 in
theorem b_Tw_reasonAgainstPlan {X : KX} {B : KB} {L : KLay} {M : KMem} {u : Nat} (G : Good X B RX8 cX8_reasonAgainstPlan 3 rm_Tw_reasonAgainstPlan) (hu : okL L u twT) (h : kOk (m_Tw_reasonAgainstPlan u M) (fun r => RI X B L 3 cX8_reasonAgainstPlan .int rm_Tw_reasonAgainstPlan r M)) : KK X B L 3 0 0 M 0 [(0, .ref (B.1 + u))] [] := by
  unfold m_Tw_reasonAgainstPlan at h
  refine k_iconst G (dc d_Tw_reasonAgainstPlan 0 rfl) cI_0 ?_
  refine k_istore_n G (dc d_Tw_reasonAgainstPlan 1 rfl) (ls' := [(1, .int 0), (0, .ref (B.1 + u))]) rfl rfl rfl ?_
  refine kJ h (fun r30 => match r30 with | .inl q => RI X B L 3 cX8_reasonAgainstPlan .int rm_Tw_reasonAgainstPlan q M | .inr r30 => KK X B L 3 0 0 M 33 [(0, .ref (B.1 + u))] []) (fun r30 h => ?_) (fun h => ?_)
  · rcases r30 with q | r30
    · have h9 := kOk_s h
      exact h9
    · show KK X B L 3 0 0 M 33 [(0, .ref (B.1 + u))] []
      refine k_iconst G (dc d_Tw_reasonAgainstPlan 18 rfl) cI_0 ?_
      refine k_istore_n G (dc d_Tw_reasonAgainstPlan 19 rfl) (ls' := [(1, .int 0), (0, .ref (B.1 + u))]) rfl rfl rfl ?_
      refine kJ h (fun r28 => match r28 with | .inl q => RI X B L 3 cX8_reasonAgainstPlan .int rm_Tw_reasonAgainstPlan q M | .inr r28 => KK X B L 3 0 0 M 106 [] []) (fun r28 h => ?_) (fun h => ?_)
      · rcases r28 with q | r28
        · have h9 := kOk_s h
          exact h9
        · show KK X B L 3 0 0 M 106 [] []
          refine k_iconst G (dc d_Tw_reasonAgainstPlan 58 rfl) cI_0 ?_
          exact (kOk_s h) _ _ _ _ rfl rfl rfl (dc d_Tw_reasonAgainstPlan 59 rfl)
      · refine k_sub [1, 0] rfl ?_
        refine kLp_ok (P := fun s29 => KK X B L 3 0 0 M 35 [(0, .ref (B.1 + u)), (1, .int s29)] []) (fun s29 h => ?_) kFU _ h
        obtain ⟨v1_9, rfl⟩ : ∃ z, z = s29 := ⟨_, rfl⟩
        unfold m_Tw_reasonAgainstPlan_l35 at h
        show KK X B L 3 0 0 M 35 [(0, .ref (B.1 + u)), (1, .int v1_9)] []
        refine k_iload_n G (dc d_Tw_reasonAgainstPlan 20 rfl) 1 rfl rfl ?_
        refine k_bipush G (dc d_Tw_reasonAgainstPlan 21 rfl) cB_8 ?_
        refine k_icmp_ge G (dc d_Tw_reasonAgainstPlan 22 rfl) (tgt := 106) rfl (fun c10 => ?_) (fun c10 => ?_)
        · replace h := kOk_p c10 h
          refine k_sub [] rfl ?_
          have h9 := kOk_s h
          exact h9
        · replace h := kOk_n c10 h
          refine k_aload_n G (dc d_Tw_reasonAgainstPlan 23 rfl) 0 rfl rfl ?_
          refine k_iload_n G (dc d_Tw_reasonAgainstPlan 24 rfl) 1 rfl rfl ?_
          obtain ⟨x12, e11, h⟩ := kOk_b h
          refine k_cVI G (dc d_Tw_reasonAgainstPlan 25 rfl) kc6 (okL_lt hu (o := 0) 0 rfl) (okL_k hu (o := 0) 0 rfl) mi_Tw_hasSign mv_Tw_hasSign rfl ml_RX8_40 (c_Tw_hasSign (gst G) hu e11) rfl rfl ⟨rfl, rfl⟩ rfl ⟨rfl, rfl⟩ ⟨rfl, rfl⟩ ?_
          refine k_if_eq G (dc d_Tw_reasonAgainstPlan 26 rfl) (tgt := 106) rfl (fun c13 => ?_) (fun c13 => ?_)
          · replace h := kOk_p c13 h
            refine k_sub [] rfl ?_
            have h9 := kOk_s h
            exact h9
          · replace h := kOk_n c13 h
            refine k_iconst G (dc d_Tw_reasonAgainstPlan 27 rfl) cI_0 ?_
            refine k_istore_n G (dc d_Tw_reasonAgainstPlan 28 rfl) (ls' := [(2, .int 0), (0, .ref (B.1 + u)), (1, .int v1_9)]) rfl rfl rfl ?_
            refine kJ h (fun r26 => match r26 with | .inl q => RI X B L 3 cX8_reasonAgainstPlan .int rm_Tw_reasonAgainstPlan q M | .inr r26 => KK X B L 3 0 0 M 100 [(0, .ref (B.1 + u)), (1, .int v1_9)] []) (fun r26 h => ?_) (fun h => ?_)
            · rcases r26 with q | r26
              · have h9 := kOk_s h
                exact h9
              · show KK X B L 3 0 0 M 100 [(0, .ref (B.1 + u)), (1, .int v1_9)] []
                refine k_iinc G (dc d_Tw_reasonAgainstPlan 56 rfl) (ls' := [(1, .int (v1_9 + 1)), (0, .ref (B.1 + u))]) 1 rfl cI_1 rfl rfl ?_
                refine k_goto G (dc d_Tw_reasonAgainstPlan 57 rfl) (tgt := 35) rfl ?_
                refine k_sub [1, 0] rfl ?_
                have h9 := kOk_s h
                exact h9
            · refine k_sub [1, 2, 0] rfl ?_
              refine kLp_ok (P := fun s27 => KK X B L 3 0 0 M 51 [(0, .ref (B.1 + u)), (1, .int v1_9), (2, .int s27)] []) (fun s27 h => ?_) kFU _ h
              obtain ⟨v2_14, rfl⟩ : ∃ z, z = s27 := ⟨_, rfl⟩
              unfold m_Tw_reasonAgainstPlan_l51 at h
              show KK X B L 3 0 0 M 51 [(0, .ref (B.1 + u)), (1, .int v1_9), (2, .int v2_14)] []
              refine k_iload_n G (dc d_Tw_reasonAgainstPlan 29 rfl) 2 rfl rfl ?_
              refine k_iload_n G (dc d_Tw_reasonAgainstPlan 30 rfl) 1 rfl rfl ?_
              refine k_icmp_ge G (dc d_Tw_reasonAgainstPlan 31 rfl) (tgt := 100) rfl (fun c15 => ?_) (fun c15 => ?_)
              · replace h := kOk_p c15 h
                refine k_sub [0, 1] rfl ?_
                have h9 := kOk_s h
                exact h9
              · replace h := kOk_n c15 h
                refine k_aload_n G (dc d_Tw_reasonAgainstPlan 32 rfl) 0 rfl rfl ?_
                refine k_getR G kc6 (dc d_Tw_reasonAgainstPlan 33 rfl) (okL_lt hu (o := 0) 0 rfl) (okL_k hu (o := 0) 0 rfl) 0 (by decide) rfl fl_RX8_12 (u + 1) (okL_r hu (o := 0) (c := 1) 0 rfl 0 rfl) ?_
                refine k_getR G kc5 (dc d_Tw_reasonAgainstPlan 34 rfl) (okL_lt hu (o := 1) 1 rfl) (okL_k hu (o := 1) 1 rfl) 2 (by decide) rfl fl_RX8_79 (u + 4) (okL_r hu (o := 1) (c := 4) 1 rfl 1 rfl) ?_
                refine k_iload_n G (dc d_Tw_reasonAgainstPlan 35 rfl) 1 rfl rfl ?_
                obtain ⟨x17, e16, h⟩ := kOk_b h
                refine k_ild G (dc d_Tw_reasonAgainstPlan 36 rfl) (okL_lt hu (o := 4) 4 rfl) (okL_k hu (o := 4) 4 rfl) (okL_n hu (o := 4) 4 rfl) e16 ?_
                refine k_aload_n G (dc d_Tw_reasonAgainstPlan 37 rfl) 0 rfl rfl ?_
                refine k_getR G kc6 (dc d_Tw_reasonAgainstPlan 38 rfl) (okL_lt hu (o := 0) 0 rfl) (okL_k hu (o := 0) 0 rfl) 0 (by decide) rfl fl_RX8_12 (u + 1) (okL_r hu (o := 0) (c := 1) 0 rfl 0 rfl) ?_
                refine k_getR G kc5 (dc d_Tw_reasonAgainstPlan 39 rfl) (okL_lt hu (o := 1) 1 rfl) (okL_k hu (o := 1) 1 rfl) 2 (by decide) rfl fl_RX8_79 (u + 4) (okL_r hu (o := 1) (c := 4) 1 rfl 1 rfl) ?_
                refine k_iload_n G (dc d_Tw_reasonAgainstPlan 40 rfl) 2 rfl rfl ?_
                obtain ⟨x19, e18, h⟩ := kOk_b h
                refine k_ild G (dc d_Tw_reasonAgainstPlan 41 rfl) (okL_lt hu (o := 4) 4 rfl) (okL_k hu (o := 4) 4 rfl) (okL_n hu (o := 4) 4 rfl) e18 ?_
                refine k_icmp_ne G (dc d_Tw_reasonAgainstPlan 42 rfl) (tgt := 94) rfl (fun c20 => ?_) (fun c20 => ?_)
                · replace h := kOk_n c20 h
                  refine k_iinc G (dc d_Tw_reasonAgainstPlan 54 rfl) (ls' := [(2, .int (v2_14 + 1)), (0, .ref (B.1 + u)), (1, .int v1_9)]) 2 rfl cI_1 rfl rfl ?_
                  refine k_goto G (dc d_Tw_reasonAgainstPlan 55 rfl) (tgt := 51) rfl ?_
                  refine k_sub [1, 2, 0] rfl ?_
                  have h9 := kOk_s h
                  exact h9
                · replace h := kOk_p c20 h
                  refine k_aload_n G (dc d_Tw_reasonAgainstPlan 43 rfl) 0 rfl rfl ?_
                  refine k_getR G kc6 (dc d_Tw_reasonAgainstPlan 44 rfl) (okL_lt hu (o := 0) 0 rfl) (okL_k hu (o := 0) 0 rfl) 3 (by decide) rfl fl_RX8_32 (u + 17) (okL_r hu (o := 0) (c := 17) 0 rfl 3 rfl) ?_
                  refine k_iload_n G (dc d_Tw_reasonAgainstPlan 45 rfl) 1 rfl rfl ?_
                  obtain ⟨x22, e21, h⟩ := kOk_b h
                  refine k_ild G (dc d_Tw_reasonAgainstPlan 46 rfl) (okL_lt hu (o := 17) 17 rfl) (okL_k hu (o := 17) 17 rfl) (okL_n hu (o := 17) 17 rfl) e21 ?_
                  refine k_aload_n G (dc d_Tw_reasonAgainstPlan 47 rfl) 0 rfl rfl ?_
                  refine k_getR G kc6 (dc d_Tw_reasonAgainstPlan 48 rfl) (okL_lt hu (o := 0) 0 rfl) (okL_k hu (o := 0) 0 rfl) 3 (by decide) rfl fl_RX8_32 (u + 17) (okL_r hu (o := 0) (c := 17) 0 rfl 3 rfl) ?_
                  refine k_iload_n G (dc d_Tw_reasonAgainstPlan 49 rfl) 2 rfl rfl ?_
                  obtain ⟨x24, e23, h⟩ := kOk_b h
                  refine k_ild G (dc d_Tw_reasonAgainstPlan 50 rfl) (okL_lt hu (o := 17) 17 rfl) (okL_k hu (o := 17) 17 rfl) (okL_n hu (o := 17) 17 rfl) e23 ?_
                  refine k_icmp_ne G (dc d_Tw_reasonAgainstPlan 51 rfl) (tgt := 94) rfl (fun c25 => ?_) (fun c25 => ?_)
                  · replace h := kOk_n c25 h
                    refine k_iinc G (dc d_Tw_reasonAgainstPlan 54 rfl) (ls' := [(2, .int (v2_14 + 1)), (0, .ref (B.1 + u)), (1, .int v1_9)]) 2 rfl cI_1 rfl rfl ?_
                    refine k_goto G (dc d_Tw_reasonAgainstPlan 55 rfl) (tgt := 51) rfl ?_
                    refine k_sub [1, 2, 0] rfl ?_
                    have h9 := kOk_s h
                    exact h9
                  · replace h := kOk_p c25 h
                    refine k_iconst G (dc d_Tw_reasonAgainstPlan 52 rfl) cI_2 ?_
                    exact (kOk_s h) _ _ _ _ rfl rfl rfl (dc d_Tw_reasonAgainstPlan 53 rfl)
  · refine k_sub [1, 0] rfl ?_
    refine kLp_ok (P := fun s31 => KK X B L 3 0 0 M 2 [(0, .ref (B.1 + u)), (1, .int s31)] []) (fun s31 h => ?_) kFU _ h
    obtain ⟨v1_1, rfl⟩ : ∃ z, z = s31 := ⟨_, rfl⟩
    unfold m_Tw_reasonAgainstPlan_l2 at h
    show KK X B L 3 0 0 M 2 [(0, .ref (B.1 + u)), (1, .int v1_1)] []
    refine k_iload_n G (dc d_Tw_reasonAgainstPlan 2 rfl) 1 rfl rfl ?_
    refine k_bipush G (dc d_Tw_reasonAgainstPlan 3 rfl) cB_8 ?_
    refine k_icmp_ge G (dc d_Tw_reasonAgainstPlan 4 rfl) (tgt := 33) rfl (fun c2 => ?_) (fun c2 => ?_)
    · replace h := kOk_p c2 h
      refine k_sub [0] rfl ?_
      have h9 := kOk_s h
      exact h9
    · replace h := kOk_n c2 h
      refine k_aload_n G (dc d_Tw_reasonAgainstPlan 5 rfl) 0 rfl rfl ?_
      refine k_iload_n G (dc d_Tw_reasonAgainstPlan 6 rfl) 1 rfl rfl ?_
      obtain ⟨x4, e3, h⟩ := kOk_b h
      refine k_cVI G (dc d_Tw_reasonAgainstPlan 7 rfl) kc6 (okL_lt hu (o := 0) 0 rfl) (okL_k hu (o := 0) 0 rfl) mi_Tw_hasSign mv_Tw_hasSign rfl ml_RX8_40 (c_Tw_hasSign (gst G) hu e3) rfl rfl ⟨rfl, rfl⟩ rfl ⟨rfl, rfl⟩ ⟨rfl, rfl⟩ ?_
      refine k_if_eq G (dc d_Tw_reasonAgainstPlan 8 rfl) (tgt := 33) rfl (fun c5 => ?_) (fun c5 => ?_)
      · replace h := kOk_p c5 h
        refine k_sub [0] rfl ?_
        have h9 := kOk_s h
        exact h9
      · replace h := kOk_n c5 h
        refine k_aload_n G (dc d_Tw_reasonAgainstPlan 9 rfl) 0 rfl rfl ?_
        refine k_getR G kc6 (dc d_Tw_reasonAgainstPlan 10 rfl) (okL_lt hu (o := 0) 0 rfl) (okL_k hu (o := 0) 0 rfl) 3 (by decide) rfl fl_RX8_32 (u + 17) (okL_r hu (o := 0) (c := 17) 0 rfl 3 rfl) ?_
        refine k_iload_n G (dc d_Tw_reasonAgainstPlan 11 rfl) 1 rfl rfl ?_
        obtain ⟨x7, e6, h⟩ := kOk_b h
        refine k_ild G (dc d_Tw_reasonAgainstPlan 12 rfl) (okL_lt hu (o := 17) 17 rfl) (okL_k hu (o := 17) 17 rfl) (okL_n hu (o := 17) 17 rfl) e6 ?_
        refine k_if_ne G (dc d_Tw_reasonAgainstPlan 13 rfl) (tgt := 27) rfl (fun c8 => ?_) (fun c8 => ?_)
        · replace h := kOk_n c8 h
          refine k_iinc G (dc d_Tw_reasonAgainstPlan 16 rfl) (ls' := [(1, .int (v1_1 + 1)), (0, .ref (B.1 + u))]) 1 rfl cI_1 rfl rfl ?_
          refine k_goto G (dc d_Tw_reasonAgainstPlan 17 rfl) (tgt := 2) rfl ?_
          refine k_sub [1, 0] rfl ?_
          have h9 := kOk_s h
          exact h9
        · replace h := kOk_p c8 h
          refine k_iconst G (dc d_Tw_reasonAgainstPlan 14 rfl) cI_1 ?_
          exact (kOk_s h) _ _ _ _ rfl rfl rfl (dc d_Tw_reasonAgainstPlan 15 rfl)
theorem c_Tw_reasonAgainstPlan {l : Launch} {B : KB} {L : KLay} {M : KMem} {u : Nat} (hst : l.stackTraces = false) (hu : okL L u twT) {r : Int32} (e : m_Tw_reasonAgainstPlan u M = some r) : CtrN l B yX8_reasonAgainstPlan cX8_reasonAgainstPlan 3 (some .int) rm_Tw_reasonAgainstPlan [.ref (B.1 + u)] L M (some (.int r)) L M :=
  mk_I rfl hst rfl (fun X hl G _ R => b_Tw_reasonAgainstPlan G hu ⟨_, e, R⟩)
def I_Tw_reasonAgainstDecree : List (Nat × Instr × Nat) := [(0, .iconst 0, 1), (1, .istore 5, 2), (3, .iload 5, 2), (5, .bipush 8, 2), (7, .if_icmp .ge 43, 3), (10, .aload_n 0, 1), (11, .iload 5, 2), (13, .invokevirtual 40, 3), (16, .ifCond .eq 34, 3), (19, .aload_n 0, 1), (20, .getfield 32, 3), (23, .iload 5, 2), (25, .iload_n 1, 1), (26, .iload_n 2, 1), (27, .iload_n 3, 1), (28, .iload 4, 2), (30, .aload_n 0, 1), (31, .getfield 12, 3), (34, .getfield 47, 3), (37, .iload 5, 2), (39, .iaload, 1), (40, .invokestatic 123, 3), (43, .iastore, 1), (44, .iinc 5 1, 3), (47, .goto (-44), 3), (50, .aload_n 0, 1), (51, .invokevirtual 115, 3), (54, .ireturn, 1)]
set_option maxRecDepth 100000 in
theorem d_Tw_reasonAgainstDecree : decA cX8_reasonAgainstDecree I_Tw_reasonAgainstDecree = true := by decide +kernel
abbrev rm_Tw_reasonAgainstDecree : Room := ({ frames := 2, cells := 0, slots := 0, locals := 52 } : Room)
def m_Tw_reasonAgainstDecree_l3 (u : Nat) (p0 : Int32) (p1 : Int32) (p2 : Int32) (p3 : Int32) : (Int32 × KMem) → Option ((Int32 × KMem) ⊕ KMem) := fun (v5_1, M2) =>
 if 8 ≤ v5_1 then
 (some (.inr M2))
 else
 (Option.bind (m_Tw_hasSign u v5_1 M2) fun x5 =>
 if x5 = 0 then
 (some (.inr M2))
 else
 (Option.bind (rdI M2 (u + 7) 8 v5_1) fun x8 =>
 Option.bind (m_Wo_decreed p0 p1 p2 p3 x8) fun x10 =>
 Option.bind (wrI M2 (u + 17) 8 v5_1 x10) fun M12 =>
 some (.inl (v5_1 + 1, M12))))
def m_Tw_reasonAgainstDecree (u : Nat) (p0 : Int32) (p1 : Int32) (p2 : Int32) (p3 : Int32) (M : KMem) : Option (Int32 × KMem) :=
 Option.bind (α := KMem) (kLp (m_Tw_reasonAgainstDecree_l3 u p0 p1 p2 p3) kFU (0, M)) fun M13 =>
 Option.bind (m_Tw_reasonAgainstPlan u M13) fun x15 =>
 some (x15, M13)
set_option maxHeartbeats 4000000 in
set_option maxRecDepth 100000 in
theorem b_Tw_reasonAgainstDecree {X : KX} {B : KB} {L : KLay} {M : KMem} {u : Nat} {p0 : Int32} {p1 : Int32} {p2 : Int32} {p3 : Int32} (G : Good X B RX8 cX8_reasonAgainstDecree 6 rm_Tw_reasonAgainstDecree) (hu : okL L u twT) (h : kOk (m_Tw_reasonAgainstDecree u p0 p1 p2 p3 M) (fun r => RI X B L 6 cX8_reasonAgainstDecree .int rm_Tw_reasonAgainstDecree r.1 r.2)) : KK X B L 6 0 0 M 0 [(0, .ref (B.1 + u)), (1, .int p0), (2, .int p1), (3, .int p2), (4, .int p3)] [] := by
  unfold m_Tw_reasonAgainstDecree at h
  refine k_iconst G (dc d_Tw_reasonAgainstDecree 0 rfl) cI_0 ?_
  refine k_istore G (dc d_Tw_reasonAgainstDecree 1 rfl) (ls' := [(5, .int 0), (0, .ref (B.1 + u)), (1, .int p0), (2, .int p1), (3, .int p2), (4, .int p3)]) rfl rfl ?_
  refine kJ h (fun r16 => KK X B L 6 0 0 r16 50 [(0, .ref (B.1 + u))] []) (fun r16 h => ?_) (fun h => ?_)
  · obtain ⟨M13, rfl⟩ : ∃ z, z = r16 := ⟨_, rfl⟩
    show KK X B L 6 0 0 M13 50 [(0, .ref (B.1 + u))] []
    refine k_aload_n G (dc d_Tw_reasonAgainstDecree 25 rfl) 0 rfl rfl ?_
    obtain ⟨x15, e14, h⟩ := kOk_b h
    refine k_cVI G (dc d_Tw_reasonAgainstDecree 26 rfl) kc6 (okL_lt hu (o := 0) 0 rfl) (okL_k hu (o := 0) 0 rfl) mi_Tw_reasonAgainstPlan mv_Tw_reasonAgainstPlan rfl ml_RX8_115 (c_Tw_reasonAgainstPlan (gst G) hu e14) rfl rfl ⟨rfl, rfl⟩ rfl ⟨rfl, rfl⟩ ⟨rfl, rfl⟩ ?_
    exact (kOk_s h) _ _ _ _ rfl rfl rfl (dc d_Tw_reasonAgainstDecree 27 rfl)
  · refine k_sub [1, 2, 3, 4, 5, 0] rfl ?_
    refine kLp_ok (P := fun s17 => KK X B L 6 0 0 s17.2 3 [(0, .ref (B.1 + u)), (1, .int p0), (2, .int p1), (3, .int p2), (4, .int p3), (5, .int s17.1)] []) (fun s17 h => ?_) kFU _ h
    obtain ⟨v5_1, M2⟩ := s17
    unfold m_Tw_reasonAgainstDecree_l3 at h
    show KK X B L 6 0 0 M2 3 [(0, .ref (B.1 + u)), (1, .int p0), (2, .int p1), (3, .int p2), (4, .int p3), (5, .int v5_1)] []
    refine k_iload G (dc d_Tw_reasonAgainstDecree 2 rfl) 5 rfl ?_
    refine k_bipush G (dc d_Tw_reasonAgainstDecree 3 rfl) cB_8 ?_
    refine k_icmp_ge G (dc d_Tw_reasonAgainstDecree 4 rfl) (tgt := 50) rfl (fun c3 => ?_) (fun c3 => ?_)
    · replace h := kOk_p c3 h
      refine k_sub [0] rfl ?_
      have h9 := kOk_s h
      exact h9
    · replace h := kOk_n c3 h
      refine k_aload_n G (dc d_Tw_reasonAgainstDecree 5 rfl) 0 rfl rfl ?_
      refine k_iload G (dc d_Tw_reasonAgainstDecree 6 rfl) 5 rfl ?_
      obtain ⟨x5, e4, h⟩ := kOk_b h
      refine k_cVI G (dc d_Tw_reasonAgainstDecree 7 rfl) kc6 (okL_lt hu (o := 0) 0 rfl) (okL_k hu (o := 0) 0 rfl) mi_Tw_hasSign mv_Tw_hasSign rfl ml_RX8_40 (c_Tw_hasSign (gst G) hu e4) rfl rfl ⟨rfl, rfl⟩ rfl ⟨rfl, rfl⟩ ⟨rfl, rfl⟩ ?_
      refine k_if_eq G (dc d_Tw_reasonAgainstDecree 8 rfl) (tgt := 50) rfl (fun c6 => ?_) (fun c6 => ?_)
      · replace h := kOk_p c6 h
        refine k_sub [0] rfl ?_
        have h9 := kOk_s h
        exact h9
      · replace h := kOk_n c6 h
        refine k_aload_n G (dc d_Tw_reasonAgainstDecree 9 rfl) 0 rfl rfl ?_
        refine k_getR G kc6 (dc d_Tw_reasonAgainstDecree 10 rfl) (okL_lt hu (o := 0) 0 rfl) (okL_k hu (o := 0) 0 rfl) 3 (by decide) rfl fl_RX8_32 (u + 17) (okL_r hu (o := 0) (c := 17) 0 rfl 3 rfl) ?_
        refine k_iload G (dc d_Tw_reasonAgainstDecree 11 rfl) 5 rfl ?_
        refine k_iload_n G (dc d_Tw_reasonAgainstDecree 12 rfl) 1 rfl rfl ?_
        refine k_iload_n G (dc d_Tw_reasonAgainstDecree 13 rfl) 2 rfl rfl ?_
        refine k_iload_n G (dc d_Tw_reasonAgainstDecree 14 rfl) 3 rfl rfl ?_
        refine k_iload G (dc d_Tw_reasonAgainstDecree 15 rfl) 4 rfl ?_
        refine k_aload_n G (dc d_Tw_reasonAgainstDecree 16 rfl) 0 rfl rfl ?_
        refine k_getR G kc6 (dc d_Tw_reasonAgainstDecree 17 rfl) (okL_lt hu (o := 0) 0 rfl) (okL_k hu (o := 0) 0 rfl) 0 (by decide) rfl fl_RX8_12 (u + 1) (okL_r hu (o := 0) (c := 1) 0 rfl 0 rfl) ?_
        refine k_getR G kc5 (dc d_Tw_reasonAgainstDecree 18 rfl) (okL_lt hu (o := 1) 1 rfl) (okL_k hu (o := 1) 1 rfl) 5 (by decide) rfl fl_RX8_47 (u + 7) (okL_r hu (o := 1) (c := 7) 1 rfl 4 rfl) ?_
        refine k_iload G (dc d_Tw_reasonAgainstDecree 19 rfl) 5 rfl ?_
        obtain ⟨x8, e7, h⟩ := kOk_b h
        refine k_ild G (dc d_Tw_reasonAgainstDecree 20 rfl) (okL_lt hu (o := 7) 7 rfl) (okL_k hu (o := 7) 7 rfl) (okL_n hu (o := 7) 7 rfl) e7 ?_
        obtain ⟨x10, e9, h⟩ := kOk_b h
        refine k_cSI G (dc d_Tw_reasonAgainstDecree 21 rfl) mi_Wo_decreed ms_Wo_decreed ml_RX8_123 (c_Wo_decreed (gst G)  e9) rfl rfl ⟨rfl, rfl⟩ rfl ⟨rfl, rfl⟩ ⟨rfl, rfl⟩ ?_
        obtain ⟨M12, e11, h⟩ := kOk_b h
        refine k_ist G (dc d_Tw_reasonAgainstDecree 22 rfl) (okL_lt hu (o := 17) 17 rfl) (okL_k hu (o := 17) 17 rfl) (okL_n hu (o := 17) 17 rfl) e11 ?_
        refine k_iinc G (dc d_Tw_reasonAgainstDecree 23 rfl) (ls' := [(5, .int (v5_1 + 1)), (0, .ref (B.1 + u)), (1, .int p0), (2, .int p1), (3, .int p2), (4, .int p3)]) 5 rfl cI_1 rfl rfl ?_
        refine k_goto G (dc d_Tw_reasonAgainstDecree 24 rfl) (tgt := 3) rfl ?_
        refine k_sub [1, 2, 3, 4, 5, 0] rfl ?_
        have h9 := kOk_s h
        exact h9
theorem c_Tw_reasonAgainstDecree {l : Launch} {B : KB} {L : KLay} {M : KMem} {u : Nat} {p0 : Int32} {p1 : Int32} {p2 : Int32} {p3 : Int32} (hst : l.stackTraces = false) (hu : okL L u twT) {r : Int32} {M' : KMem} (e : m_Tw_reasonAgainstDecree u p0 p1 p2 p3 M = some (r, M')) : CtrN l B yX8_reasonAgainstDecree cX8_reasonAgainstDecree 6 (some .int) rm_Tw_reasonAgainstDecree [.ref (B.1 + u), .int p0, .int p1, .int p2, .int p3] L M (some (.int r)) L M' :=
  mk_I rfl hst rfl (fun X hl G _ R => b_Tw_reasonAgainstDecree G hu ⟨_, e, R⟩)
def I_Tw_giveDecree : List (Nat × Instr × Nat) := [(0, .aload_n 0, 1), (1, .getfield 12, 3), (4, .getfield 64, 3), (7, .invokevirtual 88, 3), (10, .ifCond .eq 5, 3), (13, .iconst 3, 1), (14, .ireturn, 1), (15, .aload_n 0, 1), (16, .iload_n 1, 1), (17, .iload_n 2, 1), (18, .iload_n 3, 1), (19, .iload 4, 2), (21, .invokevirtual 92, 3), (24, .istore 5, 2), (26, .iload 5, 2), (28, .ifCond .ne 43, 3), (31, .aload_n 0, 1), (32, .getfield 12, 3), (35, .getfield 64, 3), (38, .iload_n 1, 1), (39, .iload_n 2, 1), (40, .iload_n 3, 1), (41, .iload 4, 2), (43, .aload_n 0, 1), (44, .getfield 12, 3), (47, .getfield 96, 3), (50, .invokevirtual 99, 3), (53, .aload_n 0, 1), (54, .getfield 32, 3), (57, .iconst 0, 1), (58, .aload_n 0, 1), (59, .getfield 12, 3), (62, .getfield 47, 3), (65, .iconst 0, 1), (66, .bipush 8, 2), (68, .invokestatic 103, 3), (71, .iload 5, 2), (73, .ireturn, 1)]
set_option maxRecDepth 100000 in
theorem d_Tw_giveDecree : decA cX8_giveDecree I_Tw_giveDecree = true := by decide +kernel
abbrev rm_Tw_giveDecree : Room := ({ frames := 3, cells := 0, slots := 0, locals := 77 } : Room)
def m_Tw_giveDecree (u : Nat) (p0 : Int32) (p1 : Int32) (p2 : Int32) (p3 : Int32) (M : KMem) : Option (Int32 × KMem) :=
 Option.bind (m_De_areFull (u + 2) M) fun x2 =>
 if x2 = 0 then
 (Option.bind (m_Tw_reasonAgainstDecree u p0 p1 p2 p3 M) fun (x5, M6) =>
 Option.bind (α := KMem) (if x5 = 0 then
 (Option.bind (m_De_add (u + 2) p0 p1 p2 p3 (M6 (u + 1) 11) M6) fun M11 =>
 Option.bind (cpI M11 (u + 17) 8 (u + 7) 8 0 0 8) fun M13 =>
 some M13)
 else
 (some M6)) fun M7 =>
 some (x5, M7))
 else
 (some (3, M))
set_option maxHeartbeats 4000000 in
set_option maxRecDepth 100000 in
theorem b_Tw_giveDecree {X : KX} {B : KB} {L : KLay} {M : KMem} {u : Nat} {p0 : Int32} {p1 : Int32} {p2 : Int32} {p3 : Int32} (G : Good X B RX8 cX8_giveDecree 6 rm_Tw_giveDecree) (hx : B.2.2.2 = false) (hu : okL L u twT) (h : kOk (m_Tw_giveDecree u p0 p1 p2 p3 M) (fun r => RI X B L 6 cX8_giveDecree .int rm_Tw_giveDecree r.1 r.2)) : KK X B L 6 0 0 M 0 [(0, .ref (B.1 + u)), (1, .int p0), (2, .int p1), (3, .int p2), (4, .int p3)] [] := by
  unfold m_Tw_giveDecree at h
  refine k_aload_n G (dc d_Tw_giveDecree 0 rfl) 0 rfl rfl ?_
  refine k_getR G kc6 (dc d_Tw_giveDecree 1 rfl) (okL_lt hu (o := 0) 0 rfl) (okL_k hu (o := 0) 0 rfl) 0 (by decide) rfl fl_RX8_12 (u + 1) (okL_r hu (o := 0) (c := 1) 0 rfl 0 rfl) ?_
  refine k_getR G kc5 (dc d_Tw_giveDecree 2 rfl) (okL_lt hu (o := 1) 1 rfl) (okL_k hu (o := 1) 1 rfl) 0 (by decide) rfl fl_RX8_64 (u + 2) (okL_r hu (o := 1) (c := 2) 1 rfl 0 rfl) ?_
  obtain ⟨x2, e1, h⟩ := kOk_b h
  refine k_cVI G (dc d_Tw_giveDecree 3 rfl) kc0 (okL_lt hu (o := 2) 2 rfl) (okL_k hu (o := 2) 2 rfl) mi_De_areFull mv_De_areFull rfl ml_RX8_88 (c_De_areFull (gst G) (okL_sub hu 2 (by decide +kernel)) e1) rfl rfl ⟨rfl, rfl⟩ rfl ⟨rfl, rfl⟩ ⟨rfl, rfl⟩ ?_
  refine k_if_eq G (dc d_Tw_giveDecree 4 rfl) (tgt := 15) rfl (fun c3 => ?_) (fun c3 => ?_)
  · replace h := kOk_p c3 h
    refine k_aload_n G (dc d_Tw_giveDecree 7 rfl) 0 rfl rfl ?_
    refine k_iload_n G (dc d_Tw_giveDecree 8 rfl) 1 rfl rfl ?_
    refine k_iload_n G (dc d_Tw_giveDecree 9 rfl) 2 rfl rfl ?_
    refine k_iload_n G (dc d_Tw_giveDecree 10 rfl) 3 rfl rfl ?_
    refine k_iload G (dc d_Tw_giveDecree 11 rfl) 4 rfl ?_
    obtain ⟨⟨x5, M6⟩, e4, h⟩ := kOk_b h
    refine k_cVI G (dc d_Tw_giveDecree 12 rfl) kc6 (okL_lt hu (o := 0) 0 rfl) (okL_k hu (o := 0) 0 rfl) mi_Tw_reasonAgainstDecree mv_Tw_reasonAgainstDecree rfl ml_RX8_92 (c_Tw_reasonAgainstDecree (gst G) hu e4) rfl rfl ⟨rfl, rfl⟩ rfl ⟨rfl, rfl⟩ ⟨rfl, rfl⟩ ?_
    refine k_istore G (dc d_Tw_giveDecree 13 rfl) (ls' := [(5, .int x5), (0, .ref (B.1 + u)), (1, .int p0), (2, .int p1), (3, .int p2), (4, .int p3)]) rfl rfl ?_
    refine k_iload G (dc d_Tw_giveDecree 14 rfl) 0 rfl ?_
    refine kJ h (fun r8 => KK X B L 6 0 0 r8 71 [(5, .int x5)] []) (fun r8 h => ?_) (fun h => ?_)
    · obtain ⟨M7, rfl⟩ : ∃ z, z = r8 := ⟨_, rfl⟩
      show KK X B L 6 0 0 M7 71 [(5, .int x5)] []
      refine k_iload G (dc d_Tw_giveDecree 36 rfl) 0 rfl ?_
      exact (kOk_s h) _ _ _ _ rfl rfl rfl (dc d_Tw_giveDecree 37 rfl)
    · refine k_if_ne G (dc d_Tw_giveDecree 15 rfl) (tgt := 71) rfl (fun c9 => ?_) (fun c9 => ?_)
      · replace h := kOk_n c9 h
        refine k_sub [0] rfl ?_
        have h9 := kOk_s h
        exact h9
      · replace h := kOk_p c9 h
        refine k_aload_n G (dc d_Tw_giveDecree 16 rfl) 1 rfl rfl ?_
        refine k_getR G kc6 (dc d_Tw_giveDecree 17 rfl) (okL_lt hu (o := 0) 0 rfl) (okL_k hu (o := 0) 0 rfl) 0 (by decide) rfl fl_RX8_12 (u + 1) (okL_r hu (o := 0) (c := 1) 0 rfl 0 rfl) ?_
        refine k_getR G kc5 (dc d_Tw_giveDecree 18 rfl) (okL_lt hu (o := 1) 1 rfl) (okL_k hu (o := 1) 1 rfl) 0 (by decide) rfl fl_RX8_64 (u + 2) (okL_r hu (o := 1) (c := 2) 1 rfl 0 rfl) ?_
        refine k_iload_n G (dc d_Tw_giveDecree 19 rfl) 2 rfl rfl ?_
        refine k_iload_n G (dc d_Tw_giveDecree 20 rfl) 3 rfl rfl ?_
        refine k_iload_n G (dc d_Tw_giveDecree 21 rfl) 4 rfl rfl ?_
        refine k_iload G (dc d_Tw_giveDecree 22 rfl) 5 rfl ?_
        refine k_aload_n G (dc d_Tw_giveDecree 23 rfl) 1 rfl rfl ?_
        refine k_getR G kc6 (dc d_Tw_giveDecree 24 rfl) (okL_lt hu (o := 0) 0 rfl) (okL_k hu (o := 0) 0 rfl) 0 (by decide) rfl fl_RX8_12 (u + 1) (okL_r hu (o := 0) (c := 1) 0 rfl 0 rfl) ?_
        refine k_getI G kc5 (dc d_Tw_giveDecree 25 rfl) (okL_lt hu (o := 1) 1 rfl) (okL_k hu (o := 1) 1 rfl) 11 (by decide) rfl fl_RX8_96 ?_
        obtain ⟨M11, e10, h⟩ := kOk_b h
        refine k_cVV G (dc d_Tw_giveDecree 26 rfl) kc0 (okL_lt hu (o := 2) 2 rfl) (okL_k hu (o := 2) 2 rfl) mi_De_add mv_De_add rfl ml_RX8_99 (c_De_add (gst G) (okL_sub hu 2 (by decide +kernel)) e10) rfl rfl ⟨rfl, rfl⟩ rfl ⟨rfl, rfl⟩ ⟨rfl, rfl⟩ ?_
        refine k_aload_n G (dc d_Tw_giveDecree 27 rfl) 1 rfl rfl ?_
        refine k_getR G kc6 (dc d_Tw_giveDecree 28 rfl) (okL_lt hu (o := 0) 0 rfl) (okL_k hu (o := 0) 0 rfl) 3 (by decide) rfl fl_RX8_32 (u + 17) (okL_r hu (o := 0) (c := 17) 0 rfl 3 rfl) ?_
        refine k_iconst G (dc d_Tw_giveDecree 29 rfl) cI_0 ?_
        refine k_aload_n G (dc d_Tw_giveDecree 30 rfl) 1 rfl rfl ?_
        refine k_getR G kc6 (dc d_Tw_giveDecree 31 rfl) (okL_lt hu (o := 0) 0 rfl) (okL_k hu (o := 0) 0 rfl) 0 (by decide) rfl fl_RX8_12 (u + 1) (okL_r hu (o := 0) (c := 1) 0 rfl 0 rfl) ?_
        refine k_getR G kc5 (dc d_Tw_giveDecree 32 rfl) (okL_lt hu (o := 1) 1 rfl) (okL_k hu (o := 1) 1 rfl) 5 (by decide) rfl fl_RX8_47 (u + 7) (okL_r hu (o := 1) (c := 7) 1 rfl 4 rfl) ?_
        refine k_iconst G (dc d_Tw_giveDecree 33 rfl) cI_0 ?_
        refine k_bipush G (dc d_Tw_giveDecree 34 rfl) cB_8 ?_
        obtain ⟨M13, e12, h⟩ := kOk_b h
        refine k_copy G hx (dc d_Tw_giveDecree 35 rfl) ml_RX8_103 syscopy ⟨rfl, rfl⟩ (okL_lt hu (o := 17) 17 rfl) (okL_k hu (o := 17) 17 rfl) (okL_n hu (o := 17) 17 rfl) (okL_lt hu (o := 7) 7 rfl) (okL_k hu (o := 7) 7 rfl) (okL_n hu (o := 7) 7 rfl) e12 ?_
        refine k_sub [0] rfl ?_
        have h9 := kOk_s h
        exact h9
  · replace h := kOk_n c3 h
    refine k_iconst G (dc d_Tw_giveDecree 5 rfl) cI_3 ?_
    exact (kOk_s h) _ _ _ _ rfl rfl rfl (dc d_Tw_giveDecree 6 rfl)
theorem c_Tw_giveDecree {l : Launch} {B : KB} {L : KLay} {M : KMem} {u : Nat} {p0 : Int32} {p1 : Int32} {p2 : Int32} {p3 : Int32} (hst : l.stackTraces = false) (hx : B.2.2.2 = false) (hu : okL L u twT) {r : Int32} {M' : KMem} (e : m_Tw_giveDecree u p0 p1 p2 p3 M = some (r, M')) : CtrN l B yX8_giveDecree cX8_giveDecree 6 (some .int) rm_Tw_giveDecree [.ref (B.1 + u), .int p0, .int p1, .int p2, .int p3] L M (some (.int r)) L M' :=
  mk_I rfl hst rfl (fun X hl G _ R => b_Tw_giveDecree G hx hu ⟨_, e, R⟩)
def I_Tw_takeDecree : List (Nat × Instr × Nat) := [(0, .aload_n 0, 1), (1, .getfield 12, 3), (4, .getfield 64, 3), (7, .iload_n 1, 1), (8, .invokevirtual 109, 3), (11, .ifCond .ne 5, 3), (14, .iconst 3, 1), (15, .ireturn, 1), (16, .iconst 0, 1), (17, .istore_n 2, 1), (18, .iload_n 2, 1), (19, .bipush 8, 2), (21, .if_icmp .ge 43, 3), (24, .aload_n 0, 1), (25, .iload_n 2, 1), (26, .invokevirtual 40, 3), (29, .ifCond .eq 35, 3), (32, .aload_n 0, 1), (33, .getfield 32, 3), (36, .iload_n 2, 1), (37, .aload_n 0, 1), (38, .getfield 12, 3), (41, .getfield 64, 3), (44, .iload_n 1, 1), (45, .aload_n 0, 1), (46, .getfield 12, 3), (49, .getfield 61, 3), (52, .iload_n 2, 1), (53, .iaload, 1), (54, .invokevirtual 112, 3), (57, .iastore, 1), (58, .iinc 2 1, 3), (61, .goto (-43), 3), (64, .aload_n 0, 1), (65, .invokevirtual 115, 3), (68, .istore_n 2, 1), (69, .iload_n 2, 1), (70, .ifCond .ne 32, 3), (73, .aload_n 0, 1), (74, .getfield 12, 3), (77, .getfield 64, 3), (80, .iload_n 1, 1), (81, .invokevirtual 119, 3), (84, .aload_n 0, 1), (85, .getfield 32, 3), (88, .iconst 0, 1), (89, .aload_n 0, 1), (90, .getfield 12, 3), (93, .getfield 47, 3), (96, .iconst 0, 1), (97, .bipush 8, 2), (99, .invokestatic 103, 3), (102, .iload_n 2, 1), (103, .ireturn, 1)]
set_option maxRecDepth 100000 in
theorem d_Tw_takeDecree : decA cX8_takeDecree I_Tw_takeDecree = true := by decide +kernel
abbrev rm_Tw_takeDecree : Room := ({ frames := 3, cells := 0, slots := 0, locals := 82 } : Room)
def m_Tw_takeDecree_l18 (u : Nat) (p0 : Int32) : (Int32 × KMem) → Option ((Int32 × KMem) ⊕ KMem) := fun (v2_4, M5) =>
 if 8 ≤ v2_4 then
 (some (.inr M5))
 else
 (Option.bind (m_Tw_hasSign u v2_4 M5) fun x8 =>
 if x8 = 0 then
 (some (.inr M5))
 else
 (Option.bind (rdI M5 (u + 5) 8 v2_4) fun x11 =>
 Option.bind (m_De_spellingWithout (u + 2) p0 x11 M5) fun x13 =>
 Option.bind (wrI M5 (u + 17) 8 v2_4 x13) fun M15 =>
 some (.inl (v2_4 + 1, M15))))
def m_Tw_takeDecree (u : Nat) (p0 : Int32) (M : KMem) : Option (Int32 × KMem) :=
 Option.bind (m_De_has (u + 2) p0 M) fun x2 =>
 if x2 = 0 then
 (some (3, M))
 else
 (Option.bind (α := KMem) (kLp (m_Tw_takeDecree_l18 u p0) kFU (0, M)) fun M16 =>
 Option.bind (m_Tw_reasonAgainstPlan u M16) fun x18 =>
 Option.bind (α := KMem) (if x18 = 0 then
 (Option.bind (m_De_remove (u + 2) p0 M16) fun M23 =>
 Option.bind (cpI M23 (u + 17) 8 (u + 7) 8 0 0 8) fun M25 =>
 some M25)
 else
 (some M16)) fun M19 =>
 some (x18, M19))
set_option maxHeartbeats 4000000 in
set_option maxRecDepth 100000 in
theorem b_Tw_takeDecree {X : KX} {B : KB} {L : KLay} {M : KMem} {u : Nat} {p0 : Int32} (G : Good X B RX8 cX8_takeDecree 3 rm_Tw_takeDecree) (hx : B.2.2.2 = false) (hu : okL L u twT) (h : kOk (m_Tw_takeDecree u p0 M) (fun r => RI X B L 3 cX8_takeDecree .int rm_Tw_takeDecree r.1 r.2)) : KK X B L 3 0 0 M 0 [(0, .ref (B.1 + u)), (1, .int p0)] [] := by
  unfold m_Tw_takeDecree at h
  refine k_aload_n G (dc d_Tw_takeDecree 0 rfl) 0 rfl rfl ?_
  refine k_getR G kc6 (dc d_Tw_takeDecree 1 rfl) (okL_lt hu (o := 0) 0 rfl) (okL_k hu (o := 0) 0 rfl) 0 (by decide) rfl fl_RX8_12 (u + 1) (okL_r hu (o := 0) (c := 1) 0 rfl 0 rfl) ?_
  refine k_getR G kc5 (dc d_Tw_takeDecree 2 rfl) (okL_lt hu (o := 1) 1 rfl) (okL_k hu (o := 1) 1 rfl) 0 (by decide) rfl fl_RX8_64 (u + 2) (okL_r hu (o := 1) (c := 2) 1 rfl 0 rfl) ?_
  refine k_iload_n G (dc d_Tw_takeDecree 3 rfl) 1 rfl rfl ?_
  obtain ⟨x2, e1, h⟩ := kOk_b h
  refine k_cVI G (dc d_Tw_takeDecree 4 rfl) kc0 (okL_lt hu (o := 2) 2 rfl) (okL_k hu (o := 2) 2 rfl) mi_De_has mv_De_has rfl ml_RX8_109 (c_De_has (gst G) (okL_sub hu 2 (by decide +kernel)) e1) rfl rfl ⟨rfl, rfl⟩ rfl ⟨rfl, rfl⟩ ⟨rfl, rfl⟩ ?_
  refine k_if_ne G (dc d_Tw_takeDecree 5 rfl) (tgt := 16) rfl (fun c3 => ?_) (fun c3 => ?_)
  · replace h := kOk_n c3 h
    refine k_iconst G (dc d_Tw_takeDecree 8 rfl) cI_0 ?_
    refine k_istore_n G (dc d_Tw_takeDecree 9 rfl) (ls' := [(2, .int 0), (0, .ref (B.1 + u)), (1, .int p0)]) rfl rfl rfl ?_
    refine kJ h (fun r26 => KK X B L 3 0 0 r26 64 [(0, .ref (B.1 + u)), (1, .int p0)] []) (fun r26 h => ?_) (fun h => ?_)
    · obtain ⟨M16, rfl⟩ : ∃ z, z = r26 := ⟨_, rfl⟩
      show KK X B L 3 0 0 M16 64 [(0, .ref (B.1 + u)), (1, .int p0)] []
      refine k_aload_n G (dc d_Tw_takeDecree 33 rfl) 0 rfl rfl ?_
      obtain ⟨x18, e17, h⟩ := kOk_b h
      refine k_cVI G (dc d_Tw_takeDecree 34 rfl) kc6 (okL_lt hu (o := 0) 0 rfl) (okL_k hu (o := 0) 0 rfl) mi_Tw_reasonAgainstPlan mv_Tw_reasonAgainstPlan rfl ml_RX8_115 (c_Tw_reasonAgainstPlan (gst G) hu e17) rfl rfl ⟨rfl, rfl⟩ rfl ⟨rfl, rfl⟩ ⟨rfl, rfl⟩ ?_
      refine k_istore_n G (dc d_Tw_takeDecree 35 rfl) (ls' := [(2, .int x18), (0, .ref (B.1 + u)), (1, .int p0)]) rfl rfl rfl ?_
      refine k_iload_n G (dc d_Tw_takeDecree 36 rfl) 0 rfl rfl ?_
      refine kJ h (fun r20 => KK X B L 3 0 0 r20 102 [(2, .int x18)] []) (fun r20 h => ?_) (fun h => ?_)
      · obtain ⟨M19, rfl⟩ : ∃ z, z = r20 := ⟨_, rfl⟩
        show KK X B L 3 0 0 M19 102 [(2, .int x18)] []
        refine k_iload_n G (dc d_Tw_takeDecree 52 rfl) 0 rfl rfl ?_
        exact (kOk_s h) _ _ _ _ rfl rfl rfl (dc d_Tw_takeDecree 53 rfl)
      · refine k_if_ne G (dc d_Tw_takeDecree 37 rfl) (tgt := 102) rfl (fun c21 => ?_) (fun c21 => ?_)
        · replace h := kOk_n c21 h
          refine k_sub [0] rfl ?_
          have h9 := kOk_s h
          exact h9
        · replace h := kOk_p c21 h
          refine k_aload_n G (dc d_Tw_takeDecree 38 rfl) 1 rfl rfl ?_
          refine k_getR G kc6 (dc d_Tw_takeDecree 39 rfl) (okL_lt hu (o := 0) 0 rfl) (okL_k hu (o := 0) 0 rfl) 0 (by decide) rfl fl_RX8_12 (u + 1) (okL_r hu (o := 0) (c := 1) 0 rfl 0 rfl) ?_
          refine k_getR G kc5 (dc d_Tw_takeDecree 40 rfl) (okL_lt hu (o := 1) 1 rfl) (okL_k hu (o := 1) 1 rfl) 0 (by decide) rfl fl_RX8_64 (u + 2) (okL_r hu (o := 1) (c := 2) 1 rfl 0 rfl) ?_
          refine k_iload_n G (dc d_Tw_takeDecree 41 rfl) 2 rfl rfl ?_
          obtain ⟨M23, e22, h⟩ := kOk_b h
          refine k_cVV G (dc d_Tw_takeDecree 42 rfl) kc0 (okL_lt hu (o := 2) 2 rfl) (okL_k hu (o := 2) 2 rfl) mi_De_remove mv_De_remove rfl ml_RX8_119 (c_De_remove (gst G) hx (okL_sub hu 2 (by decide +kernel)) e22) rfl rfl ⟨rfl, rfl⟩ rfl ⟨rfl, rfl⟩ ⟨rfl, rfl⟩ ?_
          refine k_aload_n G (dc d_Tw_takeDecree 43 rfl) 1 rfl rfl ?_
          refine k_getR G kc6 (dc d_Tw_takeDecree 44 rfl) (okL_lt hu (o := 0) 0 rfl) (okL_k hu (o := 0) 0 rfl) 3 (by decide) rfl fl_RX8_32 (u + 17) (okL_r hu (o := 0) (c := 17) 0 rfl 3 rfl) ?_
          refine k_iconst G (dc d_Tw_takeDecree 45 rfl) cI_0 ?_
          refine k_aload_n G (dc d_Tw_takeDecree 46 rfl) 1 rfl rfl ?_
          refine k_getR G kc6 (dc d_Tw_takeDecree 47 rfl) (okL_lt hu (o := 0) 0 rfl) (okL_k hu (o := 0) 0 rfl) 0 (by decide) rfl fl_RX8_12 (u + 1) (okL_r hu (o := 0) (c := 1) 0 rfl 0 rfl) ?_
          refine k_getR G kc5 (dc d_Tw_takeDecree 48 rfl) (okL_lt hu (o := 1) 1 rfl) (okL_k hu (o := 1) 1 rfl) 5 (by decide) rfl fl_RX8_47 (u + 7) (okL_r hu (o := 1) (c := 7) 1 rfl 4 rfl) ?_
          refine k_iconst G (dc d_Tw_takeDecree 49 rfl) cI_0 ?_
          refine k_bipush G (dc d_Tw_takeDecree 50 rfl) cB_8 ?_
          obtain ⟨M25, e24, h⟩ := kOk_b h
          refine k_copy G hx (dc d_Tw_takeDecree 51 rfl) ml_RX8_103 syscopy ⟨rfl, rfl⟩ (okL_lt hu (o := 17) 17 rfl) (okL_k hu (o := 17) 17 rfl) (okL_n hu (o := 17) 17 rfl) (okL_lt hu (o := 7) 7 rfl) (okL_k hu (o := 7) 7 rfl) (okL_n hu (o := 7) 7 rfl) e24 ?_
          refine k_sub [0] rfl ?_
          have h9 := kOk_s h
          exact h9
    · refine k_sub [1, 2, 0] rfl ?_
      refine kLp_ok (P := fun s27 => KK X B L 3 0 0 s27.2 18 [(0, .ref (B.1 + u)), (1, .int p0), (2, .int s27.1)] []) (fun s27 h => ?_) kFU _ h
      obtain ⟨v2_4, M5⟩ := s27
      unfold m_Tw_takeDecree_l18 at h
      show KK X B L 3 0 0 M5 18 [(0, .ref (B.1 + u)), (1, .int p0), (2, .int v2_4)] []
      refine k_iload_n G (dc d_Tw_takeDecree 10 rfl) 2 rfl rfl ?_
      refine k_bipush G (dc d_Tw_takeDecree 11 rfl) cB_8 ?_
      refine k_icmp_ge G (dc d_Tw_takeDecree 12 rfl) (tgt := 64) rfl (fun c6 => ?_) (fun c6 => ?_)
      · replace h := kOk_p c6 h
        refine k_sub [0, 1] rfl ?_
        have h9 := kOk_s h
        exact h9
      · replace h := kOk_n c6 h
        refine k_aload_n G (dc d_Tw_takeDecree 13 rfl) 0 rfl rfl ?_
        refine k_iload_n G (dc d_Tw_takeDecree 14 rfl) 2 rfl rfl ?_
        obtain ⟨x8, e7, h⟩ := kOk_b h
        refine k_cVI G (dc d_Tw_takeDecree 15 rfl) kc6 (okL_lt hu (o := 0) 0 rfl) (okL_k hu (o := 0) 0 rfl) mi_Tw_hasSign mv_Tw_hasSign rfl ml_RX8_40 (c_Tw_hasSign (gst G) hu e7) rfl rfl ⟨rfl, rfl⟩ rfl ⟨rfl, rfl⟩ ⟨rfl, rfl⟩ ?_
        refine k_if_eq G (dc d_Tw_takeDecree 16 rfl) (tgt := 64) rfl (fun c9 => ?_) (fun c9 => ?_)
        · replace h := kOk_p c9 h
          refine k_sub [0, 1] rfl ?_
          have h9 := kOk_s h
          exact h9
        · replace h := kOk_n c9 h
          refine k_aload_n G (dc d_Tw_takeDecree 17 rfl) 0 rfl rfl ?_
          refine k_getR G kc6 (dc d_Tw_takeDecree 18 rfl) (okL_lt hu (o := 0) 0 rfl) (okL_k hu (o := 0) 0 rfl) 3 (by decide) rfl fl_RX8_32 (u + 17) (okL_r hu (o := 0) (c := 17) 0 rfl 3 rfl) ?_
          refine k_iload_n G (dc d_Tw_takeDecree 19 rfl) 2 rfl rfl ?_
          refine k_aload_n G (dc d_Tw_takeDecree 20 rfl) 0 rfl rfl ?_
          refine k_getR G kc6 (dc d_Tw_takeDecree 21 rfl) (okL_lt hu (o := 0) 0 rfl) (okL_k hu (o := 0) 0 rfl) 0 (by decide) rfl fl_RX8_12 (u + 1) (okL_r hu (o := 0) (c := 1) 0 rfl 0 rfl) ?_
          refine k_getR G kc5 (dc d_Tw_takeDecree 22 rfl) (okL_lt hu (o := 1) 1 rfl) (okL_k hu (o := 1) 1 rfl) 0 (by decide) rfl fl_RX8_64 (u + 2) (okL_r hu (o := 1) (c := 2) 1 rfl 0 rfl) ?_
          refine k_iload_n G (dc d_Tw_takeDecree 23 rfl) 1 rfl rfl ?_
          refine k_aload_n G (dc d_Tw_takeDecree 24 rfl) 0 rfl rfl ?_
          refine k_getR G kc6 (dc d_Tw_takeDecree 25 rfl) (okL_lt hu (o := 0) 0 rfl) (okL_k hu (o := 0) 0 rfl) 0 (by decide) rfl fl_RX8_12 (u + 1) (okL_r hu (o := 0) (c := 1) 0 rfl 0 rfl) ?_
          refine k_getR G kc5 (dc d_Tw_takeDecree 26 rfl) (okL_lt hu (o := 1) 1 rfl) (okL_k hu (o := 1) 1 rfl) 3 (by decide) rfl fl_RX8_61 (u + 5) (okL_r hu (o := 1) (c := 5) 1 rfl 2 rfl) ?_
          refine k_iload_n G (dc d_Tw_takeDecree 27 rfl) 2 rfl rfl ?_
          obtain ⟨x11, e10, h⟩ := kOk_b h
          refine k_ild G (dc d_Tw_takeDecree 28 rfl) (okL_lt hu (o := 5) 5 rfl) (okL_k hu (o := 5) 5 rfl) (okL_n hu (o := 5) 5 rfl) e10 ?_
          obtain ⟨x13, e12, h⟩ := kOk_b h
          refine k_cVI G (dc d_Tw_takeDecree 29 rfl) kc0 (okL_lt hu (o := 2) 2 rfl) (okL_k hu (o := 2) 2 rfl) mi_De_spellingWithout mv_De_spellingWithout rfl ml_RX8_112 (c_De_spellingWithout (gst G) (okL_sub hu 2 (by decide +kernel)) e12) rfl rfl ⟨rfl, rfl⟩ rfl ⟨rfl, rfl⟩ ⟨rfl, rfl⟩ ?_
          obtain ⟨M15, e14, h⟩ := kOk_b h
          refine k_ist G (dc d_Tw_takeDecree 30 rfl) (okL_lt hu (o := 17) 17 rfl) (okL_k hu (o := 17) 17 rfl) (okL_n hu (o := 17) 17 rfl) e14 ?_
          refine k_iinc G (dc d_Tw_takeDecree 31 rfl) (ls' := [(2, .int (v2_4 + 1)), (0, .ref (B.1 + u)), (1, .int p0)]) 2 rfl cI_1 rfl rfl ?_
          refine k_goto G (dc d_Tw_takeDecree 32 rfl) (tgt := 18) rfl ?_
          refine k_sub [1, 2, 0] rfl ?_
          have h9 := kOk_s h
          exact h9
  · replace h := kOk_p c3 h
    refine k_iconst G (dc d_Tw_takeDecree 6 rfl) cI_3 ?_
    exact (kOk_s h) _ _ _ _ rfl rfl rfl (dc d_Tw_takeDecree 7 rfl)
theorem c_Tw_takeDecree {l : Launch} {B : KB} {L : KLay} {M : KMem} {u : Nat} {p0 : Int32} (hst : l.stackTraces = false) (hx : B.2.2.2 = false) (hu : okL L u twT) {r : Int32} {M' : KMem} (e : m_Tw_takeDecree u p0 M = some (r, M')) : CtrN l B yX8_takeDecree cX8_takeDecree 3 (some .int) rm_Tw_takeDecree [.ref (B.1 + u), .int p0] L M (some (.int r)) L M' :=
  mk_I rfl hst rfl (fun X hl G _ R => b_Tw_takeDecree G hx hu ⟨_, e, R⟩)
