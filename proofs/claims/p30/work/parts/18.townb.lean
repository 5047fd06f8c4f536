/-! laid by wip/p30/g30.py: Tw_counted, Tw_charge, Tw_repaint, Tw_sum, Tw_allFines, Tw_fineWrongSigns, Tw_passMonths, Tw_canForgive, Tw_wrongSigns, Tw_forgive, Tw_signsPaidBy, Tw_monthsTillFinesAreMore, Tw_lettersOf, Tw_lettersOfRights, Tw_costOfAll -/
def I_Tw_counted : List (Nat × Instr × Nat) := [(0, .iload_n 1, 1), (1, .ifCond .eq 16, 3), (4, .aload_n 0, 1), (5, .getfield 12, 3), (8, .dup, 1), (9, .getfield 129, 3), (12, .iconst 1, 1), (13, .iadd, 1), (14, .putfield 129, 3), (17, .iload_n 1, 1), (18, .ireturn, 1)]
set_option maxRecDepth 100000 in
theorem d_Tw_counted : decA cX8_counted I_Tw_counted = true := by decide +kernel
abbrev rm_Tw_counted : Room := ({ frames := 0, cells := 0, slots := 0, locals := 0 } : Room)
def m_Tw_counted (u : Nat) (p0 : Int32) (M : KMem) : Option (Int32 × KMem) :=
 Option.bind (α := KMem) (if p0 = 0 then
 (some M)
 else
 (Option.bind (some (kup M (u + 1) 14 ((M (u + 1) 14) + 1))) fun M5 =>
 some M5)) fun M1 =>
 some (p0, M1)
set_option maxHeartbeats 4000000 in
set_option maxRecDepth 100000 in
theorem b_Tw_counted {X : KX} {B : KB} {L : KLay} {M : KMem} {u : Nat} {p0 : Int32} (G : Good X B RX8 cX8_counted 2 rm_Tw_counted) (hu : okL L u twT) (h : kOk (m_Tw_counted u p0 M) (fun r => RI X B L 2 cX8_counted .int rm_Tw_counted r.1 r.2)) : KK X B L 2 0 0 M 0 [(0, .ref (B.1 + u)), (1, .int p0)] [] := by
  unfold m_Tw_counted at h
  refine k_iload_n G (dc d_Tw_counted 0 rfl) 1 rfl rfl ?_
  refine kJ h (fun r2 => KK X B L 2 0 0 r2 17 [(1, .int p0)] []) (fun r2 h => ?_) (fun h => ?_)
  · obtain ⟨M1, rfl⟩ : ∃ z, z = r2 := ⟨_, rfl⟩
    show KK X B L 2 0 0 M1 17 [(1, .int p0)] []
    refine k_iload_n G (dc d_Tw_counted 9 rfl) 0 rfl rfl ?_
    exact (kOk_s h) _ _ _ _ rfl rfl rfl (dc d_Tw_counted 10 rfl)
  · refine k_if_eq G (dc d_Tw_counted 1 rfl) (tgt := 17) rfl (fun c3 => ?_) (fun c3 => ?_)
    · replace h := kOk_p c3 h
      refine k_sub [1] rfl ?_
      have h9 := kOk_s h
      exact h9
    · replace h := kOk_n c3 h
      refine k_aload_n G (dc d_Tw_counted 2 rfl) 0 rfl rfl ?_
      refine k_getR G kc6 (dc d_Tw_counted 3 rfl) (okL_lt hu (o := 0) 0 rfl) (okL_k hu (o := 0) 0 rfl) 0 (by decide) rfl fl_RX8_12 (u + 1) (okL_r hu (o := 0) (c := 1) 0 rfl 0 rfl) ?_
      refine k_dup G (dc d_Tw_counted 4 rfl) rfl ?_
      refine k_getI G kc5 (dc d_Tw_counted 5 rfl) (okL_lt hu (o := 1) 1 rfl) (okL_k hu (o := 1) 1 rfl) 14 (by decide) rfl fl_RX8_129 ?_
      refine k_iconst G (dc d_Tw_counted 6 rfl) cI_1 ?_
      refine k_iadd G (dc d_Tw_counted 7 rfl) ?_
      obtain ⟨M5, e4, h⟩ := kOk_b h
      refine k_putI G kc5 (dc d_Tw_counted 8 rfl) (okL_lt hu (o := 1) 1 rfl) (okL_k hu (o := 1) 1 rfl) 14 (by decide) rfl rfl fl_RX8_129 rfl rfl e4 ?_
      refine k_sub [1] rfl ?_
      have h9 := kOk_s h
      exact h9
theorem c_Tw_counted {l : Launch} {B : KB} {L : KLay} {M : KMem} {u : Nat} {p0 : Int32} (hst : l.stackTraces = false) (hu : okL L u twT) {r : Int32} {M' : KMem} (e : m_Tw_counted u p0 M = some (r, M')) : CtrN l B yX8_counted cX8_counted 2 (some .int) rm_Tw_counted [.ref (B.1 + u), .int p0] L M (some (.int r)) L M' :=
  mk_I rfl hst rfl (fun X hl G _ R => b_Tw_counted G hu ⟨_, e, R⟩)
def I_Tw_charge : List (Nat × Instr × Nat) := [(0, .aload_n 0, 1), (1, .iload_n 2, 1), (2, .invokevirtual 40, 3), (5, .ifCond .eq 15, 3), (8, .aload_n 0, 1), (9, .getfield 12, 3), (12, .getfield 79, 3), (15, .iload_n 2, 1), (16, .iaload, 1), (17, .goto 4, 3), (20, .iconst (-1), 1), (21, .istore 4, 2), (23, .iload 4, 2), (25, .ifCond .lt 18, 3), (28, .iload 4, 2), (30, .aload_n 1, 1), (31, .arraylength, 1), (32, .if_icmp .ge 11, 3), (35, .aload_n 1, 1), (36, .iload 4, 2), (38, .dup2, 1), (39, .iaload, 1), (40, .iload_n 3, 1), (41, .iadd, 1), (42, .iastore, 1), (43, .return_, 1)]
set_option maxRecDepth 100000 in
theorem d_Tw_charge : decA cX8_charge I_Tw_charge = true := by decide +kernel
abbrev rm_Tw_charge : Room := ({ frames := 1, cells := 0, slots := 0, locals := 21 } : Room)
def m_Tw_charge (u : Nat) (p0 : Nat) (p0n : Nat) (p1 : Int32) (p2 : Int32) (M : KMem) : Option KMem :=
 Option.bind (m_Tw_hasSign u p1 M) fun x2 =>
 Option.bind (α := Int32) (if x2 = 0 then
 (some (-1))
 else
 (Option.bind (rdI M (u + 4) 8 p1) fun x15 =>
 some x15)) fun t3 =>
 Option.bind (α := KMem) (if t3 < 0 then
 (some M)
 else
 (if (Int32.ofNat p0n) ≤ t3 then
 (some M)
 else
 (Option.bind (rdI M p0 p0n t3) fun x10 =>
 Option.bind (wrI M p0 p0n t3 (x10 + p2)) fun M12 =>
 some M12))) fun M5 =>
 some M5
set_option maxHeartbeats 4000000 in
set_option maxRecDepth 100000 in
theorem b_Tw_charge {X : KX} {B : KB} {L : KLay} {M : KMem} {u : Nat} {p0 : Nat} {p0n : Nat} {p1 : Int32} {p2 : Int32} (G : Good X B RX8 cX8_charge 5 rm_Tw_charge) (hu : okL L u twT) (hp0 : arL L p0 9 p0n) (h : kOk (m_Tw_charge u p0 p0n p1 p2 M) (fun r => RV X B L 5 cX8_charge rm_Tw_charge r)) : KK X B L 5 0 0 M 0 [(0, .ref (B.1 + u)), (1, .ref (B.1 + p0)), (2, .int p1), (3, .int p2)] [] := by
  unfold m_Tw_charge at h
  refine k_aload_n G (dc d_Tw_charge 0 rfl) 0 rfl rfl ?_
  refine k_iload_n G (dc d_Tw_charge 1 rfl) 2 rfl rfl ?_
  obtain ⟨x2, e1, h⟩ := kOk_b h
  refine k_cVI G (dc d_Tw_charge 2 rfl) kc6 (okL_lt hu (o := 0) 0 rfl) (okL_k hu (o := 0) 0 rfl) mi_Tw_hasSign mv_Tw_hasSign rfl ml_RX8_40 (c_Tw_hasSign (gst G) hu e1) rfl rfl ⟨rfl, rfl⟩ rfl ⟨rfl, rfl⟩ ⟨rfl, rfl⟩ ?_
  refine kJ h (fun r4 => KK X B L 5 0 0 M 21 [(1, .ref (B.1 + p0)), (3, .int p2)] [.int r4]) (fun r4 h => ?_) (fun h => ?_)
  · obtain ⟨t3, rfl⟩ : ∃ z, z = r4 := ⟨_, rfl⟩
    show KK X B L 5 0 0 M 21 [(1, .ref (B.1 + p0)), (3, .int p2)] [.int t3]
    refine k_istore G (dc d_Tw_charge 11 rfl) (ls' := [(4, .int t3), (1, .ref (B.1 + p0)), (3, .int p2)]) rfl rfl ?_
    refine k_iload G (dc d_Tw_charge 12 rfl) 0 rfl ?_
    refine kJ h (fun r6 => KK X B L 5 0 0 r6 43 [] []) (fun r6 h => ?_) (fun h => ?_)
    · obtain ⟨M5, rfl⟩ : ∃ z, z = r6 := ⟨_, rfl⟩
      show KK X B L 5 0 0 M5 43 [] []
      exact (kOk_s h) _ _ _ _ rfl rfl (dc d_Tw_charge 25 rfl)
    · refine k_if_lt G (dc d_Tw_charge 13 rfl) (tgt := 43) rfl (fun c7 => ?_) (fun c7 => ?_)
      · replace h := kOk_p c7 h
        refine k_sub [] rfl ?_
        have h9 := kOk_s h
        exact h9
      · replace h := kOk_n c7 h
        refine k_iload G (dc d_Tw_charge 14 rfl) 0 rfl ?_
        refine k_aload_n G (dc d_Tw_charge 15 rfl) 1 rfl rfl ?_
        refine k_len G (dc d_Tw_charge 16 rfl) hp0.1 hp0.2.1 (v := Int32.ofNat p0n) (by rw [hp0.2.2]) ?_
        refine k_icmp_ge G (dc d_Tw_charge 17 rfl) (tgt := 43) rfl (fun c8 => ?_) (fun c8 => ?_)
        · replace h := kOk_p c8 h
          refine k_sub [] rfl ?_
          have h9 := kOk_s h
          exact h9
        · replace h := kOk_n c8 h
          refine k_aload_n G (dc d_Tw_charge 18 rfl) 1 rfl rfl ?_
          refine k_iload G (dc d_Tw_charge 19 rfl) 0 rfl ?_
          refine k_dup2 G (dc d_Tw_charge 20 rfl) rfl rfl ?_
          obtain ⟨x10, e9, h⟩ := kOk_b h
          refine k_ild G (dc d_Tw_charge 21 rfl) hp0.1 hp0.2.1 hp0.2.2 e9 ?_
          refine k_iload_n G (dc d_Tw_charge 22 rfl) 2 rfl rfl ?_
          refine k_iadd G (dc d_Tw_charge 23 rfl) ?_
          obtain ⟨M12, e11, h⟩ := kOk_b h
          refine k_ist G (dc d_Tw_charge 24 rfl) hp0.1 hp0.2.1 hp0.2.2 e11 ?_
          refine k_sub [] rfl ?_
          have h9 := kOk_s h
          exact h9
  · refine k_if_eq G (dc d_Tw_charge 3 rfl) (tgt := 20) rfl (fun c13 => ?_) (fun c13 => ?_)
    · replace h := kOk_p c13 h
      refine k_iconst G (dc d_Tw_charge 10 rfl) cI_m1 ?_
      refine k_sub [1, 3] rfl ?_
      have h9 := kOk_s h
      exact h9
    · replace h := kOk_n c13 h
      refine k_aload_n G (dc d_Tw_charge 4 rfl) 0 rfl rfl ?_
      refine k_getR G kc6 (dc d_Tw_charge 5 rfl) (okL_lt hu (o := 0) 0 rfl) (okL_k hu (o := 0) 0 rfl) 0 (by decide) rfl fl_RX8_12 (u + 1) (okL_r hu (o := 0) (c := 1) 0 rfl 0 rfl) ?_
      refine k_getR G kc5 (dc d_Tw_charge 6 rfl) (okL_lt hu (o := 1) 1 rfl) (okL_k hu (o := 1) 1 rfl) 2 (by decide) rfl fl_RX8_79 (u + 4) (okL_r hu (o := 1) (c := 4) 1 rfl 1 rfl) ?_
      refine k_iload_n G (dc d_Tw_charge 7 rfl) 2 rfl rfl ?_
      obtain ⟨x15, e14, h⟩ := kOk_b h
      refine k_ild G (dc d_Tw_charge 8 rfl) (okL_lt hu (o := 4) 4 rfl) (okL_k hu (o := 4) 4 rfl) (okL_n hu (o := 4) 4 rfl) e14 ?_
      refine k_goto G (dc d_Tw_charge 9 rfl) (tgt := 21) rfl ?_
      refine k_sub [1, 3] rfl ?_
      have h9 := kOk_s h
      exact h9
theorem c_Tw_charge {l : Launch} {B : KB} {L : KLay} {M : KMem} {u : Nat} {p0 : Nat} {p0n : Nat} {p1 : Int32} {p2 : Int32} (hst : l.stackTraces = false) (hu : okL L u twT) (hp0 : arL L p0 9 p0n) {M' : KMem} (e : m_Tw_charge u p0 p0n p1 p2 M = some M') : CtrN l B yX8_charge cX8_charge 5 none rm_Tw_charge [.ref (B.1 + u), .ref (B.1 + p0), .int p1, .int p2] L M none L M' :=
  mk_V rfl hst rfl (fun X hl G _ R => b_Tw_charge G hu hp0 ⟨_, e, R⟩)
def I_Tw_repaint : List (Nat × Instr × Nat) := [(0, .aload_n 0, 1), (1, .iload_n 1, 1), (2, .invokevirtual 40, 3), (5, .ifCond .ne 5, 3), (8, .iconst (-1), 1), (9, .ireturn, 1), (10, .aload_n 0, 1), (11, .iload_n 1, 1), (12, .invokevirtual 132, 3), (15, .istore_n 2, 1), (16, .aload_n 0, 1), (17, .aload_n 0, 1), (18, .getfield 12, 3), (21, .getfield 135, 3), (24, .iload_n 1, 1), (25, .iload_n 2, 1), (26, .invokevirtual 138, 3), (29, .aload_n 0, 1), (30, .getfield 12, 3), (33, .getfield 44, 3), (36, .iload_n 1, 1), (37, .aload_n 0, 1), (38, .getfield 12, 3), (41, .getfield 47, 3), (44, .iload_n 1, 1), (45, .iaload, 1), (46, .iastore, 1), (47, .aload_n 0, 1), (48, .getfield 12, 3), (51, .getfield 82, 3), (54, .iload_n 1, 1), (55, .dup2, 1), (56, .iaload, 1), (57, .iconst 1, 1), (58, .iadd, 1), (59, .iastore, 1), (60, .iload_n 2, 1), (61, .ireturn, 1)]
set_option maxRecDepth 100000 in
theorem d_Tw_repaint : decA cX8_repaint I_Tw_repaint = true := by decide +kernel
abbrev rm_Tw_repaint : Room := ({ frames := 5, cells := 0, slots := 0, locals := 115 } : Room)
def m_Tw_repaint (u : Nat) (p0 : Int32) (M : KMem) : Option (Int32 × KMem) :=
 Option.bind (m_Tw_hasSign u p0 M) fun x2 =>
 if x2 = 0 then
 (some ((-1), M))
 else
 (Option.bind (m_Tw_costOf u p0 M) fun (x5, M6) =>
 Option.bind (m_Tw_charge u (u + 11) 4 p0 x5 M6) fun M8 =>
 Option.bind (rdI M8 (u + 7) 8 p0) fun x10 =>
 Option.bind (wrI M8 (u + 6) 8 p0 x10) fun M12 =>
 Option.bind (rdI M12 (u + 8) 8 p0) fun x14 =>
 Option.bind (wrI M12 (u + 8) 8 p0 (x14 + 1)) fun M16 =>
 some (x5, M16))
set_option maxHeartbeats 4000000 in
set_option maxRecDepth 100000 in
theorem b_Tw_repaint {X : KX} {B : KB} {L : KLay} {M : KMem} {u : Nat} {p0 : Int32} (G : Good X B RX8 cX8_repaint 3 rm_Tw_repaint) (hu : okL L u twT) (h : kOk (m_Tw_repaint u p0 M) (fun r => RI X B L 3 cX8_repaint .int rm_Tw_repaint r.1 r.2)) : KK X B L 3 0 0 M 0 [(0, .ref (B.1 + u)), (1, .int p0)] [] := by
  unfold m_Tw_repaint at h
  refine k_aload_n G (dc d_Tw_repaint 0 rfl) 0 rfl rfl ?_
  refine k_iload_n G (dc d_Tw_repaint 1 rfl) 1 rfl rfl ?_
  obtain ⟨x2, e1, h⟩ := kOk_b h
  refine k_cVI G (dc d_Tw_repaint 2 rfl) kc6 (okL_lt hu (o := 0) 0 rfl) (okL_k hu (o := 0) 0 rfl) mi_Tw_hasSign mv_Tw_hasSign rfl ml_RX8_40 (c_Tw_hasSign (gst G) hu e1) rfl rfl ⟨rfl, rfl⟩ rfl ⟨rfl, rfl⟩ ⟨rfl, rfl⟩ ?_
  refine k_if_ne G (dc d_Tw_repaint 3 rfl) (tgt := 10) rfl (fun c3 => ?_) (fun c3 => ?_)
  · replace h := kOk_n c3 h
    refine k_aload_n G (dc d_Tw_repaint 6 rfl) 0 rfl rfl ?_
    refine k_iload_n G (dc d_Tw_repaint 7 rfl) 1 rfl rfl ?_
    obtain ⟨⟨x5, M6⟩, e4, h⟩ := kOk_b h
    refine k_cVI G (dc d_Tw_repaint 8 rfl) kc6 (okL_lt hu (o := 0) 0 rfl) (okL_k hu (o := 0) 0 rfl) mi_Tw_costOf mv_Tw_costOf rfl ml_RX8_132 (c_Tw_costOf (gst G) hu e4) rfl rfl ⟨rfl, rfl⟩ rfl ⟨rfl, rfl⟩ ⟨rfl, rfl⟩ ?_
    refine k_istore_n G (dc d_Tw_repaint 9 rfl) (ls' := [(2, .int x5), (0, .ref (B.1 + u)), (1, .int p0)]) rfl rfl rfl ?_
    refine k_aload_n G (dc d_Tw_repaint 10 rfl) 1 rfl rfl ?_
    refine k_aload_n G (dc d_Tw_repaint 11 rfl) 1 rfl rfl ?_
    refine k_getR G kc6 (dc d_Tw_repaint 12 rfl) (okL_lt hu (o := 0) 0 rfl) (okL_k hu (o := 0) 0 rfl) 0 (by decide) rfl fl_RX8_12 (u + 1) (okL_r hu (o := 0) (c := 1) 0 rfl 0 rfl) ?_
    refine k_getR G kc5 (dc d_Tw_repaint 13 rfl) (okL_lt hu (o := 1) 1 rfl) (okL_k hu (o := 1) 1 rfl) 9 (by decide) rfl fl_RX8_135 (u + 11) (okL_r hu (o := 1) (c := 11) 1 rfl 8 rfl) ?_
    refine k_iload_n G (dc d_Tw_repaint 14 rfl) 2 rfl rfl ?_
    refine k_iload_n G (dc d_Tw_repaint 15 rfl) 0 rfl rfl ?_
    obtain ⟨M8, e7, h⟩ := kOk_b h
    refine k_cVV G (dc d_Tw_repaint 16 rfl) kc6 (okL_lt hu (o := 0) 0 rfl) (okL_k hu (o := 0) 0 rfl) mi_Tw_charge mv_Tw_charge rfl ml_RX8_138 (c_Tw_charge (gst G) hu (okL_a hu (o := 11) 11 rfl) e7) rfl rfl ⟨rfl, rfl⟩ rfl ⟨rfl, rfl⟩ ⟨rfl, rfl⟩ ?_
    refine k_aload_n G (dc d_Tw_repaint 17 rfl) 1 rfl rfl ?_
    refine k_getR G kc6 (dc d_Tw_repaint 18 rfl) (okL_lt hu (o := 0) 0 rfl) (okL_k hu (o := 0) 0 rfl) 0 (by decide) rfl fl_RX8_12 (u + 1) (okL_r hu (o := 0) (c := 1) 0 rfl 0 rfl) ?_
    refine k_getR G kc5 (dc d_Tw_repaint 19 rfl) (okL_lt hu (o := 1) 1 rfl) (okL_k hu (o := 1) 1 rfl) 4 (by decide) rfl fl_RX8_44 (u + 6) (okL_r hu (o := 1) (c := 6) 1 rfl 3 rfl) ?_
    refine k_iload_n G (dc d_Tw_repaint 20 rfl) 2 rfl rfl ?_
    refine k_aload_n G (dc d_Tw_repaint 21 rfl) 1 rfl rfl ?_
    refine k_getR G kc6 (dc d_Tw_repaint 22 rfl) (okL_lt hu (o := 0) 0 rfl) (okL_k hu (o := 0) 0 rfl) 0 (by decide) rfl fl_RX8_12 (u + 1) (okL_r hu (o := 0) (c := 1) 0 rfl 0 rfl) ?_
    refine k_getR G kc5 (dc d_Tw_repaint 23 rfl) (okL_lt hu (o := 1) 1 rfl) (okL_k hu (o := 1) 1 rfl) 5 (by decide) rfl fl_RX8_47 (u + 7) (okL_r hu (o := 1) (c := 7) 1 rfl 4 rfl) ?_
    refine k_iload_n G (dc d_Tw_repaint 24 rfl) 2 rfl rfl ?_
    obtain ⟨x10, e9, h⟩ := kOk_b h
    refine k_ild G (dc d_Tw_repaint 25 rfl) (okL_lt hu (o := 7) 7 rfl) (okL_k hu (o := 7) 7 rfl) (okL_n hu (o := 7) 7 rfl) e9 ?_
    obtain ⟨M12, e11, h⟩ := kOk_b h
    refine k_ist G (dc d_Tw_repaint 26 rfl) (okL_lt hu (o := 6) 6 rfl) (okL_k hu (o := 6) 6 rfl) (okL_n hu (o := 6) 6 rfl) e11 ?_
    refine k_aload_n G (dc d_Tw_repaint 27 rfl) 1 rfl rfl ?_
    refine k_getR G kc6 (dc d_Tw_repaint 28 rfl) (okL_lt hu (o := 0) 0 rfl) (okL_k hu (o := 0) 0 rfl) 0 (by decide) rfl fl_RX8_12 (u + 1) (okL_r hu (o := 0) (c := 1) 0 rfl 0 rfl) ?_
    refine k_getR G kc5 (dc d_Tw_repaint 29 rfl) (okL_lt hu (o := 1) 1 rfl) (okL_k hu (o := 1) 1 rfl) 6 (by decide) rfl fl_RX8_82 (u + 8) (okL_r hu (o := 1) (c := 8) 1 rfl 5 rfl) ?_
    refine k_iload_n G (dc d_Tw_repaint 30 rfl) 2 rfl rfl ?_
    refine k_dup2 G (dc d_Tw_repaint 31 rfl) rfl rfl ?_
    obtain ⟨x14, e13, h⟩ := kOk_b h
    refine k_ild G (dc d_Tw_repaint 32 rfl) (okL_lt hu (o := 8) 8 rfl) (okL_k hu (o := 8) 8 rfl) (okL_n hu (o := 8) 8 rfl) e13 ?_
    refine k_iconst G (dc d_Tw_repaint 33 rfl) cI_1 ?_
    refine k_iadd G (dc d_Tw_repaint 34 rfl) ?_
    obtain ⟨M16, e15, h⟩ := kOk_b h
    refine k_ist G (dc d_Tw_repaint 35 rfl) (okL_lt hu (o := 8) 8 rfl) (okL_k hu (o := 8) 8 rfl) (okL_n hu (o := 8) 8 rfl) e15 ?_
    refine k_iload_n G (dc d_Tw_repaint 36 rfl) 0 rfl rfl ?_
    exact (kOk_s h) _ _ _ _ rfl rfl rfl (dc d_Tw_repaint 37 rfl)
  · replace h := kOk_p c3 h
    refine k_iconst G (dc d_Tw_repaint 4 rfl) cI_m1 ?_
    exact (kOk_s h) _ _ _ _ rfl rfl rfl (dc d_Tw_repaint 5 rfl)
theorem c_Tw_repaint {l : Launch} {B : KB} {L : KLay} {M : KMem} {u : Nat} {p0 : Int32} (hst : l.stackTraces = false) (hu : okL L u twT) {r : Int32} {M' : KMem} (e : m_Tw_repaint u p0 M = some (r, M')) : CtrN l B yX8_repaint cX8_repaint 3 (some .int) rm_Tw_repaint [.ref (B.1 + u), .int p0] L M (some (.int r)) L M' :=
  mk_I rfl hst rfl (fun X hl G _ R => b_Tw_repaint G hu ⟨_, e, R⟩)
def I_Tw_sum : List (Nat × Instr × Nat) := [(0, .iconst 0, 1), (1, .istore_n 1, 1), (2, .aload_n 0, 1), (3, .astore_n 2, 1), (4, .aload_n 2, 1), (5, .arraylength, 1), (6, .istore_n 3, 1), (7, .iconst 0, 1), (8, .istore 4, 2), (10, .iload 4, 2), (12, .iload_n 3, 1), (13, .if_icmp .ge 20, 3), (16, .aload_n 2, 1), (17, .iload 4, 2), (19, .iaload, 1), (20, .istore 5, 2), (22, .iload_n 1, 1), (23, .iload 5, 2), (25, .iadd, 1), (26, .istore_n 1, 1), (27, .iinc 4 1, 3), (30, .goto (-20), 3), (33, .iload_n 1, 1), (34, .ireturn, 1)]
set_option maxRecDepth 100000 in
theorem d_Tw_sum : decA cX8_sum I_Tw_sum = true := by decide +kernel
abbrev rm_Tw_sum : Room := ({ frames := 0, cells := 0, slots := 0, locals := 0 } : Room)
def m_Tw_sum_l10 (p0 : Nat) (p0n : Nat) (M : KMem) : (Int32 × Int32) → Option ((Int32 × Int32) ⊕ Int32) := fun (v1_1, v4_2) =>
 if (Int32.ofNat p0n) ≤ v4_2 then
 (some (.inr v1_1))
 else
 (Option.bind (rdI M p0 p0n v4_2) fun x5 =>
 some (.inl (v1_1 + x5, v4_2 + 1)))
def m_Tw_sum (p0 : Nat) (p0n : Nat) (M : KMem) : Option Int32 :=
 Option.bind (α := Int32) (kLp (m_Tw_sum_l10 p0 p0n M) kFU (0, 0)) fun v1_6 =>
 some v1_6
set_option maxHeartbeats 4000000 in
set_option maxRecDepth 100000 in
theorem b_Tw_sum {X : KX} {B : KB} {L : KLay} {M : KMem} {p0 : Nat} {p0n : Nat} (G : Good X B RX8 cX8_sum 6 rm_Tw_sum) (hp0 : arL L p0 9 p0n) (h : kOk (m_Tw_sum p0 p0n M) (fun r => RI X B L 6 cX8_sum .int rm_Tw_sum r M)) : KK X B L 6 0 0 M 0 [(0, .ref (B.1 + p0))] [] := by
  unfold m_Tw_sum at h
  refine k_iconst G (dc d_Tw_sum 0 rfl) cI_0 ?_
  refine k_istore_n G (dc d_Tw_sum 1 rfl) (ls' := [(1, .int 0), (0, .ref (B.1 + p0))]) rfl rfl rfl ?_
  refine k_aload_n G (dc d_Tw_sum 2 rfl) 1 rfl rfl ?_
  refine k_astore_n G (dc d_Tw_sum 3 rfl) (ls' := [(2, .ref (B.1 + p0)), (1, .int 0), (0, .ref (B.1 + p0))]) rfl rfl rfl ?_
  refine k_aload_n G (dc d_Tw_sum 4 rfl) 0 rfl rfl ?_
  refine k_len G (dc d_Tw_sum 5 rfl) hp0.1 hp0.2.1 (v := Int32.ofNat p0n) (by rw [hp0.2.2]) ?_
  refine k_istore_n G (dc d_Tw_sum 6 rfl) (ls' := [(3, .int (Int32.ofNat p0n)), (2, .ref (B.1 + p0)), (1, .int 0), (0, .ref (B.1 + p0))]) rfl rfl rfl ?_
  refine k_iconst G (dc d_Tw_sum 7 rfl) cI_0 ?_
  refine k_istore G (dc d_Tw_sum 8 rfl) (ls' := [(4, .int 0), (3, .int (Int32.ofNat p0n)), (2, .ref (B.1 + p0)), (1, .int 0), (0, .ref (B.1 + p0))]) rfl rfl ?_
  refine kJ h (fun r7 => KK X B L 6 0 0 M 33 [(1, .int r7)] []) (fun r7 h => ?_) (fun h => ?_)
  · obtain ⟨v1_6, rfl⟩ : ∃ z, z = r7 := ⟨_, rfl⟩
    show KK X B L 6 0 0 M 33 [(1, .int v1_6)] []
    refine k_iload_n G (dc d_Tw_sum 22 rfl) 0 rfl rfl ?_
    exact (kOk_s h) _ _ _ _ rfl rfl rfl (dc d_Tw_sum 23 rfl)
  · refine k_sub [3, 2, 1, 0] rfl ?_
    refine kLp_ok (P := fun s8 => KK X B L 6 0 0 M 10 [(1, .int s8.1), (2, .ref (B.1 + p0)), (3, .int (Int32.ofNat p0n)), (4, .int s8.2)] []) (fun s8 h => ?_) kFU _ h
    obtain ⟨v1_1, v4_2⟩ := s8
    unfold m_Tw_sum_l10 at h
    show KK X B L 6 0 0 M 10 [(1, .int v1_1), (2, .ref (B.1 + p0)), (3, .int (Int32.ofNat p0n)), (4, .int v4_2)] []
    refine k_iload G (dc d_Tw_sum 9 rfl) 3 rfl ?_
    refine k_iload_n G (dc d_Tw_sum 10 rfl) 2 rfl rfl ?_
    refine k_icmp_ge G (dc d_Tw_sum 11 rfl) (tgt := 33) rfl (fun c3 => ?_) (fun c3 => ?_)
    · replace h := kOk_p c3 h
      refine k_sub [0] rfl ?_
      have h9 := kOk_s h
      exact h9
    · replace h := kOk_n c3 h
      refine k_aload_n G (dc d_Tw_sum 12 rfl) 1 rfl rfl ?_
      refine k_iload G (dc d_Tw_sum 13 rfl) 3 rfl ?_
      obtain ⟨x5, e4, h⟩ := kOk_b h
      refine k_ild G (dc d_Tw_sum 14 rfl) hp0.1 hp0.2.1 hp0.2.2 e4 ?_
      refine k_istore G (dc d_Tw_sum 15 rfl) (ls' := [(5, .int x5), (1, .int v1_1), (2, .ref (B.1 + p0)), (3, .int (Int32.ofNat p0n)), (4, .int v4_2)]) rfl rfl ?_
      refine k_iload_n G (dc d_Tw_sum 16 rfl) 1 rfl rfl ?_
      refine k_iload G (dc d_Tw_sum 17 rfl) 0 rfl ?_
      refine k_iadd G (dc d_Tw_sum 18 rfl) ?_
      refine k_istore_n G (dc d_Tw_sum 19 rfl) (ls' := [(1, .int (v1_1 + x5)), (5, .int x5), (2, .ref (B.1 + p0)), (3, .int (Int32.ofNat p0n)), (4, .int v4_2)]) rfl rfl rfl ?_
      refine k_iinc G (dc d_Tw_sum 20 rfl) (ls' := [(4, .int (v4_2 + 1)), (1, .int (v1_1 + x5)), (5, .int x5), (2, .ref (B.1 + p0)), (3, .int (Int32.ofNat p0n))]) 4 rfl cI_1 rfl rfl ?_
      refine k_goto G (dc d_Tw_sum 21 rfl) (tgt := 10) rfl ?_
      refine k_sub [1, 3, 4, 0] rfl ?_
      have h9 := kOk_s h
      exact h9
theorem c_Tw_sum {l : Launch} {B : KB} {L : KLay} {M : KMem} {p0 : Nat} {p0n : Nat} (hst : l.stackTraces = false) (hp0 : arL L p0 9 p0n) {r : Int32} (e : m_Tw_sum p0 p0n M = some r) : CtrN l B yX8_sum cX8_sum 6 (some .int) rm_Tw_sum [.ref (B.1 + p0)] L M (some (.int r)) L M :=
  mk_I rfl hst rfl (fun X hl G _ R => b_Tw_sum G hp0 ⟨_, e, R⟩)
def I_Tw_allFines : List (Nat × Instr × Nat) := [(0, .aload_n 0, 1), (1, .getfield 12, 3), (4, .getfield 154, 3), (7, .invokestatic 166, 3), (10, .ireturn, 1)]
set_option maxRecDepth 100000 in
theorem d_Tw_allFines : decA cX8_allFines I_Tw_allFines = true := by decide +kernel
abbrev rm_Tw_allFines : Room := ({ frames := 1, cells := 0, slots := 0, locals := 25 } : Room)
def m_Tw_allFines (u : Nat) (M : KMem) : Option Int32 :=
 Option.bind (m_Tw_sum (u + 10) 4 M) fun x2 =>
 some x2
set_option maxHeartbeats 4000000 in
set_option maxRecDepth 100000 in
theorem b_Tw_allFines {X : KX} {B : KB} {L : KLay} {M : KMem} {u : Nat} (G : Good X B RX8 cX8_allFines 1 rm_Tw_allFines) (hu : okL L u twT) (h : kOk (m_Tw_allFines u M) (fun r => RI X B L 1 cX8_allFines .int rm_Tw_allFines r M)) : KK X B L 1 0 0 M 0 [(0, .ref (B.1 + u))] [] := by
  unfold m_Tw_allFines at h
  refine k_aload_n G (dc d_Tw_allFines 0 rfl) 0 rfl rfl ?_
  refine k_getR G kc6 (dc d_Tw_allFines 1 rfl) (okL_lt hu (o := 0) 0 rfl) (okL_k hu (o := 0) 0 rfl) 0 (by decide) rfl fl_RX8_12 (u + 1) (okL_r hu (o := 0) (c := 1) 0 rfl 0 rfl) ?_
  refine k_getR G kc5 (dc d_Tw_allFines 2 rfl) (okL_lt hu (o := 1) 1 rfl) (okL_k hu (o := 1) 1 rfl) 8 (by decide) rfl fl_RX8_154 (u + 10) (okL_r hu (o := 1) (c := 10) 1 rfl 7 rfl) ?_
  obtain ⟨x2, e1, h⟩ := kOk_b h
  refine k_cSI G (dc d_Tw_allFines 3 rfl) mi_Tw_sum ms_Tw_sum ml_RX8_166 (c_Tw_sum (gst G) (okL_a hu (o := 10) 10 rfl) e1) rfl rfl ⟨rfl, rfl⟩ rfl ⟨rfl, rfl⟩ ⟨rfl, rfl⟩ ?_
  exact (kOk_s h) _ _ _ _ rfl rfl rfl (dc d_Tw_allFines 4 rfl)
theorem c_Tw_allFines {l : Launch} {B : KB} {L : KLay} {M : KMem} {u : Nat} (hst : l.stackTraces = false) (hu : okL L u twT) {r : Int32} (e : m_Tw_allFines u M = some r) : CtrN l B yX8_allFines cX8_allFines 1 (some .int) rm_Tw_allFines [.ref (B.1 + u)] L M (some (.int r)) L M :=
  mk_I rfl hst rfl (fun X hl G _ R => b_Tw_allFines G hu ⟨_, e, R⟩)
def I_Tw_fineWrongSigns : List (Nat × Instr × Nat) := [(0, .aload_n 0, 1), (1, .getfield 12, 3), (4, .getfield 58, 3), (7, .iconst 1, 1), (8, .iaload, 1), (9, .istore_n 1, 1), (10, .iconst 0, 1), (11, .istore_n 2, 1), (12, .iload_n 2, 1), (13, .bipush 8, 2), (15, .if_icmp .ge 51, 3), (18, .aload_n 0, 1), (19, .iload_n 2, 1), (20, .invokevirtual 40, 3), (23, .ifCond .eq 43, 3), (26, .aload_n 0, 1), (27, .iload_n 2, 1), (28, .invokevirtual 151, 3), (31, .ifCond .eq 29, 3), (34, .aload_n 0, 1), (35, .getfield 12, 3), (38, .getfield 85, 3), (41, .iload_n 2, 1), (42, .dup2, 1), (43, .iaload, 1), (44, .iload_n 1, 1), (45, .iadd, 1), (46, .iastore, 1), (47, .aload_n 0, 1), (48, .aload_n 0, 1), (49, .getfield 12, 3), (52, .getfield 154, 3), (55, .iload_n 2, 1), (56, .iload_n 1, 1), (57, .invokevirtual 138, 3), (60, .iinc 2 1, 3), (63, .goto (-51), 3), (66, .return_, 1)]
set_option maxRecDepth 100000 in
theorem d_Tw_fineWrongSigns : decA cX8_fineWrongSigns I_Tw_fineWrongSigns = true := by decide +kernel
abbrev rm_Tw_fineWrongSigns : Room := ({ frames := 2, cells := 0, slots := 0, locals := 45 } : Room)
def m_Tw_fineWrongSigns_l12 (u : Nat) (x2 : Int32) : (Int32 × KMem) → Option ((Int32 × KMem) ⊕ KMem) := fun (v2_3, M4) =>
 if 8 ≤ v2_3 then
 (some (.inr M4))
 else
 (Option.bind (m_Tw_hasSign u v2_3 M4) fun x7 =>
 if x7 = 0 then
 (some (.inr M4))
 else
 (Option.bind (m_Tw_isWrong u v2_3 M4) fun x10 =>
 Option.bind (α := KMem) (if x10 = 0 then
 (some M4)
 else
 (Option.bind (rdI M4 (u + 9) 8 v2_3) fun x15 =>
 Option.bind (wrI M4 (u + 9) 8 v2_3 (x15 + x2)) fun M17 =>
 Option.bind (m_Tw_charge u (u + 10) 4 v2_3 x2 M17) fun M19 =>
 some M19)) fun M11 =>
 some (.inl (v2_3 + 1, M11))))
def m_Tw_fineWrongSigns (u : Nat) (M : KMem) : Option KMem :=
 Option.bind (rdI M (u + 12) 2 1) fun x2 =>
 Option.bind (α := KMem) (kLp (m_Tw_fineWrongSigns_l12 u x2) kFU (0, M)) fun M20 =>
 some M20
set_option maxHeartbeats 4000000 in
set_option maxRecDepth 100000 in
theorem b_Tw_fineWrongSigns {X : KX} {B : KB} {L : KLay} {M : KMem} {u : Nat} (G : Good X B RX8 cX8_fineWrongSigns 3 rm_Tw_fineWrongSigns) (hu : okL L u twT) (h : kOk (m_Tw_fineWrongSigns u M) (fun r => RV X B L 3 cX8_fineWrongSigns rm_Tw_fineWrongSigns r)) : KK X B L 3 0 0 M 0 [(0, .ref (B.1 + u))] [] := by
  unfold m_Tw_fineWrongSigns at h
  refine k_aload_n G (dc d_Tw_fineWrongSigns 0 rfl) 0 rfl rfl ?_
  refine k_getR G kc6 (dc d_Tw_fineWrongSigns 1 rfl) (okL_lt hu (o := 0) 0 rfl) (okL_k hu (o := 0) 0 rfl) 0 (by decide) rfl fl_RX8_12 (u + 1) (okL_r hu (o := 0) (c := 1) 0 rfl 0 rfl) ?_
  refine k_getR G kc5 (dc d_Tw_fineWrongSigns 2 rfl) (okL_lt hu (o := 1) 1 rfl) (okL_k hu (o := 1) 1 rfl) 10 (by decide) rfl fl_RX8_58 (u + 12) (okL_r hu (o := 1) (c := 12) 1 rfl 9 rfl) ?_
  refine k_iconst G (dc d_Tw_fineWrongSigns 3 rfl) cI_1 ?_
  obtain ⟨x2, e1, h⟩ := kOk_b h
  refine k_ild G (dc d_Tw_fineWrongSigns 4 rfl) (okL_lt hu (o := 12) 12 rfl) (okL_k hu (o := 12) 12 rfl) (okL_n hu (o := 12) 12 rfl) e1 ?_
  refine k_istore_n G (dc d_Tw_fineWrongSigns 5 rfl) (ls' := [(1, .int x2), (0, .ref (B.1 + u))]) rfl rfl rfl ?_
  refine k_iconst G (dc d_Tw_fineWrongSigns 6 rfl) cI_0 ?_
  refine k_istore_n G (dc d_Tw_fineWrongSigns 7 rfl) (ls' := [(2, .int 0), (1, .int x2), (0, .ref (B.1 + u))]) rfl rfl rfl ?_
  refine kJ h (fun r21 => KK X B L 3 0 0 r21 66 [] []) (fun r21 h => ?_) (fun h => ?_)
  · obtain ⟨M20, rfl⟩ : ∃ z, z = r21 := ⟨_, rfl⟩
    show KK X B L 3 0 0 M20 66 [] []
    exact (kOk_s h) _ _ _ _ rfl rfl (dc d_Tw_fineWrongSigns 37 rfl)
  · refine k_sub [2, 1, 0] rfl ?_
    refine kLp_ok (P := fun s22 => KK X B L 3 0 0 s22.2 12 [(0, .ref (B.1 + u)), (1, .int x2), (2, .int s22.1)] []) (fun s22 h => ?_) kFU _ h
    obtain ⟨v2_3, M4⟩ := s22
    unfold m_Tw_fineWrongSigns_l12 at h
    show KK X B L 3 0 0 M4 12 [(0, .ref (B.1 + u)), (1, .int x2), (2, .int v2_3)] []
    refine k_iload_n G (dc d_Tw_fineWrongSigns 8 rfl) 2 rfl rfl ?_
    refine k_bipush G (dc d_Tw_fineWrongSigns 9 rfl) cB_8 ?_
    refine k_icmp_ge G (dc d_Tw_fineWrongSigns 10 rfl) (tgt := 66) rfl (fun c5 => ?_) (fun c5 => ?_)
    · replace h := kOk_p c5 h
      refine k_sub [] rfl ?_
      have h9 := kOk_s h
      exact h9
    · replace h := kOk_n c5 h
      refine k_aload_n G (dc d_Tw_fineWrongSigns 11 rfl) 0 rfl rfl ?_
      refine k_iload_n G (dc d_Tw_fineWrongSigns 12 rfl) 2 rfl rfl ?_
      obtain ⟨x7, e6, h⟩ := kOk_b h
      refine k_cVI G (dc d_Tw_fineWrongSigns 13 rfl) kc6 (okL_lt hu (o := 0) 0 rfl) (okL_k hu (o := 0) 0 rfl) mi_Tw_hasSign mv_Tw_hasSign rfl ml_RX8_40 (c_Tw_hasSign (gst G) hu e6) rfl rfl ⟨rfl, rfl⟩ rfl ⟨rfl, rfl⟩ ⟨rfl, rfl⟩ ?_
      refine k_if_eq G (dc d_Tw_fineWrongSigns 14 rfl) (tgt := 66) rfl (fun c8 => ?_) (fun c8 => ?_)
      · replace h := kOk_p c8 h
        refine k_sub [] rfl ?_
        have h9 := kOk_s h
        exact h9
      · replace h := kOk_n c8 h
        refine k_aload_n G (dc d_Tw_fineWrongSigns 15 rfl) 0 rfl rfl ?_
        refine k_iload_n G (dc d_Tw_fineWrongSigns 16 rfl) 2 rfl rfl ?_
        obtain ⟨x10, e9, h⟩ := kOk_b h
        refine k_cVI G (dc d_Tw_fineWrongSigns 17 rfl) kc6 (okL_lt hu (o := 0) 0 rfl) (okL_k hu (o := 0) 0 rfl) mi_Tw_isWrong mv_Tw_isWrong rfl ml_RX8_151 (c_Tw_isWrong (gst G) hu e9) rfl rfl ⟨rfl, rfl⟩ rfl ⟨rfl, rfl⟩ ⟨rfl, rfl⟩ ?_
        refine kJ h (fun r12 => KK X B L 3 0 0 r12 60 [(0, .ref (B.1 + u)), (1, .int x2), (2, .int v2_3)] []) (fun r12 h => ?_) (fun h => ?_)
        · obtain ⟨M11, rfl⟩ : ∃ z, z = r12 := ⟨_, rfl⟩
          show KK X B L 3 0 0 M11 60 [(0, .ref (B.1 + u)), (1, .int x2), (2, .int v2_3)] []
          refine k_iinc G (dc d_Tw_fineWrongSigns 35 rfl) (ls' := [(2, .int (v2_3 + 1)), (0, .ref (B.1 + u)), (1, .int x2)]) 2 rfl cI_1 rfl rfl ?_
          refine k_goto G (dc d_Tw_fineWrongSigns 36 rfl) (tgt := 12) rfl ?_
          refine k_sub [1, 2, 0] rfl ?_
          have h9 := kOk_s h
          exact h9
        · refine k_if_eq G (dc d_Tw_fineWrongSigns 18 rfl) (tgt := 60) rfl (fun c13 => ?_) (fun c13 => ?_)
          · replace h := kOk_p c13 h
            have h9 := kOk_s h
            exact h9
          · replace h := kOk_n c13 h
            refine k_aload_n G (dc d_Tw_fineWrongSigns 19 rfl) 0 rfl rfl ?_
            refine k_getR G kc6 (dc d_Tw_fineWrongSigns 20 rfl) (okL_lt hu (o := 0) 0 rfl) (okL_k hu (o := 0) 0 rfl) 0 (by decide) rfl fl_RX8_12 (u + 1) (okL_r hu (o := 0) (c := 1) 0 rfl 0 rfl) ?_
            refine k_getR G kc5 (dc d_Tw_fineWrongSigns 21 rfl) (okL_lt hu (o := 1) 1 rfl) (okL_k hu (o := 1) 1 rfl) 7 (by decide) rfl fl_RX8_85 (u + 9) (okL_r hu (o := 1) (c := 9) 1 rfl 6 rfl) ?_
            refine k_iload_n G (dc d_Tw_fineWrongSigns 22 rfl) 2 rfl rfl ?_
            refine k_dup2 G (dc d_Tw_fineWrongSigns 23 rfl) rfl rfl ?_
            obtain ⟨x15, e14, h⟩ := kOk_b h
            refine k_ild G (dc d_Tw_fineWrongSigns 24 rfl) (okL_lt hu (o := 9) 9 rfl) (okL_k hu (o := 9) 9 rfl) (okL_n hu (o := 9) 9 rfl) e14 ?_
            refine k_iload_n G (dc d_Tw_fineWrongSigns 25 rfl) 1 rfl rfl ?_
            refine k_iadd G (dc d_Tw_fineWrongSigns 26 rfl) ?_
            obtain ⟨M17, e16, h⟩ := kOk_b h
            refine k_ist G (dc d_Tw_fineWrongSigns 27 rfl) (okL_lt hu (o := 9) 9 rfl) (okL_k hu (o := 9) 9 rfl) (okL_n hu (o := 9) 9 rfl) e16 ?_
            refine k_aload_n G (dc d_Tw_fineWrongSigns 28 rfl) 0 rfl rfl ?_
            refine k_aload_n G (dc d_Tw_fineWrongSigns 29 rfl) 0 rfl rfl ?_
            refine k_getR G kc6 (dc d_Tw_fineWrongSigns 30 rfl) (okL_lt hu (o := 0) 0 rfl) (okL_k hu (o := 0) 0 rfl) 0 (by decide) rfl fl_RX8_12 (u + 1) (okL_r hu (o := 0) (c := 1) 0 rfl 0 rfl) ?_
            refine k_getR G kc5 (dc d_Tw_fineWrongSigns 31 rfl) (okL_lt hu (o := 1) 1 rfl) (okL_k hu (o := 1) 1 rfl) 8 (by decide) rfl fl_RX8_154 (u + 10) (okL_r hu (o := 1) (c := 10) 1 rfl 7 rfl) ?_
            refine k_iload_n G (dc d_Tw_fineWrongSigns 32 rfl) 2 rfl rfl ?_
            refine k_iload_n G (dc d_Tw_fineWrongSigns 33 rfl) 1 rfl rfl ?_
            obtain ⟨M19, e18, h⟩ := kOk_b h
            refine k_cVV G (dc d_Tw_fineWrongSigns 34 rfl) kc6 (okL_lt hu (o := 0) 0 rfl) (okL_k hu (o := 0) 0 rfl) mi_Tw_charge mv_Tw_charge rfl ml_RX8_138 (c_Tw_charge (gst G) hu (okL_a hu (o := 10) 10 rfl) e18) rfl rfl ⟨rfl, rfl⟩ rfl ⟨rfl, rfl⟩ ⟨rfl, rfl⟩ ?_
            have h9 := kOk_s h
            exact h9
theorem c_Tw_fineWrongSigns {l : Launch} {B : KB} {L : KLay} {M : KMem} {u : Nat} (hst : l.stackTraces = false) (hu : okL L u twT) {M' : KMem} (e : m_Tw_fineWrongSigns u M = some M') : CtrN l B yX8_fineWrongSigns cX8_fineWrongSigns 3 none rm_Tw_fineWrongSigns [.ref (B.1 + u)] L M none L M' :=
  mk_V rfl hst rfl (fun X hl G _ R => b_Tw_fineWrongSigns G hu ⟨_, e, R⟩)
def I_Tw_passMonths : List (Nat × Instr × Nat) := [(0, .aload_n 0, 1), (1, .invokevirtual 142, 3), (4, .istore_n 2, 1), (5, .iconst 0, 1), (6, .istore_n 3, 1), (7, .iload_n 3, 1), (8, .iload_n 1, 1), (9, .if_icmp .ge 52, 3), (12, .aload_n 0, 1), (13, .getfield 12, 3), (16, .dup, 1), (17, .getfield 96, 3), (20, .iconst 1, 1), (21, .iadd, 1), (22, .putfield 96, 3), (25, .aload_n 0, 1), (26, .getfield 12, 3), (29, .getfield 145, 3), (32, .ifCond .le 19, 3), (35, .aload_n 0, 1), (36, .getfield 12, 3), (39, .dup, 1), (40, .getfield 145, 3), (43, .iconst 1, 1), (44, .isub, 1), (45, .putfield 145, 3), (48, .goto 7, 3), (51, .aload_n 0, 1), (52, .invokevirtual 148, 3), (55, .iinc 3 1, 3), (58, .goto (-51), 3), (61, .aload_n 0, 1), (62, .invokevirtual 142, 3), (65, .iload_n 2, 1), (66, .isub, 1), (67, .ireturn, 1)]
set_option maxRecDepth 100000 in
theorem d_Tw_passMonths : decA cX8_passMonths I_Tw_passMonths = true := by decide +kernel
abbrev rm_Tw_passMonths : Room := ({ frames := 3, cells := 0, slots := 0, locals := 67 } : Room)
def m_Tw_passMonths_l7 (u : Nat) (p0 : Int32) : (Int32 × KMem) → Option ((Int32 × KMem) ⊕ KMem) := fun (v3_3, M4) =>
 if p0 ≤ v3_3 then
 (some (.inr M4))
 else
 (Option.bind (some (kup M4 (u + 1) 11 ((M4 (u + 1) 11) + 1))) fun M7 =>
 Option.bind (α := KMem) (if (M7 (u + 1) 12) ≤ 0 then
 (Option.bind (m_Tw_fineWrongSigns u M7) fun M12 =>
 some M12)
 else
 (Option.bind (some (kup M7 (u + 1) 12 ((M7 (u + 1) 12) - 1))) fun M14 =>
 some M14)) fun M8 =>
 some (.inl (v3_3 + 1, M8)))
def m_Tw_passMonths (u : Nat) (p0 : Int32) (M : KMem) : Option (Int32 × KMem) :=
 Option.bind (m_Tw_allFines u M) fun x2 =>
 Option.bind (α := KMem) (kLp (m_Tw_passMonths_l7 u p0) kFU (0, M)) fun M15 =>
 Option.bind (m_Tw_allFines u M15) fun x17 =>
 some (x17 - x2, M15)
set_option maxHeartbeats 4000000 in
set_option maxRecDepth 100000 in
theorem b_Tw_passMonths {X : KX} {B : KB} {L : KLay} {M : KMem} {u : Nat} {p0 : Int32} (G : Good X B RX8 cX8_passMonths 4 rm_Tw_passMonths) (hu : okL L u twT) (h : kOk (m_Tw_passMonths u p0 M) (fun r => RI X B L 4 cX8_passMonths .int rm_Tw_passMonths r.1 r.2)) : KK X B L 4 0 0 M 0 [(0, .ref (B.1 + u)), (1, .int p0)] [] := by
  unfold m_Tw_passMonths at h
  refine k_aload_n G (dc d_Tw_passMonths 0 rfl) 0 rfl rfl ?_
  obtain ⟨x2, e1, h⟩ := kOk_b h
  refine k_cVI G (dc d_Tw_passMonths 1 rfl) kc6 (okL_lt hu (o := 0) 0 rfl) (okL_k hu (o := 0) 0 rfl) mi_Tw_allFines mv_Tw_allFines rfl ml_RX8_142 (c_Tw_allFines (gst G) hu e1) rfl rfl ⟨rfl, rfl⟩ rfl ⟨rfl, rfl⟩ ⟨rfl, rfl⟩ ?_
  refine k_istore_n G (dc d_Tw_passMonths 2 rfl) (ls' := [(2, .int x2), (0, .ref (B.1 + u)), (1, .int p0)]) rfl rfl rfl ?_
  refine k_iconst G (dc d_Tw_passMonths 3 rfl) cI_0 ?_
  refine k_istore_n G (dc d_Tw_passMonths 4 rfl) (ls' := [(3, .int 0), (2, .int x2), (0, .ref (B.1 + u)), (1, .int p0)]) rfl rfl rfl ?_
  refine kJ h (fun r18 => KK X B L 4 0 0 r18 61 [(0, .ref (B.1 + u)), (2, .int x2)] []) (fun r18 h => ?_) (fun h => ?_)
  · obtain ⟨M15, rfl⟩ : ∃ z, z = r18 := ⟨_, rfl⟩
    show KK X B L 4 0 0 M15 61 [(0, .ref (B.1 + u)), (2, .int x2)] []
    refine k_aload_n G (dc d_Tw_passMonths 31 rfl) 0 rfl rfl ?_
    obtain ⟨x17, e16, h⟩ := kOk_b h
    refine k_cVI G (dc d_Tw_passMonths 32 rfl) kc6 (okL_lt hu (o := 0) 0 rfl) (okL_k hu (o := 0) 0 rfl) mi_Tw_allFines mv_Tw_allFines rfl ml_RX8_142 (c_Tw_allFines (gst G) hu e16) rfl rfl ⟨rfl, rfl⟩ rfl ⟨rfl, rfl⟩ ⟨rfl, rfl⟩ ?_
    refine k_iload_n G (dc d_Tw_passMonths 33 rfl) 1 rfl rfl ?_
    refine k_isub G (dc d_Tw_passMonths 34 rfl) ?_
    exact (kOk_s h) _ _ _ _ rfl rfl rfl (dc d_Tw_passMonths 35 rfl)
  · refine k_sub [2, 3, 1, 0] rfl ?_
    refine kLp_ok (P := fun s19 => KK X B L 4 0 0 s19.2 7 [(0, .ref (B.1 + u)), (1, .int p0), (2, .int x2), (3, .int s19.1)] []) (fun s19 h => ?_) kFU _ h
    obtain ⟨v3_3, M4⟩ := s19
    unfold m_Tw_passMonths_l7 at h
    show KK X B L 4 0 0 M4 7 [(0, .ref (B.1 + u)), (1, .int p0), (2, .int x2), (3, .int v3_3)] []
    refine k_iload_n G (dc d_Tw_passMonths 5 rfl) 3 rfl rfl ?_
    refine k_iload_n G (dc d_Tw_passMonths 6 rfl) 1 rfl rfl ?_
    refine k_icmp_ge G (dc d_Tw_passMonths 7 rfl) (tgt := 61) rfl (fun c5 => ?_) (fun c5 => ?_)
    · replace h := kOk_p c5 h
      refine k_sub [0, 2] rfl ?_
      have h9 := kOk_s h
      exact h9
    · replace h := kOk_n c5 h
      refine k_aload_n G (dc d_Tw_passMonths 8 rfl) 0 rfl rfl ?_
      refine k_getR G kc6 (dc d_Tw_passMonths 9 rfl) (okL_lt hu (o := 0) 0 rfl) (okL_k hu (o := 0) 0 rfl) 0 (by decide) rfl fl_RX8_12 (u + 1) (okL_r hu (o := 0) (c := 1) 0 rfl 0 rfl) ?_
      refine k_dup G (dc d_Tw_passMonths 10 rfl) rfl ?_
      refine k_getI G kc5 (dc d_Tw_passMonths 11 rfl) (okL_lt hu (o := 1) 1 rfl) (okL_k hu (o := 1) 1 rfl) 11 (by decide) rfl fl_RX8_96 ?_
      refine k_iconst G (dc d_Tw_passMonths 12 rfl) cI_1 ?_
      refine k_iadd G (dc d_Tw_passMonths 13 rfl) ?_
      obtain ⟨M7, e6, h⟩ := kOk_b h
      refine k_putI G kc5 (dc d_Tw_passMonths 14 rfl) (okL_lt hu (o := 1) 1 rfl) (okL_k hu (o := 1) 1 rfl) 11 (by decide) rfl rfl fl_RX8_96 rfl rfl e6 ?_
      refine k_aload_n G (dc d_Tw_passMonths 15 rfl) 0 rfl rfl ?_
      refine k_getR G kc6 (dc d_Tw_passMonths 16 rfl) (okL_lt hu (o := 0) 0 rfl) (okL_k hu (o := 0) 0 rfl) 0 (by decide) rfl fl_RX8_12 (u + 1) (okL_r hu (o := 0) (c := 1) 0 rfl 0 rfl) ?_
      refine k_getI G kc5 (dc d_Tw_passMonths 17 rfl) (okL_lt hu (o := 1) 1 rfl) (okL_k hu (o := 1) 1 rfl) 12 (by decide) rfl fl_RX8_145 ?_
      refine kJ h (fun r9 => KK X B L 4 0 0 r9 55 [(0, .ref (B.1 + u)), (1, .int p0), (2, .int x2), (3, .int v3_3)] []) (fun r9 h => ?_) (fun h => ?_)
      · obtain ⟨M8, rfl⟩ : ∃ z, z = r9 := ⟨_, rfl⟩
        show KK X B L 4 0 0 M8 55 [(0, .ref (B.1 + u)), (1, .int p0), (2, .int x2), (3, .int v3_3)] []
        refine k_iinc G (dc d_Tw_passMonths 29 rfl) (ls' := [(3, .int (v3_3 + 1)), (0, .ref (B.1 + u)), (1, .int p0), (2, .int x2)]) 3 rfl cI_1 rfl rfl ?_
        refine k_goto G (dc d_Tw_passMonths 30 rfl) (tgt := 7) rfl ?_
        refine k_sub [1, 2, 3, 0] rfl ?_
        have h9 := kOk_s h
        exact h9
      · refine k_if_le G (dc d_Tw_passMonths 18 rfl) (tgt := 51) rfl (fun c10 => ?_) (fun c10 => ?_)
        · replace h := kOk_p c10 h
          refine k_aload_n G (dc d_Tw_passMonths 27 rfl) 0 rfl rfl ?_
          obtain ⟨M12, e11, h⟩ := kOk_b h
          refine k_cVV G (dc d_Tw_passMonths 28 rfl) kc6 (okL_lt hu (o := 0) 0 rfl) (okL_k hu (o := 0) 0 rfl) mi_Tw_fineWrongSigns mv_Tw_fineWrongSigns rfl ml_RX8_148 (c_Tw_fineWrongSigns (gst G) hu e11) rfl rfl ⟨rfl, rfl⟩ rfl ⟨rfl, rfl⟩ ⟨rfl, rfl⟩ ?_
          have h9 := kOk_s h
          exact h9
        · replace h := kOk_n c10 h
          refine k_aload_n G (dc d_Tw_passMonths 19 rfl) 0 rfl rfl ?_
          refine k_getR G kc6 (dc d_Tw_passMonths 20 rfl) (okL_lt hu (o := 0) 0 rfl) (okL_k hu (o := 0) 0 rfl) 0 (by decide) rfl fl_RX8_12 (u + 1) (okL_r hu (o := 0) (c := 1) 0 rfl 0 rfl) ?_
          refine k_dup G (dc d_Tw_passMonths 21 rfl) rfl ?_
          refine k_getI G kc5 (dc d_Tw_passMonths 22 rfl) (okL_lt hu (o := 1) 1 rfl) (okL_k hu (o := 1) 1 rfl) 12 (by decide) rfl fl_RX8_145 ?_
          refine k_iconst G (dc d_Tw_passMonths 23 rfl) cI_1 ?_
          refine k_isub G (dc d_Tw_passMonths 24 rfl) ?_
          obtain ⟨M14, e13, h⟩ := kOk_b h
          refine k_putI G kc5 (dc d_Tw_passMonths 25 rfl) (okL_lt hu (o := 1) 1 rfl) (okL_k hu (o := 1) 1 rfl) 12 (by decide) rfl rfl fl_RX8_145 rfl rfl e13 ?_
          refine k_goto G (dc d_Tw_passMonths 26 rfl) (tgt := 55) rfl ?_
          have h9 := kOk_s h
          exact h9
theorem c_Tw_passMonths {l : Launch} {B : KB} {L : KLay} {M : KMem} {u : Nat} {p0 : Int32} (hst : l.stackTraces = false) (hu : okL L u twT) {r : Int32} {M' : KMem} (e : m_Tw_passMonths u p0 M = some (r, M')) : CtrN l B yX8_passMonths cX8_passMonths 4 (some .int) rm_Tw_passMonths [.ref (B.1 + u), .int p0] L M (some (.int r)) L M' :=
  mk_I rfl hst rfl (fun X hl G _ R => b_Tw_passMonths G hu ⟨_, e, R⟩)
def I_Tw_canForgive : List (Nat × Instr × Nat) := [(0, .aload_n 0, 1), (1, .getfield 12, 3), (4, .getfield 145, 3), (7, .ifCond .le 5, 3), (10, .iconst 0, 1), (11, .ireturn, 1), (12, .aload_n 0, 1), (13, .getfield 12, 3), (16, .getfield 157, 3), (19, .iconst (-1), 1), (20, .if_icmp .eq 23, 3), (23, .aload_n 0, 1), (24, .getfield 12, 3), (27, .getfield 96, 3), (30, .aload_n 0, 1), (31, .getfield 12, 3), (34, .getfield 157, 3), (37, .isub, 1), (38, .bipush 12, 2), (40, .if_icmp .lt 7, 3), (43, .iconst 1, 1), (44, .goto 4, 3), (47, .iconst 0, 1), (48, .ireturn, 1)]
set_option maxRecDepth 100000 in
theorem d_Tw_canForgive : decA cX8_canForgive I_Tw_canForgive = true := by decide +kernel
abbrev rm_Tw_canForgive : Room := ({ frames := 0, cells := 0, slots := 0, locals := 0 } : Room)
def m_Tw_canForgive (u : Nat) (M : KMem) : Option Int32 :=
 if (M (u + 1) 12) ≤ 0 then
 (Option.bind (α := Int32) (if (M (u + 1) 13) = (-1) then
 (some 1)
 else
 (if ((M (u + 1) 11) - (M (u + 1) 13)) < 12 then
 (some 0)
 else
 (some 1))) fun t2 =>
 Option.bind (kz t2) fun z4 =>
 some z4)
 else
 (Option.bind (kz 0) fun z8 =>
 some z8)
set_option maxHeartbeats 4000000 in
set_option maxRecDepth 100000 in
theorem b_Tw_canForgive {X : KX} {B : KB} {L : KLay} {M : KMem} {u : Nat} (G : Good X B RX8 cX8_canForgive 1 rm_Tw_canForgive) (hu : okL L u twT) (h : kOk (m_Tw_canForgive u M) (fun r => RI X B L 1 cX8_canForgive .boolean rm_Tw_canForgive r M)) : KK X B L 1 0 0 M 0 [(0, .ref (B.1 + u))] [] := by
  unfold m_Tw_canForgive at h
  refine k_aload_n G (dc d_Tw_canForgive 0 rfl) 0 rfl rfl ?_
  refine k_getR G kc6 (dc d_Tw_canForgive 1 rfl) (okL_lt hu (o := 0) 0 rfl) (okL_k hu (o := 0) 0 rfl) 0 (by decide) rfl fl_RX8_12 (u + 1) (okL_r hu (o := 0) (c := 1) 0 rfl 0 rfl) ?_
  refine k_getI G kc5 (dc d_Tw_canForgive 2 rfl) (okL_lt hu (o := 1) 1 rfl) (okL_k hu (o := 1) 1 rfl) 12 (by decide) rfl fl_RX8_145 ?_
  refine k_if_le G (dc d_Tw_canForgive 3 rfl) (tgt := 12) rfl (fun c1 => ?_) (fun c1 => ?_)
  · replace h := kOk_p c1 h
    refine k_aload_n G (dc d_Tw_canForgive 6 rfl) 0 rfl rfl ?_
    refine k_getR G kc6 (dc d_Tw_canForgive 7 rfl) (okL_lt hu (o := 0) 0 rfl) (okL_k hu (o := 0) 0 rfl) 0 (by decide) rfl fl_RX8_12 (u + 1) (okL_r hu (o := 0) (c := 1) 0 rfl 0 rfl) ?_
    refine k_getI G kc5 (dc d_Tw_canForgive 8 rfl) (okL_lt hu (o := 1) 1 rfl) (okL_k hu (o := 1) 1 rfl) 13 (by decide) rfl fl_RX8_157 ?_
    refine k_iconst G (dc d_Tw_canForgive 9 rfl) cI_m1 ?_
    refine kJ h (fun r3 => KK X B L 1 0 0 M 48 [] [.int r3]) (fun r3 h => ?_) (fun h => ?_)
    · obtain ⟨t2, rfl⟩ : ∃ z, z = r3 := ⟨_, rfl⟩
      show KK X B L 1 0 0 M 48 [] [.int t2]
      obtain ⟨z4, e5, h⟩ := kOk_b h
      obtain ⟨e5, nz4, -⟩ := kz_ok e5
      rw [e5]
      exact (kOk_s h) _ _ _ _ rfl rfl nz4 (dc d_Tw_canForgive 23 rfl)
    · refine k_icmp_eq G (dc d_Tw_canForgive 10 rfl) (tgt := 43) rfl (fun c6 => ?_) (fun c6 => ?_)
      · replace h := kOk_p c6 h
        refine k_iconst G (dc d_Tw_canForgive 20 rfl) cI_1 ?_
        refine k_goto G (dc d_Tw_canForgive 21 rfl) (tgt := 48) rfl ?_
        refine k_sub [] rfl ?_
        have h9 := kOk_s h
        exact h9
      · replace h := kOk_n c6 h
        refine k_aload_n G (dc d_Tw_canForgive 11 rfl) 0 rfl rfl ?_
        refine k_getR G kc6 (dc d_Tw_canForgive 12 rfl) (okL_lt hu (o := 0) 0 rfl) (okL_k hu (o := 0) 0 rfl) 0 (by decide) rfl fl_RX8_12 (u + 1) (okL_r hu (o := 0) (c := 1) 0 rfl 0 rfl) ?_
        refine k_getI G kc5 (dc d_Tw_canForgive 13 rfl) (okL_lt hu (o := 1) 1 rfl) (okL_k hu (o := 1) 1 rfl) 11 (by decide) rfl fl_RX8_96 ?_
        refine k_aload_n G (dc d_Tw_canForgive 14 rfl) 0 rfl rfl ?_
        refine k_getR G kc6 (dc d_Tw_canForgive 15 rfl) (okL_lt hu (o := 0) 0 rfl) (okL_k hu (o := 0) 0 rfl) 0 (by decide) rfl fl_RX8_12 (u + 1) (okL_r hu (o := 0) (c := 1) 0 rfl 0 rfl) ?_
        refine k_getI G kc5 (dc d_Tw_canForgive 16 rfl) (okL_lt hu (o := 1) 1 rfl) (okL_k hu (o := 1) 1 rfl) 13 (by decide) rfl fl_RX8_157 ?_
        refine k_isub G (dc d_Tw_canForgive 17 rfl) ?_
        refine k_bipush G (dc d_Tw_canForgive 18 rfl) cB_12 ?_
        refine k_icmp_lt G (dc d_Tw_canForgive 19 rfl) (tgt := 47) rfl (fun c7 => ?_) (fun c7 => ?_)
        · replace h := kOk_p c7 h
          refine k_iconst G (dc d_Tw_canForgive 22 rfl) cI_0 ?_
          refine k_sub [] rfl ?_
          have h9 := kOk_s h
          exact h9
        · replace h := kOk_n c7 h
          refine k_iconst G (dc d_Tw_canForgive 20 rfl) cI_1 ?_
          refine k_goto G (dc d_Tw_canForgive 21 rfl) (tgt := 48) rfl ?_
          refine k_sub [] rfl ?_
          have h9 := kOk_s h
          exact h9
  · replace h := kOk_n c1 h
    refine k_iconst G (dc d_Tw_canForgive 4 rfl) cI_0 ?_
    obtain ⟨z8, e9, h⟩ := kOk_b h
    obtain ⟨e9, nz8, -⟩ := kz_ok e9
    rw [e9]
    exact (kOk_s h) _ _ _ _ rfl rfl nz8 (dc d_Tw_canForgive 5 rfl)
theorem c_Tw_canForgive {l : Launch} {B : KB} {L : KLay} {M : KMem} {u : Nat} (hst : l.stackTraces = false) (hu : okL L u twT) {r : Int32} (e : m_Tw_canForgive u M = some r) : CtrN l B yX8_canForgive cX8_canForgive 1 (some .boolean) rm_Tw_canForgive [.ref (B.1 + u)] L M (some (.int r)) L M :=
  mk_I rfl hst rfl (fun X hl G _ R => b_Tw_canForgive G hu ⟨_, e, R⟩)
def I_Tw_wrongSigns : List (Nat × Instr × Nat) := [(0, .iconst 0, 1), (1, .istore_n 1, 1), (2, .iconst 0, 1), (3, .istore_n 2, 1), (4, .iload_n 2, 1), (5, .bipush 8, 2), (7, .if_icmp .ge 33, 3), (10, .aload_n 0, 1), (11, .iload_n 2, 1), (12, .invokevirtual 40, 3), (15, .ifCond .eq 25, 3), (18, .iload_n 1, 1), (19, .aload_n 0, 1), (20, .iload_n 2, 1), (21, .invokevirtual 151, 3), (24, .ifCond .eq 7, 3), (27, .iconst 1, 1), (28, .goto 4, 3), (31, .iconst 0, 1), (32, .iadd, 1), (33, .istore_n 1, 1), (34, .iinc 2 1, 3), (37, .goto (-33), 3), (40, .iload_n 1, 1), (41, .ireturn, 1)]
set_option maxRecDepth 100000 in
theorem d_Tw_wrongSigns : decA cX8_wrongSigns I_Tw_wrongSigns = true := by decide +kernel
abbrev rm_Tw_wrongSigns : Room := ({ frames := 2, cells := 0, slots := 0, locals := 42 } : Room)
def m_Tw_wrongSigns_l4 (u : Nat) (M : KMem) : (Int32 × Int32) → Option ((Int32 × Int32) ⊕ Int32) := fun (v1_1, v2_2) =>
 if 8 ≤ v2_2 then
 (some (.inr v1_1))
 else
 (Option.bind (m_Tw_hasSign u v2_2 M) fun x5 =>
 if x5 = 0 then
 (some (.inr v1_1))
 else
 (Option.bind (m_Tw_isWrong u v2_2 M) fun x8 =>
 Option.bind (α := Int32) (if x8 = 0 then
 (some 0)
 else
 (some 1)) fun t9 =>
 some (.inl (v1_1 + t9, v2_2 + 1))))
def m_Tw_wrongSigns (u : Nat) (M : KMem) : Option Int32 :=
 Option.bind (α := Int32) (kLp (m_Tw_wrongSigns_l4 u M) kFU (0, 0)) fun v1_12 =>
 some v1_12
set_option maxHeartbeats 4000000 in
set_option maxRecDepth 100000 in
theorem b_Tw_wrongSigns {X : KX} {B : KB} {L : KLay} {M : KMem} {u : Nat} (G : Good X B RX8 cX8_wrongSigns 3 rm_Tw_wrongSigns) (hu : okL L u twT) (h : kOk (m_Tw_wrongSigns u M) (fun r => RI X B L 3 cX8_wrongSigns .int rm_Tw_wrongSigns r M)) : KK X B L 3 0 0 M 0 [(0, .ref (B.1 + u))] [] := by
  unfold m_Tw_wrongSigns at h
  refine k_iconst G (dc d_Tw_wrongSigns 0 rfl) cI_0 ?_
  refine k_istore_n G (dc d_Tw_wrongSigns 1 rfl) (ls' := [(1, .int 0), (0, .ref (B.1 + u))]) rfl rfl rfl ?_
  refine k_iconst G (dc d_Tw_wrongSigns 2 rfl) cI_0 ?_
  refine k_istore_n G (dc d_Tw_wrongSigns 3 rfl) (ls' := [(2, .int 0), (1, .int 0), (0, .ref (B.1 + u))]) rfl rfl rfl ?_
  refine kJ h (fun r13 => KK X B L 3 0 0 M 40 [(1, .int r13)] []) (fun r13 h => ?_) (fun h => ?_)
  · obtain ⟨v1_12, rfl⟩ : ∃ z, z = r13 := ⟨_, rfl⟩
    show KK X B L 3 0 0 M 40 [(1, .int v1_12)] []
    refine k_iload_n G (dc d_Tw_wrongSigns 23 rfl) 0 rfl rfl ?_
    exact (kOk_s h) _ _ _ _ rfl rfl rfl (dc d_Tw_wrongSigns 24 rfl)
  · refine k_sub [2, 1, 0] rfl ?_
    refine kLp_ok (P := fun s14 => KK X B L 3 0 0 M 4 [(0, .ref (B.1 + u)), (1, .int s14.1), (2, .int s14.2)] []) (fun s14 h => ?_) kFU _ h
    obtain ⟨v1_1, v2_2⟩ := s14
    unfold m_Tw_wrongSigns_l4 at h
    show KK X B L 3 0 0 M 4 [(0, .ref (B.1 + u)), (1, .int v1_1), (2, .int v2_2)] []
    refine k_iload_n G (dc d_Tw_wrongSigns 4 rfl) 2 rfl rfl ?_
    refine k_bipush G (dc d_Tw_wrongSigns 5 rfl) cB_8 ?_
    refine k_icmp_ge G (dc d_Tw_wrongSigns 6 rfl) (tgt := 40) rfl (fun c3 => ?_) (fun c3 => ?_)
    · replace h := kOk_p c3 h
      refine k_sub [1] rfl ?_
      have h9 := kOk_s h
      exact h9
    · replace h := kOk_n c3 h
      refine k_aload_n G (dc d_Tw_wrongSigns 7 rfl) 0 rfl rfl ?_
      refine k_iload_n G (dc d_Tw_wrongSigns 8 rfl) 2 rfl rfl ?_
      obtain ⟨x5, e4, h⟩ := kOk_b h
      refine k_cVI G (dc d_Tw_wrongSigns 9 rfl) kc6 (okL_lt hu (o := 0) 0 rfl) (okL_k hu (o := 0) 0 rfl) mi_Tw_hasSign mv_Tw_hasSign rfl ml_RX8_40 (c_Tw_hasSign (gst G) hu e4) rfl rfl ⟨rfl, rfl⟩ rfl ⟨rfl, rfl⟩ ⟨rfl, rfl⟩ ?_
      refine k_if_eq G (dc d_Tw_wrongSigns 10 rfl) (tgt := 40) rfl (fun c6 => ?_) (fun c6 => ?_)
      · replace h := kOk_p c6 h
        refine k_sub [1] rfl ?_
        have h9 := kOk_s h
        exact h9
      · replace h := kOk_n c6 h
        refine k_iload_n G (dc d_Tw_wrongSigns 11 rfl) 1 rfl rfl ?_
        refine k_aload_n G (dc d_Tw_wrongSigns 12 rfl) 0 rfl rfl ?_
        refine k_iload_n G (dc d_Tw_wrongSigns 13 rfl) 2 rfl rfl ?_
        obtain ⟨x8, e7, h⟩ := kOk_b h
        refine k_cVI G (dc d_Tw_wrongSigns 14 rfl) kc6 (okL_lt hu (o := 0) 0 rfl) (okL_k hu (o := 0) 0 rfl) mi_Tw_isWrong mv_Tw_isWrong rfl ml_RX8_151 (c_Tw_isWrong (gst G) hu e7) rfl rfl ⟨rfl, rfl⟩ rfl ⟨rfl, rfl⟩ ⟨rfl, rfl⟩ ?_
        refine kJ h (fun r10 => KK X B L 3 0 0 M 32 [(0, .ref (B.1 + u)), (2, .int v2_2)] [.int r10, .int v1_1]) (fun r10 h => ?_) (fun h => ?_)
        · obtain ⟨t9, rfl⟩ : ∃ z, z = r10 := ⟨_, rfl⟩
          show KK X B L 3 0 0 M 32 [(0, .ref (B.1 + u)), (2, .int v2_2)] [.int t9, .int v1_1]
          refine k_iadd G (dc d_Tw_wrongSigns 19 rfl) ?_
          refine k_istore_n G (dc d_Tw_wrongSigns 20 rfl) (ls' := [(1, .int (v1_1 + t9)), (0, .ref (B.1 + u)), (2, .int v2_2)]) rfl rfl rfl ?_
          refine k_iinc G (dc d_Tw_wrongSigns 21 rfl) (ls' := [(2, .int (v2_2 + 1)), (1, .int (v1_1 + t9)), (0, .ref (B.1 + u))]) 2 rfl cI_1 rfl rfl ?_
          refine k_goto G (dc d_Tw_wrongSigns 22 rfl) (tgt := 4) rfl ?_
          refine k_sub [2, 1, 0] rfl ?_
          have h9 := kOk_s h
          exact h9
        · refine k_if_eq G (dc d_Tw_wrongSigns 15 rfl) (tgt := 31) rfl (fun c11 => ?_) (fun c11 => ?_)
          · replace h := kOk_p c11 h
            refine k_iconst G (dc d_Tw_wrongSigns 18 rfl) cI_0 ?_
            refine k_sub [0, 2] rfl ?_
            have h9 := kOk_s h
            exact h9
          · replace h := kOk_n c11 h
            refine k_iconst G (dc d_Tw_wrongSigns 16 rfl) cI_1 ?_
            refine k_goto G (dc d_Tw_wrongSigns 17 rfl) (tgt := 32) rfl ?_
            refine k_sub [0, 2] rfl ?_
            have h9 := kOk_s h
            exact h9
theorem c_Tw_wrongSigns {l : Launch} {B : KB} {L : KLay} {M : KMem} {u : Nat} (hst : l.stackTraces = false) (hu : okL L u twT) {r : Int32} (e : m_Tw_wrongSigns u M = some r) : CtrN l B yX8_wrongSigns cX8_wrongSigns 3 (some .int) rm_Tw_wrongSigns [.ref (B.1 + u)] L M (some (.int r)) L M :=
  mk_I rfl hst rfl (fun X hl G _ R => b_Tw_wrongSigns G hu ⟨_, e, R⟩)
def I_Tw_forgive : List (Nat × Instr × Nat) := [(0, .aload_n 0, 1), (1, .invokevirtual 160, 3), (4, .ifCond .ne 5, 3), (7, .iconst (-1), 1), (8, .ireturn, 1), (9, .aload_n 0, 1), (10, .getfield 12, 3), (13, .iload_n 1, 1), (14, .putfield 145, 3), (17, .aload_n 0, 1), (18, .getfield 12, 3), (21, .aload_n 0, 1), (22, .getfield 12, 3), (25, .getfield 96, 3), (28, .putfield 157, 3), (31, .aload_n 0, 1), (32, .invokevirtual 163, 3), (35, .ireturn, 1)]
set_option maxRecDepth 100000 in
theorem d_Tw_forgive : decA cX8_forgive I_Tw_forgive = true := by decide +kernel
abbrev rm_Tw_forgive : Room := ({ frames := 3, cells := 0, slots := 0, locals := 64 } : Room)
def m_Tw_forgive (u : Nat) (p0 : Int32) (M : KMem) : Option (Int32 × KMem) :=
 Option.bind (m_Tw_canForgive u M) fun x2 =>
 if x2 = 0 then
 (some ((-1), M))
 else
 (Option.bind (some (kup M (u + 1) 12 p0)) fun M5 =>
 Option.bind (some (kup M5 (u + 1) 13 (M5 (u + 1) 11))) fun M7 =>
 Option.bind (m_Tw_wrongSigns u M7) fun x9 =>
 some (x9, M7))
set_option maxHeartbeats 4000000 in
set_option maxRecDepth 100000 in
theorem b_Tw_forgive {X : KX} {B : KB} {L : KLay} {M : KMem} {u : Nat} {p0 : Int32} (G : Good X B RX8 cX8_forgive 2 rm_Tw_forgive) (hu : okL L u twT) (h : kOk (m_Tw_forgive u p0 M) (fun r => RI X B L 2 cX8_forgive .int rm_Tw_forgive r.1 r.2)) : KK X B L 2 0 0 M 0 [(0, .ref (B.1 + u)), (1, .int p0)] [] := by
  unfold m_Tw_forgive at h
  refine k_aload_n G (dc d_Tw_forgive 0 rfl) 0 rfl rfl ?_
  obtain ⟨x2, e1, h⟩ := kOk_b h
  refine k_cVI G (dc d_Tw_forgive 1 rfl) kc6 (okL_lt hu (o := 0) 0 rfl) (okL_k hu (o := 0) 0 rfl) mi_Tw_canForgive mv_Tw_canForgive rfl ml_RX8_160 (c_Tw_canForgive (gst G) hu e1) rfl rfl ⟨rfl, rfl⟩ rfl ⟨rfl, rfl⟩ ⟨rfl, rfl⟩ ?_
  refine k_if_ne G (dc d_Tw_forgive 2 rfl) (tgt := 9) rfl (fun c3 => ?_) (fun c3 => ?_)
  · replace h := kOk_n c3 h
    refine k_aload_n G (dc d_Tw_forgive 5 rfl) 0 rfl rfl ?_
    refine k_getR G kc6 (dc d_Tw_forgive 6 rfl) (okL_lt hu (o := 0) 0 rfl) (okL_k hu (o := 0) 0 rfl) 0 (by decide) rfl fl_RX8_12 (u + 1) (okL_r hu (o := 0) (c := 1) 0 rfl 0 rfl) ?_
    refine k_iload_n G (dc d_Tw_forgive 7 rfl) 1 rfl rfl ?_
    obtain ⟨M5, e4, h⟩ := kOk_b h
    refine k_putI G kc5 (dc d_Tw_forgive 8 rfl) (okL_lt hu (o := 1) 1 rfl) (okL_k hu (o := 1) 1 rfl) 12 (by decide) rfl rfl fl_RX8_145 rfl rfl e4 ?_
    refine k_aload_n G (dc d_Tw_forgive 9 rfl) 0 rfl rfl ?_
    refine k_getR G kc6 (dc d_Tw_forgive 10 rfl) (okL_lt hu (o := 0) 0 rfl) (okL_k hu (o := 0) 0 rfl) 0 (by decide) rfl fl_RX8_12 (u + 1) (okL_r hu (o := 0) (c := 1) 0 rfl 0 rfl) ?_
    refine k_aload_n G (dc d_Tw_forgive 11 rfl) 0 rfl rfl ?_
    refine k_getR G kc6 (dc d_Tw_forgive 12 rfl) (okL_lt hu (o := 0) 0 rfl) (okL_k hu (o := 0) 0 rfl) 0 (by decide) rfl fl_RX8_12 (u + 1) (okL_r hu (o := 0) (c := 1) 0 rfl 0 rfl) ?_
    refine k_getI G kc5 (dc d_Tw_forgive 13 rfl) (okL_lt hu (o := 1) 1 rfl) (okL_k hu (o := 1) 1 rfl) 11 (by decide) rfl fl_RX8_96 ?_
    obtain ⟨M7, e6, h⟩ := kOk_b h
    refine k_putI G kc5 (dc d_Tw_forgive 14 rfl) (okL_lt hu (o := 1) 1 rfl) (okL_k hu (o := 1) 1 rfl) 13 (by decide) rfl rfl fl_RX8_157 rfl rfl e6 ?_
    refine k_aload_n G (dc d_Tw_forgive 15 rfl) 0 rfl rfl ?_
    obtain ⟨x9, e8, h⟩ := kOk_b h
    refine k_cVI G (dc d_Tw_forgive 16 rfl) kc6 (okL_lt hu (o := 0) 0 rfl) (okL_k hu (o := 0) 0 rfl) mi_Tw_wrongSigns mv_Tw_wrongSigns rfl ml_RX8_163 (c_Tw_wrongSigns (gst G) hu e8) rfl rfl ⟨rfl, rfl⟩ rfl ⟨rfl, rfl⟩ ⟨rfl, rfl⟩ ?_
    exact (kOk_s h) _ _ _ _ rfl rfl rfl (dc d_Tw_forgive 17 rfl)
  · replace h := kOk_p c3 h
    refine k_iconst G (dc d_Tw_forgive 3 rfl) cI_m1 ?_
    exact (kOk_s h) _ _ _ _ rfl rfl rfl (dc d_Tw_forgive 4 rfl)
theorem c_Tw_forgive {l : Launch} {B : KB} {L : KLay} {M : KMem} {u : Nat} {p0 : Int32} (hst : l.stackTraces = false) (hu : okL L u twT) {r : Int32} {M' : KMem} (e : m_Tw_forgive u p0 M = some (r, M')) : CtrN l B yX8_forgive cX8_forgive 2 (some .int) rm_Tw_forgive [.ref (B.1 + u), .int p0] L M (some (.int r)) L M' :=
  mk_I rfl hst rfl (fun X hl G _ R => b_Tw_forgive G hu ⟨_, e, R⟩)
def I_Tw_signsPaidBy : List (Nat × Instr × Nat) := [(0, .iload_n 1, 1), (1, .istore_n 2, 1), (2, .iconst 0, 1), (3, .istore_n 3, 1), (4, .iconst 1, 1), (5, .istore 4, 2), (7, .iload 4, 2), (9, .bipush 8, 2), (11, .if_icmp .gt 73, 3), (14, .iload 4, 2), (16, .aload_n 0, 1), (17, .getfield 12, 3), (20, .getfield 58, 3), (23, .iconst 0, 1), (24, .iaload, 1), (25, .imul, 1), (26, .istore 5, 2), (28, .iconst 0, 1), (29, .istore 6, 2), (31, .iload 6, 2), (33, .bipush 8, 2), (35, .if_icmp .ge 43, 3), (38, .aload_n 0, 1), (39, .iload 6, 2), (41, .invokevirtual 40, 3), (44, .ifCond .eq 34, 3), (47, .aload_n 0, 1), (48, .iload 6, 2), (50, .invokevirtual 54, 3), (53, .iload 4, 2), (55, .if_icmp .ne 17, 3), (58, .iload 5, 2), (60, .iload_n 2, 1), (61, .if_icmp .gt 11, 3), (64, .iload_n 2, 1), (65, .iload 5, 2), (67, .isub, 1), (68, .istore_n 2, 1), (69, .iinc 3 1, 3), (72, .iinc 6 1, 3), (75, .goto (-44), 3), (78, .iinc 4 1, 3), (81, .goto (-74), 3), (84, .iload_n 3, 1), (85, .ireturn, 1)]
set_option maxRecDepth 100000 in
theorem d_Tw_signsPaidBy : decA cX8_signsPaidBy I_Tw_signsPaidBy = true := by decide +kernel
abbrev rm_Tw_signsPaidBy : Room := ({ frames := 4, cells := 0, slots := 0, locals := 94 } : Room)
def m_Tw_signsPaidBy_l31 (u : Nat) (v4_3 : Int32) (x7 : Int32) : (Int32 × Int32 × Int32 × KMem) → Option ((Int32 × Int32 × Int32 × KMem) ⊕ (Int32 × Int32 × KMem)) := fun (v2_8, v3_9, v6_10, M11) =>
 if 8 ≤ v6_10 then
 (some (.inr (v2_8, v3_9, M11)))
 else
 (Option.bind (m_Tw_hasSign u v6_10 M11) fun x14 =>
 if x14 = 0 then
 (some (.inr (v2_8, v3_9, M11)))
 else
 (Option.bind (m_Tw_lettersWrong u v6_10 M11) fun (x17, M18) =>
 Option.bind (α := Int32 × Int32) (if x17 = v4_3 then
 (if v2_8 < (v4_3 * x7) then
 (some (v2_8, v3_9))
 else
 (some (v2_8 - (v4_3 * x7), v3_9 + 1)))
 else
 (some (v2_8, v3_9))) fun (v2_19, v3_20) =>
 some (.inl (v2_19, v3_20, v6_10 + 1, M18))))
def m_Tw_signsPaidBy_l7 (u : Nat) : (Int32 × Int32 × Int32 × KMem) → Option ((Int32 × Int32 × Int32 × KMem) ⊕ (Int32 × KMem)) := fun (v2_1, v3_2, v4_3, M4) =>
 if 8 < v4_3 then
 (some (.inr (v3_2, M4)))
 else
 (Option.bind (rdI M4 (u + 12) 2 0) fun x7 =>
 Option.bind (α := Int32 × Int32 × KMem) (kLp (m_Tw_signsPaidBy_l31 u v4_3 x7) kFU (v2_1, v3_2, 0, M4)) fun (v2_24, v3_25, M26) =>
 some (.inl (v2_24, v3_25, v4_3 + 1, M26)))
def m_Tw_signsPaidBy (u : Nat) (p0 : Int32) (M : KMem) : Option (Int32 × KMem) :=
 Option.bind (α := Int32 × KMem) (kLp (m_Tw_signsPaidBy_l7 u) kFU (p0, 0, 1, M)) fun (v3_29, M30) =>
 some (v3_29, M30)
set_option maxHeartbeats 4000000 in
set_option maxRecDepth 100000 in
theorem b_Tw_signsPaidBy {X : KX} {B : KB} {L : KLay} {M : KMem} {u : Nat} {p0 : Int32} (G : Good X B RX8 cX8_signsPaidBy 7 rm_Tw_signsPaidBy) (hu : okL L u twT) (h : kOk (m_Tw_signsPaidBy u p0 M) (fun r => RI X B L 7 cX8_signsPaidBy .int rm_Tw_signsPaidBy r.1 r.2)) : KK X B L 7 0 0 M 0 [(0, .ref (B.1 + u)), (1, .int p0)] [] := by
  unfold m_Tw_signsPaidBy at h
  refine k_iload_n G (dc d_Tw_signsPaidBy 0 rfl) 1 rfl rfl ?_
  refine k_istore_n G (dc d_Tw_signsPaidBy 1 rfl) (ls' := [(2, .int p0), (0, .ref (B.1 + u)), (1, .int p0)]) rfl rfl rfl ?_
  refine k_iconst G (dc d_Tw_signsPaidBy 2 rfl) cI_0 ?_
  refine k_istore_n G (dc d_Tw_signsPaidBy 3 rfl) (ls' := [(3, .int 0), (2, .int p0), (0, .ref (B.1 + u)), (1, .int p0)]) rfl rfl rfl ?_
  refine k_iconst G (dc d_Tw_signsPaidBy 4 rfl) cI_1 ?_
  refine k_istore G (dc d_Tw_signsPaidBy 5 rfl) (ls' := [(4, .int 1), (3, .int 0), (2, .int p0), (0, .ref (B.1 + u)), (1, .int p0)]) rfl rfl ?_
  refine kJ h (fun r31 => KK X B L 7 0 0 r31.2 84 [(3, .int r31.1)] []) (fun r31 h => ?_) (fun h => ?_)
  · obtain ⟨v3_29, M30⟩ := r31
    show KK X B L 7 0 0 M30 84 [(3, .int v3_29)] []
    refine k_iload_n G (dc d_Tw_signsPaidBy 43 rfl) 0 rfl rfl ?_
    exact (kOk_s h) _ _ _ _ rfl rfl rfl (dc d_Tw_signsPaidBy 44 rfl)
  · refine k_sub [3, 2, 1, 0] rfl ?_
    refine kLp_ok (P := fun s32 => KK X B L 7 0 0 s32.2.2.2 7 [(0, .ref (B.1 + u)), (2, .int s32.1), (3, .int s32.2.1), (4, .int s32.2.2.1)] []) (fun s32 h => ?_) kFU _ h
    obtain ⟨v2_1, v3_2, v4_3, M4⟩ := s32
    unfold m_Tw_signsPaidBy_l7 at h
    show KK X B L 7 0 0 M4 7 [(0, .ref (B.1 + u)), (2, .int v2_1), (3, .int v3_2), (4, .int v4_3)] []
    refine k_iload G (dc d_Tw_signsPaidBy 6 rfl) 3 rfl ?_
    refine k_bipush G (dc d_Tw_signsPaidBy 7 rfl) cB_8 ?_
    refine k_icmp_gt G (dc d_Tw_signsPaidBy 8 rfl) (tgt := 84) rfl (fun c5 => ?_) (fun c5 => ?_)
    · replace h := kOk_p c5 h
      refine k_sub [2] rfl ?_
      have h9 := kOk_s h
      exact h9
    · replace h := kOk_n c5 h
      refine k_iload G (dc d_Tw_signsPaidBy 9 rfl) 3 rfl ?_
      refine k_aload_n G (dc d_Tw_signsPaidBy 10 rfl) 0 rfl rfl ?_
      refine k_getR G kc6 (dc d_Tw_signsPaidBy 11 rfl) (okL_lt hu (o := 0) 0 rfl) (okL_k hu (o := 0) 0 rfl) 0 (by decide) rfl fl_RX8_12 (u + 1) (okL_r hu (o := 0) (c := 1) 0 rfl 0 rfl) ?_
      refine k_getR G kc5 (dc d_Tw_signsPaidBy 12 rfl) (okL_lt hu (o := 1) 1 rfl) (okL_k hu (o := 1) 1 rfl) 10 (by decide) rfl fl_RX8_58 (u + 12) (okL_r hu (o := 1) (c := 12) 1 rfl 9 rfl) ?_
      refine k_iconst G (dc d_Tw_signsPaidBy 13 rfl) cI_0 ?_
      obtain ⟨x7, e6, h⟩ := kOk_b h
      refine k_ild G (dc d_Tw_signsPaidBy 14 rfl) (okL_lt hu (o := 12) 12 rfl) (okL_k hu (o := 12) 12 rfl) (okL_n hu (o := 12) 12 rfl) e6 ?_
      refine k_imul G (dc d_Tw_signsPaidBy 15 rfl) ?_
      refine k_istore G (dc d_Tw_signsPaidBy 16 rfl) (ls' := [(5, .int (v4_3 * x7)), (0, .ref (B.1 + u)), (2, .int v2_1), (3, .int v3_2), (4, .int v4_3)]) rfl rfl ?_
      refine k_iconst G (dc d_Tw_signsPaidBy 17 rfl) cI_0 ?_
      refine k_istore G (dc d_Tw_signsPaidBy 18 rfl) (ls' := [(6, .int 0), (5, .int (v4_3 * x7)), (0, .ref (B.1 + u)), (2, .int v2_1), (3, .int v3_2), (4, .int v4_3)]) rfl rfl ?_
      refine kJ h (fun r27 => KK X B L 7 0 0 r27.2.2 78 [(0, .ref (B.1 + u)), (2, .int r27.1), (3, .int r27.2.1), (4, .int v4_3)] []) (fun r27 h => ?_) (fun h => ?_)
      · obtain ⟨v2_24, v3_25, M26⟩ := r27
        show KK X B L 7 0 0 M26 78 [(0, .ref (B.1 + u)), (2, .int v2_24), (3, .int v3_25), (4, .int v4_3)] []
        refine k_iinc G (dc d_Tw_signsPaidBy 41 rfl) (ls' := [(4, .int (v4_3 + 1)), (0, .ref (B.1 + u)), (2, .int v2_24), (3, .int v3_25)]) 3 rfl cI_1 rfl rfl ?_
        refine k_goto G (dc d_Tw_signsPaidBy 42 rfl) (tgt := 7) rfl ?_
        refine k_sub [1, 2, 3, 0] rfl ?_
        have h9 := kOk_s h
        exact h9
      · refine k_sub [2, 3, 4, 5, 1, 0] rfl ?_
        refine kLp_ok (P := fun s28 => KK X B L 7 0 0 s28.2.2.2 31 [(0, .ref (B.1 + u)), (2, .int s28.1), (3, .int s28.2.1), (4, .int v4_3), (5, .int (v4_3 * x7)), (6, .int s28.2.2.1)] []) (fun s28 h => ?_) kFU _ h
        obtain ⟨v2_8, v3_9, v6_10, M11⟩ := s28
        unfold m_Tw_signsPaidBy_l31 at h
        show KK X B L 7 0 0 M11 31 [(0, .ref (B.1 + u)), (2, .int v2_8), (3, .int v3_9), (4, .int v4_3), (5, .int (v4_3 * x7)), (6, .int v6_10)] []
        refine k_iload G (dc d_Tw_signsPaidBy 19 rfl) 5 rfl ?_
        refine k_bipush G (dc d_Tw_signsPaidBy 20 rfl) cB_8 ?_
        refine k_icmp_ge G (dc d_Tw_signsPaidBy 21 rfl) (tgt := 78) rfl (fun c12 => ?_) (fun c12 => ?_)
        · replace h := kOk_p c12 h
          refine k_sub [0, 1, 2, 3] rfl ?_
          have h9 := kOk_s h
          exact h9
        · replace h := kOk_n c12 h
          refine k_aload_n G (dc d_Tw_signsPaidBy 22 rfl) 0 rfl rfl ?_
          refine k_iload G (dc d_Tw_signsPaidBy 23 rfl) 5 rfl ?_
          obtain ⟨x14, e13, h⟩ := kOk_b h
          refine k_cVI G (dc d_Tw_signsPaidBy 24 rfl) kc6 (okL_lt hu (o := 0) 0 rfl) (okL_k hu (o := 0) 0 rfl) mi_Tw_hasSign mv_Tw_hasSign rfl ml_RX8_40 (c_Tw_hasSign (gst G) hu e13) rfl rfl ⟨rfl, rfl⟩ rfl ⟨rfl, rfl⟩ ⟨rfl, rfl⟩ ?_
          refine k_if_eq G (dc d_Tw_signsPaidBy 25 rfl) (tgt := 78) rfl (fun c15 => ?_) (fun c15 => ?_)
          · replace h := kOk_p c15 h
            refine k_sub [0, 1, 2, 3] rfl ?_
            have h9 := kOk_s h
            exact h9
          · replace h := kOk_n c15 h
            refine k_aload_n G (dc d_Tw_signsPaidBy 26 rfl) 0 rfl rfl ?_
            refine k_iload G (dc d_Tw_signsPaidBy 27 rfl) 5 rfl ?_
            obtain ⟨⟨x17, M18⟩, e16, h⟩ := kOk_b h
            refine k_cVI G (dc d_Tw_signsPaidBy 28 rfl) kc6 (okL_lt hu (o := 0) 0 rfl) (okL_k hu (o := 0) 0 rfl) mi_Tw_lettersWrong mv_Tw_lettersWrong rfl ml_RX8_54 (c_Tw_lettersWrong (gst G) hu e16) rfl rfl ⟨rfl, rfl⟩ rfl ⟨rfl, rfl⟩ ⟨rfl, rfl⟩ ?_
            refine k_iload G (dc d_Tw_signsPaidBy 29 rfl) 3 rfl ?_
            refine kJ h (fun r21 => KK X B L 7 0 0 M18 72 [(0, .ref (B.1 + u)), (2, .int r21.1), (3, .int r21.2), (4, .int v4_3), (5, .int (v4_3 * x7)), (6, .int v6_10)] []) (fun r21 h => ?_) (fun h => ?_)
            · obtain ⟨v2_19, v3_20⟩ := r21
              show KK X B L 7 0 0 M18 72 [(0, .ref (B.1 + u)), (2, .int v2_19), (3, .int v3_20), (4, .int v4_3), (5, .int (v4_3 * x7)), (6, .int v6_10)] []
              refine k_iinc G (dc d_Tw_signsPaidBy 39 rfl) (ls' := [(6, .int (v6_10 + 1)), (0, .ref (B.1 + u)), (2, .int v2_19), (3, .int v3_20), (4, .int v4_3), (5, .int (v4_3 * x7))]) 5 rfl cI_1 rfl rfl ?_
              refine k_goto G (dc d_Tw_signsPaidBy 40 rfl) (tgt := 31) rfl ?_
              refine k_sub [1, 2, 3, 4, 5, 0] rfl ?_
              have h9 := kOk_s h
              exact h9
            · refine k_icmp_ne G (dc d_Tw_signsPaidBy 30 rfl) (tgt := 72) rfl (fun c22 => ?_) (fun c22 => ?_)
              · replace h := kOk_n c22 h
                have h9 := kOk_s h
                exact h9
              · replace h := kOk_p c22 h
                refine k_iload G (dc d_Tw_signsPaidBy 31 rfl) 4 rfl ?_
                refine k_iload_n G (dc d_Tw_signsPaidBy 32 rfl) 1 rfl rfl ?_
                refine k_icmp_gt G (dc d_Tw_signsPaidBy 33 rfl) (tgt := 72) rfl (fun c23 => ?_) (fun c23 => ?_)
                · replace h := kOk_p c23 h
                  have h9 := kOk_s h
                  exact h9
                · replace h := kOk_n c23 h
                  refine k_iload_n G (dc d_Tw_signsPaidBy 34 rfl) 1 rfl rfl ?_
                  refine k_iload G (dc d_Tw_signsPaidBy 35 rfl) 4 rfl ?_
                  refine k_isub G (dc d_Tw_signsPaidBy 36 rfl) ?_
                  refine k_istore_n G (dc d_Tw_signsPaidBy 37 rfl) (ls' := [(2, .int (v2_8 - (v4_3 * x7))), (0, .ref (B.1 + u)), (3, .int v3_9), (4, .int v4_3), (5, .int (v4_3 * x7)), (6, .int v6_10)]) rfl rfl rfl ?_
                  refine k_iinc G (dc d_Tw_signsPaidBy 38 rfl) (ls' := [(3, .int (v3_9 + 1)), (2, .int (v2_8 - (v4_3 * x7))), (0, .ref (B.1 + u)), (4, .int v4_3), (5, .int (v4_3 * x7)), (6, .int v6_10)]) 2 rfl cI_1 rfl rfl ?_
                  refine k_sub [2, 1, 0, 3, 4, 5] rfl ?_
                  have h9 := kOk_s h
                  exact h9
theorem c_Tw_signsPaidBy {l : Launch} {B : KB} {L : KLay} {M : KMem} {u : Nat} {p0 : Int32} (hst : l.stackTraces = false) (hu : okL L u twT) {r : Int32} {M' : KMem} (e : m_Tw_signsPaidBy u p0 M = some (r, M')) : CtrN l B yX8_signsPaidBy cX8_signsPaidBy 7 (some .int) rm_Tw_signsPaidBy [.ref (B.1 + u), .int p0] L M (some (.int r)) L M' :=
  mk_I rfl hst rfl (fun X hl G _ R => b_Tw_signsPaidBy G hu ⟨_, e, R⟩)
def I_Tw_monthsTillFinesAreMore : List (Nat × Instr × Nat) := [(0, .aload_n 0, 1), (1, .iload_n 1, 1), (2, .invokevirtual 40, 3), (5, .ifCond .eq 11, 3), (8, .aload_n 0, 1), (9, .iload_n 1, 1), (10, .invokevirtual 151, 3), (13, .ifCond .ne 5, 3), (16, .iconst (-1), 1), (17, .ireturn, 1), (18, .aload_n 0, 1), (19, .iload_n 1, 1), (20, .invokevirtual 132, 3), (23, .istore_n 2, 1), (24, .iconst 0, 1), (25, .istore_n 3, 1), (26, .iconst 1, 1), (27, .istore 4, 2), (29, .iload 4, 2), (31, .sipush 200, 3), (34, .if_icmp .gt 41, 3), (37, .iload 4, 2), (39, .aload_n 0, 1), (40, .getfield 12, 3), (43, .getfield 145, 3), (46, .if_icmp .le 15, 3), (49, .iload_n 3, 1), (50, .aload_n 0, 1), (51, .getfield 12, 3), (54, .getfield 58, 3), (57, .iconst 1, 1), (58, .iaload, 1), (59, .iadd, 1), (60, .istore_n 3, 1), (61, .iload_n 3, 1), (62, .iload_n 2, 1), (63, .if_icmp .le 6, 3), (66, .iload 4, 2), (68, .ireturn, 1), (69, .iinc 4 1, 3), (72, .goto (-43), 3), (75, .iconst (-1), 1), (76, .ireturn, 1)]
set_option maxRecDepth 100000 in
theorem d_Tw_monthsTillFinesAreMore : decA cX8_monthsTillFinesAreMore I_Tw_monthsTillFinesAreMore = true := by decide +kernel
abbrev rm_Tw_monthsTillFinesAreMore : Room := ({ frames := 5, cells := 0, slots := 0, locals := 115 } : Room)
def m_Tw_monthsTillFinesAreMore_l29 (u : Nat) (x8 : Int32) (M9 : KMem) : (Int32 × Int32) → Option ((Int32 × Int32) ⊕ ((Int32 × KMem) ⊕ Unit)) := fun (v3_10, v4_11) =>
 if 200 < v4_11 then
 (some (.inr (.inr ())))
 else
 (Option.bind (α := Int32) (if v4_11 ≤ (M9 (u + 1) 12) then
 (some v3_10)
 else
 (Option.bind (rdI M9 (u + 12) 2 1) fun x18 =>
 some (v3_10 + x18))) fun v3_13 =>
 if v3_13 ≤ x8 then
 (some (.inl (v3_13, v4_11 + 1)))
 else
 (some (.inr (.inl (v4_11, M9)))))
def m_Tw_monthsTillFinesAreMore (u : Nat) (p0 : Int32) (M : KMem) : Option (Int32 × KMem) :=
 Option.bind (m_Tw_hasSign u p0 M) fun x2 =>
 if x2 = 0 then
 (some ((-1), M))
 else
 (Option.bind (m_Tw_isWrong u p0 M) fun x5 =>
 if x5 = 0 then
 (some ((-1), M))
 else
 (Option.bind (m_Tw_costOf u p0 M) fun (x8, M9) =>
 Option.bind (α := (Int32 × KMem) ⊕ Unit) (kLp (m_Tw_monthsTillFinesAreMore_l29 u x8 M9) kFU (0, 1)) fun r => match r with
 | .inl q => some q
 | .inr _ =>
 (some ((-1), M9))))
set_option maxHeartbeats 4000000 in
set_option maxRecDepth 100000 in
theorem b_Tw_monthsTillFinesAreMore {X : KX} {B : KB} {L : KLay} {M : KMem} {u : Nat} {p0 : Int32} (G : Good X B RX8 cX8_monthsTillFinesAreMore 5 rm_Tw_monthsTillFinesAreMore) (hu : okL L u twT) (h : kOk (m_Tw_monthsTillFinesAreMore u p0 M) (fun r => RI X B L 5 cX8_monthsTillFinesAreMore .int rm_Tw_monthsTillFinesAreMore r.1 r.2)) : KK X B L 5 0 0 M 0 [(0, .ref (B.1 + u)), (1, .int p0)] [] := by
  unfold m_Tw_monthsTillFinesAreMore at h
  refine k_aload_n G (dc d_Tw_monthsTillFinesAreMore 0 rfl) 0 rfl rfl ?_
  refine k_iload_n G (dc d_Tw_monthsTillFinesAreMore 1 rfl) 1 rfl rfl ?_
  obtain ⟨x2, e1, h⟩ := kOk_b h
  refine k_cVI G (dc d_Tw_monthsTillFinesAreMore 2 rfl) kc6 (okL_lt hu (o := 0) 0 rfl) (okL_k hu (o := 0) 0 rfl) mi_Tw_hasSign mv_Tw_hasSign rfl ml_RX8_40 (c_Tw_hasSign (gst G) hu e1) rfl rfl ⟨rfl, rfl⟩ rfl ⟨rfl, rfl⟩ ⟨rfl, rfl⟩ ?_
  refine k_if_eq G (dc d_Tw_monthsTillFinesAreMore 3 rfl) (tgt := 16) rfl (fun c3 => ?_) (fun c3 => ?_)
  · replace h := kOk_p c3 h
    refine k_iconst G (dc d_Tw_monthsTillFinesAreMore 8 rfl) cI_m1 ?_
    exact (kOk_s h) _ _ _ _ rfl rfl rfl (dc d_Tw_monthsTillFinesAreMore 9 rfl)
  · replace h := kOk_n c3 h
    refine k_aload_n G (dc d_Tw_monthsTillFinesAreMore 4 rfl) 0 rfl rfl ?_
    refine k_iload_n G (dc d_Tw_monthsTillFinesAreMore 5 rfl) 1 rfl rfl ?_
    obtain ⟨x5, e4, h⟩ := kOk_b h
    refine k_cVI G (dc d_Tw_monthsTillFinesAreMore 6 rfl) kc6 (okL_lt hu (o := 0) 0 rfl) (okL_k hu (o := 0) 0 rfl) mi_Tw_isWrong mv_Tw_isWrong rfl ml_RX8_151 (c_Tw_isWrong (gst G) hu e4) rfl rfl ⟨rfl, rfl⟩ rfl ⟨rfl, rfl⟩ ⟨rfl, rfl⟩ ?_
    refine k_if_ne G (dc d_Tw_monthsTillFinesAreMore 7 rfl) (tgt := 18) rfl (fun c6 => ?_) (fun c6 => ?_)
    · replace h := kOk_n c6 h
      refine k_aload_n G (dc d_Tw_monthsTillFinesAreMore 10 rfl) 0 rfl rfl ?_
      refine k_iload_n G (dc d_Tw_monthsTillFinesAreMore 11 rfl) 1 rfl rfl ?_
      obtain ⟨⟨x8, M9⟩, e7, h⟩ := kOk_b h
      refine k_cVI G (dc d_Tw_monthsTillFinesAreMore 12 rfl) kc6 (okL_lt hu (o := 0) 0 rfl) (okL_k hu (o := 0) 0 rfl) mi_Tw_costOf mv_Tw_costOf rfl ml_RX8_132 (c_Tw_costOf (gst G) hu e7) rfl rfl ⟨rfl, rfl⟩ rfl ⟨rfl, rfl⟩ ⟨rfl, rfl⟩ ?_
      refine k_istore_n G (dc d_Tw_monthsTillFinesAreMore 13 rfl) (ls' := [(2, .int x8), (0, .ref (B.1 + u)), (1, .int p0)]) rfl rfl rfl ?_
      refine k_iconst G (dc d_Tw_monthsTillFinesAreMore 14 rfl) cI_0 ?_
      refine k_istore_n G (dc d_Tw_monthsTillFinesAreMore 15 rfl) (ls' := [(3, .int 0), (2, .int x8), (0, .ref (B.1 + u)), (1, .int p0)]) rfl rfl rfl ?_
      refine k_iconst G (dc d_Tw_monthsTillFinesAreMore 16 rfl) cI_1 ?_
      refine k_istore G (dc d_Tw_monthsTillFinesAreMore 17 rfl) (ls' := [(4, .int 1), (3, .int 0), (2, .int x8), (0, .ref (B.1 + u)), (1, .int p0)]) rfl rfl ?_
      refine kJ h (fun r19 => match r19 with | .inl q => RI X B L 5 cX8_monthsTillFinesAreMore .int rm_Tw_monthsTillFinesAreMore q.1 q.2 | .inr r19 => KK X B L 5 0 0 M9 75 [] []) (fun r19 h => ?_) (fun h => ?_)
      · rcases r19 with q | r19
        · have h9 := kOk_s h
          exact h9
        · show KK X B L 5 0 0 M9 75 [] []
          refine k_iconst G (dc d_Tw_monthsTillFinesAreMore 41 rfl) cI_m1 ?_
          exact (kOk_s h) _ _ _ _ rfl rfl rfl (dc d_Tw_monthsTillFinesAreMore 42 rfl)
      · refine k_sub [3, 2, 1, 0] rfl ?_
        refine kLp_ok (P := fun s20 => KK X B L 5 0 0 M9 29 [(0, .ref (B.1 + u)), (2, .int x8), (3, .int s20.1), (4, .int s20.2)] []) (fun s20 h => ?_) kFU _ h
        obtain ⟨v3_10, v4_11⟩ := s20
        unfold m_Tw_monthsTillFinesAreMore_l29 at h
        show KK X B L 5 0 0 M9 29 [(0, .ref (B.1 + u)), (2, .int x8), (3, .int v3_10), (4, .int v4_11)] []
        refine k_iload G (dc d_Tw_monthsTillFinesAreMore 18 rfl) 3 rfl ?_
        refine k_sipush G (dc d_Tw_monthsTillFinesAreMore 19 rfl) cS_200 ?_
        refine k_icmp_gt G (dc d_Tw_monthsTillFinesAreMore 20 rfl) (tgt := 75) rfl (fun c12 => ?_) (fun c12 => ?_)
        · replace h := kOk_p c12 h
          refine k_sub [] rfl ?_
          have h9 := kOk_s h
          exact h9
        · replace h := kOk_n c12 h
          refine k_iload G (dc d_Tw_monthsTillFinesAreMore 21 rfl) 3 rfl ?_
          refine k_aload_n G (dc d_Tw_monthsTillFinesAreMore 22 rfl) 0 rfl rfl ?_
          refine k_getR G kc6 (dc d_Tw_monthsTillFinesAreMore 23 rfl) (okL_lt hu (o := 0) 0 rfl) (okL_k hu (o := 0) 0 rfl) 0 (by decide) rfl fl_RX8_12 (u + 1) (okL_r hu (o := 0) (c := 1) 0 rfl 0 rfl) ?_
          refine k_getI G kc5 (dc d_Tw_monthsTillFinesAreMore 24 rfl) (okL_lt hu (o := 1) 1 rfl) (okL_k hu (o := 1) 1 rfl) 12 (by decide) rfl fl_RX8_145 ?_
          refine kJ h (fun r14 => KK X B L 5 0 0 M9 61 [(0, .ref (B.1 + u)), (2, .int x8), (3, .int r14), (4, .int v4_11)] []) (fun r14 h => ?_) (fun h => ?_)
          · obtain ⟨v3_13, rfl⟩ : ∃ z, z = r14 := ⟨_, rfl⟩
            show KK X B L 5 0 0 M9 61 [(0, .ref (B.1 + u)), (2, .int x8), (3, .int v3_13), (4, .int v4_11)] []
            refine k_iload_n G (dc d_Tw_monthsTillFinesAreMore 34 rfl) 2 rfl rfl ?_
            refine k_iload_n G (dc d_Tw_monthsTillFinesAreMore 35 rfl) 1 rfl rfl ?_
            refine k_icmp_le G (dc d_Tw_monthsTillFinesAreMore 36 rfl) (tgt := 69) rfl (fun c15 => ?_) (fun c15 => ?_)
            · replace h := kOk_p c15 h
              refine k_iinc G (dc d_Tw_monthsTillFinesAreMore 39 rfl) (ls' := [(4, .int (v4_11 + 1)), (0, .ref (B.1 + u)), (2, .int x8), (3, .int v3_13)]) 3 rfl cI_1 rfl rfl ?_
              refine k_goto G (dc d_Tw_monthsTillFinesAreMore 40 rfl) (tgt := 29) rfl ?_
              refine k_sub [1, 2, 3, 0] rfl ?_
              have h9 := kOk_s h
              exact h9
            · replace h := kOk_n c15 h
              refine k_iload G (dc d_Tw_monthsTillFinesAreMore 37 rfl) 3 rfl ?_
              exact (kOk_s h) _ _ _ _ rfl rfl rfl (dc d_Tw_monthsTillFinesAreMore 38 rfl)
          · refine k_icmp_le G (dc d_Tw_monthsTillFinesAreMore 25 rfl) (tgt := 61) rfl (fun c16 => ?_) (fun c16 => ?_)
            · replace h := kOk_p c16 h
              have h9 := kOk_s h
              exact h9
            · replace h := kOk_n c16 h
              refine k_iload_n G (dc d_Tw_monthsTillFinesAreMore 26 rfl) 2 rfl rfl ?_
              refine k_aload_n G (dc d_Tw_monthsTillFinesAreMore 27 rfl) 0 rfl rfl ?_
              refine k_getR G kc6 (dc d_Tw_monthsTillFinesAreMore 28 rfl) (okL_lt hu (o := 0) 0 rfl) (okL_k hu (o := 0) 0 rfl) 0 (by decide) rfl fl_RX8_12 (u + 1) (okL_r hu (o := 0) (c := 1) 0 rfl 0 rfl) ?_
              refine k_getR G kc5 (dc d_Tw_monthsTillFinesAreMore 29 rfl) (okL_lt hu (o := 1) 1 rfl) (okL_k hu (o := 1) 1 rfl) 10 (by decide) rfl fl_RX8_58 (u + 12) (okL_r hu (o := 1) (c := 12) 1 rfl 9 rfl) ?_
              refine k_iconst G (dc d_Tw_monthsTillFinesAreMore 30 rfl) cI_1 ?_
              obtain ⟨x18, e17, h⟩ := kOk_b h
              refine k_ild G (dc d_Tw_monthsTillFinesAreMore 31 rfl) (okL_lt hu (o := 12) 12 rfl) (okL_k hu (o := 12) 12 rfl) (okL_n hu (o := 12) 12 rfl) e17 ?_
              refine k_iadd G (dc d_Tw_monthsTillFinesAreMore 32 rfl) ?_
              refine k_istore_n G (dc d_Tw_monthsTillFinesAreMore 33 rfl) (ls' := [(3, .int (v3_10 + x18)), (0, .ref (B.1 + u)), (2, .int x8), (4, .int v4_11)]) rfl rfl rfl ?_
              refine k_sub [1, 2, 0, 3] rfl ?_
              have h9 := kOk_s h
              exact h9
    · replace h := kOk_p c6 h
      refine k_iconst G (dc d_Tw_monthsTillFinesAreMore 8 rfl) cI_m1 ?_
      exact (kOk_s h) _ _ _ _ rfl rfl rfl (dc d_Tw_monthsTillFinesAreMore 9 rfl)
theorem c_Tw_monthsTillFinesAreMore {l : Launch} {B : KB} {L : KLay} {M : KMem} {u : Nat} {p0 : Int32} (hst : l.stackTraces = false) (hu : okL L u twT) {r : Int32} {M' : KMem} (e : m_Tw_monthsTillFinesAreMore u p0 M = some (r, M')) : CtrN l B yX8_monthsTillFinesAreMore cX8_monthsTillFinesAreMore 5 (some .int) rm_Tw_monthsTillFinesAreMore [.ref (B.1 + u), .int p0] L M (some (.int r)) L M' :=
  mk_I rfl hst rfl (fun X hl G _ R => b_Tw_monthsTillFinesAreMore G hu ⟨_, e, R⟩)
def I_Tw_lettersOf : List (Nat × Instr × Nat) := [(0, .iconst 0, 1), (1, .istore_n 2, 1), (2, .iconst 0, 1), (3, .istore_n 3, 1), (4, .iload_n 3, 1), (5, .aload_n 1, 1), (6, .arraylength, 1), (7, .if_icmp .ge 26, 3), (10, .aload_n 0, 1), (11, .iload_n 3, 1), (12, .invokevirtual 40, 3), (15, .ifCond .eq 18, 3), (18, .iload_n 2, 1), (19, .aload_n 1, 1), (20, .iload_n 3, 1), (21, .iaload, 1), (22, .invokestatic 173, 3), (25, .iadd, 1), (26, .istore_n 2, 1), (27, .iinc 3 1, 3), (30, .goto (-26), 3), (33, .iload_n 2, 1), (34, .ireturn, 1)]
set_option maxRecDepth 100000 in
theorem d_Tw_lettersOf : decA cX8_lettersOf I_Tw_lettersOf = true := by decide +kernel
abbrev rm_Tw_lettersOf : Room := ({ frames := 1, cells := 0, slots := 0, locals := 23 } : Room)
def m_Tw_lettersOf_l4 (u : Nat) (p0 : Nat) (p0n : Nat) (M : KMem) : (Int32 × Int32) → Option ((Int32 × Int32) ⊕ Int32) := fun (v2_1, v3_2) =>
 if (Int32.ofNat p0n) ≤ v3_2 then
 (some (.inr v2_1))
 else
 (Option.bind (m_Tw_hasSign u v3_2 M) fun x5 =>
 if x5 = 0 then
 (some (.inr v2_1))
 else
 (Option.bind (rdI M p0 p0n v3_2) fun x8 =>
 Option.bind (m_Wo_letters x8) fun x10 =>
 some (.inl (v2_1 + x10, v3_2 + 1))))
def m_Tw_lettersOf (u : Nat) (p0 : Nat) (p0n : Nat) (M : KMem) : Option Int32 :=
 Option.bind (α := Int32) (kLp (m_Tw_lettersOf_l4 u p0 p0n M) kFU (0, 0)) fun v2_11 =>
 some v2_11
set_option maxHeartbeats 4000000 in
set_option maxRecDepth 100000 in
theorem b_Tw_lettersOf {X : KX} {B : KB} {L : KLay} {M : KMem} {u : Nat} {p0 : Nat} {p0n : Nat} (G : Good X B RX8 cX8_lettersOf 4 rm_Tw_lettersOf) (hu : okL L u twT) (hp0 : arL L p0 9 p0n) (h : kOk (m_Tw_lettersOf u p0 p0n M) (fun r => RI X B L 4 cX8_lettersOf .int rm_Tw_lettersOf r M)) : KK X B L 4 0 0 M 0 [(0, .ref (B.1 + u)), (1, .ref (B.1 + p0))] [] := by
  unfold m_Tw_lettersOf at h
  refine k_iconst G (dc d_Tw_lettersOf 0 rfl) cI_0 ?_
  refine k_istore_n G (dc d_Tw_lettersOf 1 rfl) (ls' := [(2, .int 0), (0, .ref (B.1 + u)), (1, .ref (B.1 + p0))]) rfl rfl rfl ?_
  refine k_iconst G (dc d_Tw_lettersOf 2 rfl) cI_0 ?_
  refine k_istore_n G (dc d_Tw_lettersOf 3 rfl) (ls' := [(3, .int 0), (2, .int 0), (0, .ref (B.1 + u)), (1, .ref (B.1 + p0))]) rfl rfl rfl ?_
  refine kJ h (fun r12 => KK X B L 4 0 0 M 33 [(2, .int r12)] []) (fun r12 h => ?_) (fun h => ?_)
  · obtain ⟨v2_11, rfl⟩ : ∃ z, z = r12 := ⟨_, rfl⟩
    show KK X B L 4 0 0 M 33 [(2, .int v2_11)] []
    refine k_iload_n G (dc d_Tw_lettersOf 21 rfl) 0 rfl rfl ?_
    exact (kOk_s h) _ _ _ _ rfl rfl rfl (dc d_Tw_lettersOf 22 rfl)
  · refine k_sub [2, 3, 1, 0] rfl ?_
    refine kLp_ok (P := fun s13 => KK X B L 4 0 0 M 4 [(0, .ref (B.1 + u)), (1, .ref (B.1 + p0)), (2, .int s13.1), (3, .int s13.2)] []) (fun s13 h => ?_) kFU _ h
    obtain ⟨v2_1, v3_2⟩ := s13
    unfold m_Tw_lettersOf_l4 at h
    show KK X B L 4 0 0 M 4 [(0, .ref (B.1 + u)), (1, .ref (B.1 + p0)), (2, .int v2_1), (3, .int v3_2)] []
    refine k_iload_n G (dc d_Tw_lettersOf 4 rfl) 3 rfl rfl ?_
    refine k_aload_n G (dc d_Tw_lettersOf 5 rfl) 1 rfl rfl ?_
    refine k_len G (dc d_Tw_lettersOf 6 rfl) hp0.1 hp0.2.1 (v := Int32.ofNat p0n) (by rw [hp0.2.2]) ?_
    refine k_icmp_ge G (dc d_Tw_lettersOf 7 rfl) (tgt := 33) rfl (fun c3 => ?_) (fun c3 => ?_)
    · replace h := kOk_p c3 h
      refine k_sub [2] rfl ?_
      have h9 := kOk_s h
      exact h9
    · replace h := kOk_n c3 h
      refine k_aload_n G (dc d_Tw_lettersOf 8 rfl) 0 rfl rfl ?_
      refine k_iload_n G (dc d_Tw_lettersOf 9 rfl) 3 rfl rfl ?_
      obtain ⟨x5, e4, h⟩ := kOk_b h
      refine k_cVI G (dc d_Tw_lettersOf 10 rfl) kc6 (okL_lt hu (o := 0) 0 rfl) (okL_k hu (o := 0) 0 rfl) mi_Tw_hasSign mv_Tw_hasSign rfl ml_RX8_40 (c_Tw_hasSign (gst G) hu e4) rfl rfl ⟨rfl, rfl⟩ rfl ⟨rfl, rfl⟩ ⟨rfl, rfl⟩ ?_
      refine k_if_eq G (dc d_Tw_lettersOf 11 rfl) (tgt := 33) rfl (fun c6 => ?_) (fun c6 => ?_)
      · replace h := kOk_p c6 h
        refine k_sub [2] rfl ?_
        have h9 := kOk_s h
        exact h9
      · replace h := kOk_n c6 h
        refine k_iload_n G (dc d_Tw_lettersOf 12 rfl) 2 rfl rfl ?_
        refine k_aload_n G (dc d_Tw_lettersOf 13 rfl) 1 rfl rfl ?_
        refine k_iload_n G (dc d_Tw_lettersOf 14 rfl) 3 rfl rfl ?_
        obtain ⟨x8, e7, h⟩ := kOk_b h
        refine k_ild G (dc d_Tw_lettersOf 15 rfl) hp0.1 hp0.2.1 hp0.2.2 e7 ?_
        obtain ⟨x10, e9, h⟩ := kOk_b h
        refine k_cSI G (dc d_Tw_lettersOf 16 rfl) mi_Wo_letters ms_Wo_letters ml_RX8_173 (c_Wo_letters (gst G)  e9) rfl rfl ⟨rfl, rfl⟩ rfl ⟨rfl, rfl⟩ ⟨rfl, rfl⟩ ?_
        refine k_iadd G (dc d_Tw_lettersOf 17 rfl) ?_
        refine k_istore_n G (dc d_Tw_lettersOf 18 rfl) (ls' := [(2, .int (v2_1 + x10)), (0, .ref (B.1 + u)), (1, .ref (B.1 + p0)), (3, .int v3_2)]) rfl rfl rfl ?_
        refine k_iinc G (dc d_Tw_lettersOf 19 rfl) (ls' := [(3, .int (v3_2 + 1)), (2, .int (v2_1 + x10)), (0, .ref (B.1 + u)), (1, .ref (B.1 + p0))]) 3 rfl cI_1 rfl rfl ?_
        refine k_goto G (dc d_Tw_lettersOf 20 rfl) (tgt := 4) rfl ?_
        refine k_sub [2, 3, 1, 0] rfl ?_
        have h9 := kOk_s h
        exact h9
theorem c_Tw_lettersOf {l : Launch} {B : KB} {L : KLay} {M : KMem} {u : Nat} {p0 : Nat} {p0n : Nat} (hst : l.stackTraces = false) (hu : okL L u twT) (hp0 : arL L p0 9 p0n) {r : Int32} (e : m_Tw_lettersOf u p0 p0n M = some r) : CtrN l B yX8_lettersOf cX8_lettersOf 4 (some .int) rm_Tw_lettersOf [.ref (B.1 + u), .ref (B.1 + p0)] L M (some (.int r)) L M :=
  mk_I rfl hst rfl (fun X hl G _ R => b_Tw_lettersOf G hu hp0 ⟨_, e, R⟩)
def I_Tw_lettersOfRights : List (Nat × Instr × Nat) := [(0, .aload_n 0, 1), (1, .aload_n 0, 1), (2, .getfield 12, 3), (5, .getfield 47, 3), (8, .invokevirtual 170, 3), (11, .ireturn, 1)]
set_option maxRecDepth 100000 in
theorem d_Tw_lettersOfRights : decA cX8_lettersOfRights I_Tw_lettersOfRights = true := by decide +kernel
abbrev rm_Tw_lettersOfRights : Room := ({ frames := 2, cells := 0, slots := 0, locals := 46 } : Room)
def m_Tw_lettersOfRights (u : Nat) (M : KMem) : Option Int32 :=
 Option.bind (m_Tw_lettersOf u (u + 7) 8 M) fun x2 =>
 some x2
set_option maxHeartbeats 4000000 in
set_option maxRecDepth 100000 in
theorem b_Tw_lettersOfRights {X : KX} {B : KB} {L : KLay} {M : KMem} {u : Nat} (G : Good X B RX8 cX8_lettersOfRights 1 rm_Tw_lettersOfRights) (hu : okL L u twT) (h : kOk (m_Tw_lettersOfRights u M) (fun r => RI X B L 1 cX8_lettersOfRights .int rm_Tw_lettersOfRights r M)) : KK X B L 1 0 0 M 0 [(0, .ref (B.1 + u))] [] := by
  unfold m_Tw_lettersOfRights at h
  refine k_aload_n G (dc d_Tw_lettersOfRights 0 rfl) 0 rfl rfl ?_
  refine k_aload_n G (dc d_Tw_lettersOfRights 1 rfl) 0 rfl rfl ?_
  refine k_getR G kc6 (dc d_Tw_lettersOfRights 2 rfl) (okL_lt hu (o := 0) 0 rfl) (okL_k hu (o := 0) 0 rfl) 0 (by decide) rfl fl_RX8_12 (u + 1) (okL_r hu (o := 0) (c := 1) 0 rfl 0 rfl) ?_
  refine k_getR G kc5 (dc d_Tw_lettersOfRights 3 rfl) (okL_lt hu (o := 1) 1 rfl) (okL_k hu (o := 1) 1 rfl) 5 (by decide) rfl fl_RX8_47 (u + 7) (okL_r hu (o := 1) (c := 7) 1 rfl 4 rfl) ?_
  obtain ⟨x2, e1, h⟩ := kOk_b h
  refine k_cVI G (dc d_Tw_lettersOfRights 4 rfl) kc6 (okL_lt hu (o := 0) 0 rfl) (okL_k hu (o := 0) 0 rfl) mi_Tw_lettersOf mv_Tw_lettersOf rfl ml_RX8_170 (c_Tw_lettersOf (gst G) hu (okL_a hu (o := 7) 7 rfl) e1) rfl rfl ⟨rfl, rfl⟩ rfl ⟨rfl, rfl⟩ ⟨rfl, rfl⟩ ?_
  exact (kOk_s h) _ _ _ _ rfl rfl rfl (dc d_Tw_lettersOfRights 5 rfl)
theorem c_Tw_lettersOfRights {l : Launch} {B : KB} {L : KLay} {M : KMem} {u : Nat} (hst : l.stackTraces = false) (hu : okL L u twT) {r : Int32} (e : m_Tw_lettersOfRights u M = some r) : CtrN l B yX8_lettersOfRights cX8_lettersOfRights 1 (some .int) rm_Tw_lettersOfRights [.ref (B.1 + u)] L M (some (.int r)) L M :=
  mk_I rfl hst rfl (fun X hl G _ R => b_Tw_lettersOfRights G hu ⟨_, e, R⟩)
def I_Tw_costOfAll : List (Nat × Instr × Nat) := [(0, .iconst 0, 1), (1, .istore_n 1, 1), (2, .iconst 0, 1), (3, .istore_n 2, 1), (4, .iload_n 2, 1), (5, .bipush 8, 2), (7, .if_icmp .ge 25, 3), (10, .aload_n 0, 1), (11, .iload_n 2, 1), (12, .invokevirtual 40, 3), (15, .ifCond .eq 17, 3), (18, .iload_n 1, 1), (19, .aload_n 0, 1), (20, .iload_n 2, 1), (21, .invokevirtual 132, 3), (24, .iadd, 1), (25, .istore_n 1, 1), (26, .iinc 2 1, 3), (29, .goto (-25), 3), (32, .iload_n 1, 1), (33, .ireturn, 1)]
set_option maxRecDepth 100000 in
theorem d_Tw_costOfAll : decA cX8_costOfAll I_Tw_costOfAll = true := by decide +kernel
abbrev rm_Tw_costOfAll : Room := ({ frames := 5, cells := 0, slots := 0, locals := 115 } : Room)
def m_Tw_costOfAll_l4 (u : Nat) : (Int32 × Int32 × KMem) → Option ((Int32 × Int32 × KMem) ⊕ (Int32 × KMem)) := fun (v1_1, v2_2, M3) =>
 if 8 ≤ v2_2 then
 (some (.inr (v1_1, M3)))
 else
 (Option.bind (m_Tw_hasSign u v2_2 M3) fun x6 =>
 if x6 = 0 then
 (some (.inr (v1_1, M3)))
 else
 (Option.bind (m_Tw_costOf u v2_2 M3) fun (x9, M10) =>
 some (.inl (v1_1 + x9, v2_2 + 1, M10))))
def m_Tw_costOfAll (u : Nat) (M : KMem) : Option (Int32 × KMem) :=
 Option.bind (α := Int32 × KMem) (kLp (m_Tw_costOfAll_l4 u) kFU (0, 0, M)) fun (v1_11, M12) =>
 some (v1_11, M12)
set_option maxHeartbeats 4000000 in
set_option maxRecDepth 100000 in
theorem b_Tw_costOfAll {X : KX} {B : KB} {L : KLay} {M : KMem} {u : Nat} (G : Good X B RX8 cX8_costOfAll 3 rm_Tw_costOfAll) (hu : okL L u twT) (h : kOk (m_Tw_costOfAll u M) (fun r => RI X B L 3 cX8_costOfAll .int rm_Tw_costOfAll r.1 r.2)) : KK X B L 3 0 0 M 0 [(0, .ref (B.1 + u))] [] := by
  unfold m_Tw_costOfAll at h
  refine k_iconst G (dc d_Tw_costOfAll 0 rfl) cI_0 ?_
  refine k_istore_n G (dc d_Tw_costOfAll 1 rfl) (ls' := [(1, .int 0), (0, .ref (B.1 + u))]) rfl rfl rfl ?_
  refine k_iconst G (dc d_Tw_costOfAll 2 rfl) cI_0 ?_
  refine k_istore_n G (dc d_Tw_costOfAll 3 rfl) (ls' := [(2, .int 0), (1, .int 0), (0, .ref (B.1 + u))]) rfl rfl rfl ?_
  refine kJ h (fun r13 => KK X B L 3 0 0 r13.2 32 [(1, .int r13.1)] []) (fun r13 h => ?_) (fun h => ?_)
  · obtain ⟨v1_11, M12⟩ := r13
    show KK X B L 3 0 0 M12 32 [(1, .int v1_11)] []
    refine k_iload_n G (dc d_Tw_costOfAll 19 rfl) 0 rfl rfl ?_
    exact (kOk_s h) _ _ _ _ rfl rfl rfl (dc d_Tw_costOfAll 20 rfl)
  · refine k_sub [2, 1, 0] rfl ?_
    refine kLp_ok (P := fun s14 => KK X B L 3 0 0 s14.2.2 4 [(0, .ref (B.1 + u)), (1, .int s14.1), (2, .int s14.2.1)] []) (fun s14 h => ?_) kFU _ h
    obtain ⟨v1_1, v2_2, M3⟩ := s14
    unfold m_Tw_costOfAll_l4 at h
    show KK X B L 3 0 0 M3 4 [(0, .ref (B.1 + u)), (1, .int v1_1), (2, .int v2_2)] []
    refine k_iload_n G (dc d_Tw_costOfAll 4 rfl) 2 rfl rfl ?_
    refine k_bipush G (dc d_Tw_costOfAll 5 rfl) cB_8 ?_
    refine k_icmp_ge G (dc d_Tw_costOfAll 6 rfl) (tgt := 32) rfl (fun c4 => ?_) (fun c4 => ?_)
    · replace h := kOk_p c4 h
      refine k_sub [1] rfl ?_
      have h9 := kOk_s h
      exact h9
    · replace h := kOk_n c4 h
      refine k_aload_n G (dc d_Tw_costOfAll 7 rfl) 0 rfl rfl ?_
      refine k_iload_n G (dc d_Tw_costOfAll 8 rfl) 2 rfl rfl ?_
      obtain ⟨x6, e5, h⟩ := kOk_b h
      refine k_cVI G (dc d_Tw_costOfAll 9 rfl) kc6 (okL_lt hu (o := 0) 0 rfl) (okL_k hu (o := 0) 0 rfl) mi_Tw_hasSign mv_Tw_hasSign rfl ml_RX8_40 (c_Tw_hasSign (gst G) hu e5) rfl rfl ⟨rfl, rfl⟩ rfl ⟨rfl, rfl⟩ ⟨rfl, rfl⟩ ?_
      refine k_if_eq G (dc d_Tw_costOfAll 10 rfl) (tgt := 32) rfl (fun c7 => ?_) (fun c7 => ?_)
      · replace h := kOk_p c7 h
        refine k_sub [1] rfl ?_
        have h9 := kOk_s h
        exact h9
      · replace h := kOk_n c7 h
        refine k_iload_n G (dc d_Tw_costOfAll 11 rfl) 1 rfl rfl ?_
        refine k_aload_n G (dc d_Tw_costOfAll 12 rfl) 0 rfl rfl ?_
        refine k_iload_n G (dc d_Tw_costOfAll 13 rfl) 2 rfl rfl ?_
        obtain ⟨⟨x9, M10⟩, e8, h⟩ := kOk_b h
        refine k_cVI G (dc d_Tw_costOfAll 14 rfl) kc6 (okL_lt hu (o := 0) 0 rfl) (okL_k hu (o := 0) 0 rfl) mi_Tw_costOf mv_Tw_costOf rfl ml_RX8_132 (c_Tw_costOf (gst G) hu e8) rfl rfl ⟨rfl, rfl⟩ rfl ⟨rfl, rfl⟩ ⟨rfl, rfl⟩ ?_
        refine k_iadd G (dc d_Tw_costOfAll 15 rfl) ?_
        refine k_istore_n G (dc d_Tw_costOfAll 16 rfl) (ls' := [(1, .int (v1_1 + x9)), (0, .ref (B.1 + u)), (2, .int v2_2)]) rfl rfl rfl ?_
        refine k_iinc G (dc d_Tw_costOfAll 17 rfl) (ls' := [(2, .int (v2_2 + 1)), (1, .int (v1_1 + x9)), (0, .ref (B.1 + u))]) 2 rfl cI_1 rfl rfl ?_
        refine k_goto G (dc d_Tw_costOfAll 18 rfl) (tgt := 4) rfl ?_
        refine k_sub [2, 1, 0] rfl ?_
        have h9 := kOk_s h
        exact h9
theorem c_Tw_costOfAll {l : Launch} {B : KB} {L : KLay} {M : KMem} {u : Nat} (hst : l.stackTraces = false) (hu : okL L u twT) {r : Int32} {M' : KMem} (e : m_Tw_costOfAll u M = some (r, M')) : CtrN l B yX8_costOfAll cX8_costOfAll 3 (some .int) rm_Tw_costOfAll [.ref (B.1 + u)] L M (some (.int r)) L M' :=
  mk_I rfl hst rfl (fun X hl G _ R => b_Tw_costOfAll G hu ⟨_, e, R⟩)
