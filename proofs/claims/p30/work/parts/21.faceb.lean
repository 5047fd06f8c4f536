/-! laid by wip/p30/g30.py: SR_droppable, SR_apart, SR_payable, SR_worthIn -/
def I_SR_droppable : List (Nat × Instr × Nat) := [(0, .iconst 0, 1), (1, .istore_n 1, 1), (2, .iconst 1, 1), (3, .istore_n 2, 1), (4, .iload_n 2, 1), (5, .bipush 6, 2), (7, .if_icmp .gt 31, 3), (10, .aload_n 0, 1), (11, .getfield 19, 3), (14, .iconst 0, 1), (15, .iload_n 2, 1), (16, .iconst 0, 1), (17, .iconst 0, 1), (18, .invokevirtual 210, 3), (21, .ifCond .ne 11, 3), (24, .iload_n 1, 1), (25, .iconst 1, 1), (26, .iload_n 2, 1), (27, .iconst 1, 1), (28, .isub, 1), (29, .ishl, 1), (30, .ior, 1), (31, .istore_n 1, 1), (32, .iinc 2 1, 3), (35, .goto (-31), 3), (38, .iload_n 1, 1), (39, .ireturn, 1)]
set_option maxRecDepth 100000 in
theorem d_SR_droppable : decA cX10_droppable I_SR_droppable = true := by decide +kernel
abbrev rm_SR_droppable : Room := ({ frames := 3, cells := 0, slots := 0, locals := 77 } : Room)
def m_SR_droppable_l4 (u : Nat) : (Int32 × Int32 × KMem) → Option ((Int32 × Int32 × KMem) ⊕ (Int32 × KMem)) := fun (v1_1, v2_2, M3) =>
 if 6 < v2_2 then
 (some (.inr (v1_1, M3)))
 else
 (Option.bind (m_Tw_reasonAgainstDecree (u + 3) 0 v2_2 0 0 M3) fun (x6, M7) =>
 Option.bind (α := Int32) (if x6 = 0 then
 (some (v1_1 ||| (jshl 1 (v2_2 - 1))))
 else
 (some v1_1)) fun v1_8 =>
 some (.inl (v1_8, v2_2 + 1, M7)))
def m_SR_droppable (u : Nat) (M : KMem) : Option (Int32 × KMem) :=
 Option.bind (α := Int32 × KMem) (kLp (m_SR_droppable_l4 u) kFU (0, 1, M)) fun (v1_11, M12) =>
 some (v1_11, M12)
set_option maxHeartbeats 4000000 in
set_option maxRecDepth 100000 in
theorem b_SR_droppable {X : KX} {B : KB} {L : KLay} {M : KMem} {u : Nat} (G : Good X B RX10 cX10_droppable 3 rm_SR_droppable) (hu : okL L u srT) (h : kOk (m_SR_droppable u M) (fun r => RI X B L 3 cX10_droppable .int rm_SR_droppable r.1 r.2)) : KK X B L 3 0 0 M 0 [(0, .ref (B.1 + u))] [] := by
  unfold m_SR_droppable at h
  refine k_iconst G (dc d_SR_droppable 0 rfl) cI_0 ?_
  refine k_istore_n G (dc d_SR_droppable 1 rfl) (ls' := [(1, .int 0), (0, .ref (B.1 + u))]) rfl rfl rfl ?_
  refine k_iconst G (dc d_SR_droppable 2 rfl) cI_1 ?_
  refine k_istore_n G (dc d_SR_droppable 3 rfl) (ls' := [(2, .int 1), (1, .int 0), (0, .ref (B.1 + u))]) rfl rfl rfl ?_
  refine kJ h (fun r13 => KK X B L 3 0 0 r13.2 38 [(1, .int r13.1)] []) (fun r13 h => ?_) (fun h => ?_)
  · obtain ⟨v1_11, M12⟩ := r13
    show KK X B L 3 0 0 M12 38 [(1, .int v1_11)] []
    refine k_iload_n G (dc d_SR_droppable 25 rfl) 0 rfl rfl ?_
    exact (kOk_s h) _ _ _ _ rfl rfl rfl (dc d_SR_droppable 26 rfl)
  · refine k_sub [2, 1, 0] rfl ?_
    refine kLp_ok (P := fun s14 => KK X B L 3 0 0 s14.2.2 4 [(0, .ref (B.1 + u)), (1, .int s14.1), (2, .int s14.2.1)] []) (fun s14 h => ?_) kFU _ h
    obtain ⟨v1_1, v2_2, M3⟩ := s14
    unfold m_SR_droppable_l4 at h
    show KK X B L 3 0 0 M3 4 [(0, .ref (B.1 + u)), (1, .int v1_1), (2, .int v2_2)] []
    refine k_iload_n G (dc d_SR_droppable 4 rfl) 2 rfl rfl ?_
    refine k_bipush G (dc d_SR_droppable 5 rfl) cB_6 ?_
    refine k_icmp_gt G (dc d_SR_droppable 6 rfl) (tgt := 38) rfl (fun c4 => ?_) (fun c4 => ?_)
    · replace h := kOk_p c4 h
      refine k_sub [1] rfl ?_
      have h9 := kOk_s h
      exact h9
    · replace h := kOk_n c4 h
      refine k_aload_n G (dc d_SR_droppable 7 rfl) 0 rfl rfl ?_
      refine k_getR G kc7 (dc d_SR_droppable 8 rfl) (okL_lt hu (o := 0) 0 rfl) (okL_k hu (o := 0) 0 rfl) 1 (by decide) rfl fl_RX10_19 (u + 3) (okL_r hu (o := 0) (c := 3) 0 rfl 1 rfl) ?_
      refine k_iconst G (dc d_SR_droppable 9 rfl) cI_0 ?_
      refine k_iload_n G (dc d_SR_droppable 10 rfl) 2 rfl rfl ?_
      refine k_iconst G (dc d_SR_droppable 11 rfl) cI_0 ?_
      refine k_iconst G (dc d_SR_droppable 12 rfl) cI_0 ?_
      obtain ⟨⟨x6, M7⟩, e5, h⟩ := kOk_b h
      refine k_cVI G (dc d_SR_droppable 13 rfl) kc6 (okL_lt hu (o := 3) 3 rfl) (okL_k hu (o := 3) 3 rfl) mi_Tw_reasonAgainstDecree mv_Tw_reasonAgainstDecree rfl ml_RX10_210 (c_Tw_reasonAgainstDecree (gst G) (okL_sub hu 3 (by decide +kernel)) e5) rfl rfl ⟨rfl, rfl⟩ rfl ⟨rfl, rfl⟩ ⟨rfl, rfl⟩ ?_
      refine kJ h (fun r9 => KK X B L 3 0 0 M7 32 [(0, .ref (B.1 + u)), (1, .int r9), (2, .int v2_2)] []) (fun r9 h => ?_) (fun h => ?_)
      · obtain ⟨v1_8, rfl⟩ : ∃ z, z = r9 := ⟨_, rfl⟩
        show KK X B L 3 0 0 M7 32 [(0, .ref (B.1 + u)), (1, .int v1_8), (2, .int v2_2)] []
        refine k_iinc G (dc d_SR_droppable 23 rfl) (ls' := [(2, .int (v2_2 + 1)), (0, .ref (B.1 + u)), (1, .int v1_8)]) 2 rfl cI_1 rfl rfl ?_
        refine k_goto G (dc d_SR_droppable 24 rfl) (tgt := 4) rfl ?_
        refine k_sub [1, 2, 0] rfl ?_
        have h9 := kOk_s h
        exact h9
      · refine k_if_ne G (dc d_SR_droppable 14 rfl) (tgt := 32) rfl (fun c10 => ?_) (fun c10 => ?_)
        · replace h := kOk_n c10 h
          have h9 := kOk_s h
          exact h9
        · replace h := kOk_p c10 h
          refine k_iload_n G (dc d_SR_droppable 15 rfl) 1 rfl rfl ?_
          refine k_iconst G (dc d_SR_droppable 16 rfl) cI_1 ?_
          refine k_iload_n G (dc d_SR_droppable 17 rfl) 2 rfl rfl ?_
          refine k_iconst G (dc d_SR_droppable 18 rfl) cI_1 ?_
          refine k_isub G (dc d_SR_droppable 19 rfl) ?_
          refine k_ishl G (dc d_SR_droppable 20 rfl) ?_
          refine k_ior G (dc d_SR_droppable 21 rfl) ?_
          refine k_istore_n G (dc d_SR_droppable 22 rfl) (ls' := [(1, .int (v1_1 ||| (jshl 1 (v2_2 - 1)))), (0, .ref (B.1 + u)), (2, .int v2_2)]) rfl rfl rfl ?_
          refine k_sub [1, 0, 2] rfl ?_
          have h9 := kOk_s h
          exact h9
theorem c_SR_droppable {l : Launch} {B : KB} {L : KLay} {M : KMem} {u : Nat} (hst : l.stackTraces = false) (hu : okL L u srT) {r : Int32} {M' : KMem} (e : m_SR_droppable u M = some (r, M')) : CtrN l B yX10_droppable cX10_droppable 3 (some .int) rm_SR_droppable [.ref (B.1 + u)] L M (some (.int r)) L M' :=
  mk_I rfl hst rfl (fun X hl G _ R => b_SR_droppable G hu ⟨_, e, R⟩)
def I_SR_apart : List (Nat × Instr × Nat) := [(0, .aload_n 0, 1), (1, .iload_n 1, 1), (2, .invokevirtual 122, 3), (5, .aload_n 0, 1), (6, .iload_n 2, 1), (7, .invokevirtual 122, 3), (10, .aload_n 0, 1), (11, .getfield 19, 3), (14, .iload_n 1, 1), (15, .iload_n 2, 1), (16, .invokevirtual 213, 3), (19, .ireturn, 1)]
set_option maxRecDepth 100000 in
theorem d_SR_apart : decA cX10_apart I_SR_apart = true := by decide +kernel
abbrev rm_SR_apart : Room := ({ frames := 7, cells := 2, slots := 12, locals := 113 } : Room)
def m_SR_apart (u : Nat) (p0 : Int32) (p1 : Int32) (M : KMem) : Option ((String ⊕ Int32) × KMem) :=
 Option.bind (m_SR_requireSign u p0 M) fun r2 => match r2 with
 | some E3 => some (.inl E3, M)
 | none =>
 (Option.bind (m_SR_requireSign u p1 M) fun r5 => match r5 with
 | some E6 => some (.inl E6, M)
 | none =>
 (Option.bind (m_Tw_spellingsApart (u + 3) p0 p1 M) fun (x8, M9) =>
 some (.inr x8, M9)))
set_option maxHeartbeats 4000000 in
set_option maxRecDepth 100000 in
theorem b_SR_apart {X : KX} {B : KB} {L : KLay} {M : KMem} {u : Nat} {p0 : Int32} {p1 : Int32} (G : Good X B RX10 cX10_apart 3 rm_SR_apart) (hx : B.2.2.2 = false) (hu : okL L u srT) (h : kOk (m_SR_apart u p0 p1 M) (fun r => RXI X B L 3 RX10 cX10_apart .int rm_SR_apart r.1 r.2)) : KK X B L 3 0 0 M 0 [(0, .ref (B.1 + u)), (1, .int p0), (2, .int p1)] [] := by
  unfold m_SR_apart at h
  refine k_aload_n G (dc d_SR_apart 0 rfl) 0 rfl rfl ?_
  refine k_iload_n G (dc d_SR_apart 1 rfl) 1 rfl rfl ?_
  obtain ⟨r2, e1, h⟩ := kOk_b h
  refine k_callVX G (dc d_SR_apart 2 rfl) kc7 (okL_lt hu (o := 0) 0 rfl) (okL_k hu (o := 0) 0 rfl) mi_SR_requireSign mv_SR_requireSign rfl ml_RX10_122 (c_SR_requireSign (gst G) hx hu e1) rfl rfl ⟨rfl, rfl⟩ rfl ⟨rfl, rfl⟩ (fun v9 h9 => ?_) (fun E9 h9 => ?_)
  · obtain ⟨rfl, rfl⟩ := rV_inr h9
    show KK X B L 3 1 6 M 5 [(0, .ref (B.1 + u)), (1, .int p0), (2, .int p1)] []
    refine k_aload_n G (dc d_SR_apart 3 rfl) 0 rfl rfl ?_
    refine k_iload_n G (dc d_SR_apart 4 rfl) 2 rfl rfl ?_
    obtain ⟨r5, e4, h⟩ := kOk_b h
    refine k_callVX G (dc d_SR_apart 5 rfl) kc7 (okL_lt hu (o := 0) 0 rfl) (okL_k hu (o := 0) 0 rfl) mi_SR_requireSign mv_SR_requireSign rfl ml_RX10_122 (c_SR_requireSign (gst G) hx hu e4) rfl rfl ⟨rfl, rfl⟩ rfl ⟨rfl, rfl⟩ (fun v9 h9 => ?_) (fun E9 h9 => ?_)
    · obtain ⟨rfl, rfl⟩ := rV_inr h9
      show KK X B L 3 2 12 M 10 [(0, .ref (B.1 + u)), (1, .int p0), (2, .int p1)] []
      refine k_aload_n G (dc d_SR_apart 6 rfl) 0 rfl rfl ?_
      refine k_getR G kc7 (dc d_SR_apart 7 rfl) (okL_lt hu (o := 0) 0 rfl) (okL_k hu (o := 0) 0 rfl) 1 (by decide) rfl fl_RX10_19 (u + 3) (okL_r hu (o := 0) (c := 3) 0 rfl 1 rfl) ?_
      refine k_iload_n G (dc d_SR_apart 8 rfl) 1 rfl rfl ?_
      refine k_iload_n G (dc d_SR_apart 9 rfl) 2 rfl rfl ?_
      obtain ⟨⟨x8, M9⟩, e7, h⟩ := kOk_b h
      refine k_cVI G (dc d_SR_apart 10 rfl) kc6 (okL_lt hu (o := 3) 3 rfl) (okL_k hu (o := 3) 3 rfl) mi_Tw_spellingsApart mv_Tw_spellingsApart rfl ml_RX10_213 (c_Tw_spellingsApart (gst G) (okL_sub hu 3 (by decide +kernel)) e7) rfl rfl ⟨rfl, rfl⟩ rfl ⟨rfl, rfl⟩ ⟨rfl, rfl⟩ ?_
      exact ((kOk_s h).1 _ rfl) _ _ _ _ rfl rfl rfl (dc d_SR_apart 11 rfl)
    · obtain rfl := rV_inl h9
      exact ((kOk_s h).2 _ rfl).1 _ _ _ _ _ rfl rfl
  · obtain rfl := rV_inl h9
    exact ((kOk_s h).2 _ rfl).1 _ _ _ _ _ rfl rfl
theorem c_SR_apart {l : Launch} {B : KB} {L : KLay} {M : KMem} {u : Nat} {p0 : Int32} {p1 : Int32} (hst : l.stackTraces = false) (hx : B.2.2.2 = false) (hu : okL L u srT) {r : String ⊕ Int32} {M' : KMem} (e : m_SR_apart u p0 p1 M = some (r, M')) : CtrX l B yX10_apart cX10_apart 3 (some .int) rm_SR_apart [.ref (B.1 + u), .int p0, .int p1] L M (rI r) M' :=
  mkXI hx rfl hst rfl (fun X hl G R => b_SR_apart G hx hu ⟨_, e, R⟩)
def I_SR_payable : List (Nat × Instr × Nat) := [(0, .iload_n 1, 1), (1, .ifCond .lt 10, 3), (4, .iload_n 1, 1), (5, .sipush 999, 3), (8, .if_icmp .le 13, 3), (11, .new 33, 3), (14, .dup, 1), (15, .ldc 216, 2), (17, .invokespecial 37, 3), (20, .athrow, 1), (21, .aload_n 0, 1), (22, .getfield 19, 3), (25, .iload_n 1, 1), (26, .invokevirtual 218, 3), (29, .ireturn, 1)]
set_option maxRecDepth 100000 in
theorem d_SR_payable : decA cX10_payable I_SR_payable = true := by decide +kernel
abbrev rm_SR_payable : Room := ({ frames := 6, cells := 1, slots := 6, locals := 120 } : Room)
def m_SR_payable (u : Nat) (p0 : Int32) (M : KMem) : Option ((String ⊕ Int32) × KMem) :=
 if p0 < 0 then
 (some (.inl "java/lang/IllegalArgumentException", M))
 else
 (if p0 ≤ 999 then
 (Option.bind (m_Tw_signsPaidBy (u + 3) p0 M) fun (x4, M5) =>
 some (.inr x4, M5))
 else
 (some (.inl "java/lang/IllegalArgumentException", M)))
set_option maxHeartbeats 4000000 in
set_option maxRecDepth 100000 in
theorem b_SR_payable {X : KX} {B : KB} {L : KLay} {M : KMem} {u : Nat} {p0 : Int32} (G : Good X B RX10 cX10_payable 2 rm_SR_payable) (hx : B.2.2.2 = false) (hu : okL L u srT) (h : kOk (m_SR_payable u p0 M) (fun r => RXI X B L 2 RX10 cX10_payable .int rm_SR_payable r.1 r.2)) : KK X B L 2 0 0 M 0 [(0, .ref (B.1 + u)), (1, .int p0)] [] := by
  unfold m_SR_payable at h
  refine k_iload_n G (dc d_SR_payable 0 rfl) 1 rfl rfl ?_
  refine k_if_lt G (dc d_SR_payable 1 rfl) (tgt := 11) rfl (fun c1 => ?_) (fun c1 => ?_)
  · replace h := kOk_p c1 h
    exact ((kOk_s h).2 _ rfl).2.1 _ _ _ _ _ 33 216 37 "no such purse" ["java/lang/RuntimeException", "java/lang/Exception"] ts_RX10_33_37 sr_RX10_216 (dc d_SR_payable 5 rfl) (dc d_SR_payable 6 rfl) (dc d_SR_payable 7 rfl) (dc d_SR_payable 8 rfl) (dc d_SR_payable 9 rfl) rfl rfl rfl rfl
  · replace h := kOk_n c1 h
    refine k_iload_n G (dc d_SR_payable 2 rfl) 1 rfl rfl ?_
    refine k_sipush G (dc d_SR_payable 3 rfl) cS_999 ?_
    refine k_icmp_le G (dc d_SR_payable 4 rfl) (tgt := 21) rfl (fun c2 => ?_) (fun c2 => ?_)
    · replace h := kOk_p c2 h
      refine k_aload_n G (dc d_SR_payable 10 rfl) 0 rfl rfl ?_
      refine k_getR G kc7 (dc d_SR_payable 11 rfl) (okL_lt hu (o := 0) 0 rfl) (okL_k hu (o := 0) 0 rfl) 1 (by decide) rfl fl_RX10_19 (u + 3) (okL_r hu (o := 0) (c := 3) 0 rfl 1 rfl) ?_
      refine k_iload_n G (dc d_SR_payable 12 rfl) 1 rfl rfl ?_
      obtain ⟨⟨x4, M5⟩, e3, h⟩ := kOk_b h
      refine k_cVI G (dc d_SR_payable 13 rfl) kc6 (okL_lt hu (o := 3) 3 rfl) (okL_k hu (o := 3) 3 rfl) mi_Tw_signsPaidBy mv_Tw_signsPaidBy rfl ml_RX10_218 (c_Tw_signsPaidBy (gst G) (okL_sub hu 3 (by decide +kernel)) e3) rfl rfl ⟨rfl, rfl⟩ rfl ⟨rfl, rfl⟩ ⟨rfl, rfl⟩ ?_
      exact ((kOk_s h).1 _ rfl) _ _ _ _ rfl rfl rfl (dc d_SR_payable 14 rfl)
    · replace h := kOk_n c2 h
      exact ((kOk_s h).2 _ rfl).2.1 _ _ _ _ _ 33 216 37 "no such purse" ["java/lang/RuntimeException", "java/lang/Exception"] ts_RX10_33_37 sr_RX10_216 (dc d_SR_payable 5 rfl) (dc d_SR_payable 6 rfl) (dc d_SR_payable 7 rfl) (dc d_SR_payable 8 rfl) (dc d_SR_payable 9 rfl) rfl rfl rfl rfl
theorem c_SR_payable {l : Launch} {B : KB} {L : KLay} {M : KMem} {u : Nat} {p0 : Int32} (hst : l.stackTraces = false) (hx : B.2.2.2 = false) (hu : okL L u srT) {r : String ⊕ Int32} {M' : KMem} (e : m_SR_payable u p0 M = some (r, M')) : CtrX l B yX10_payable cX10_payable 2 (some .int) rm_SR_payable [.ref (B.1 + u), .int p0] L M (rI r) M' :=
  mkXI hx rfl hst rfl (fun X hl G R => b_SR_payable G hx hu ⟨_, e, R⟩)
def I_SR_worthIn : List (Nat × Instr × Nat) := [(0, .aload_n 0, 1), (1, .iload_n 1, 1), (2, .invokevirtual 122, 3), (5, .aload_n 0, 1), (6, .getfield 19, 3), (9, .iload_n 1, 1), (10, .invokevirtual 221, 3), (13, .ireturn, 1)]
set_option maxRecDepth 100000 in
theorem d_SR_worthIn : decA cX10_worthIn I_SR_worthIn = true := by decide +kernel
abbrev rm_SR_worthIn : Room := ({ frames := 7, cells := 1, slots := 6, locals := 139 } : Room)
def m_SR_worthIn (u : Nat) (p0 : Int32) (M : KMem) : Option ((String ⊕ Int32) × KMem) :=
 Option.bind (m_SR_requireSign u p0 M) fun r2 => match r2 with
 | some E3 => some (.inl E3, M)
 | none =>
 (Option.bind (m_Tw_monthsTillFinesAreMore (u + 3) p0 M) fun (x5, M6) =>
 some (.inr x5, M6))
set_option maxHeartbeats 4000000 in
set_option maxRecDepth 100000 in
theorem b_SR_worthIn {X : KX} {B : KB} {L : KLay} {M : KMem} {u : Nat} {p0 : Int32} (G : Good X B RX10 cX10_worthIn 2 rm_SR_worthIn) (hx : B.2.2.2 = false) (hu : okL L u srT) (h : kOk (m_SR_worthIn u p0 M) (fun r => RXI X B L 2 RX10 cX10_worthIn .int rm_SR_worthIn r.1 r.2)) : KK X B L 2 0 0 M 0 [(0, .ref (B.1 + u)), (1, .int p0)] [] := by
  unfold m_SR_worthIn at h
  refine k_aload_n G (dc d_SR_worthIn 0 rfl) 0 rfl rfl ?_
  refine k_iload_n G (dc d_SR_worthIn 1 rfl) 1 rfl rfl ?_
  obtain ⟨r2, e1, h⟩ := kOk_b h
  refine k_callVX G (dc d_SR_worthIn 2 rfl) kc7 (okL_lt hu (o := 0) 0 rfl) (okL_k hu (o := 0) 0 rfl) mi_SR_requireSign mv_SR_requireSign rfl ml_RX10_122 (c_SR_requireSign (gst G) hx hu e1) rfl rfl ⟨rfl, rfl⟩ rfl ⟨rfl, rfl⟩ (fun v9 h9 => ?_) (fun E9 h9 => ?_)
  · obtain ⟨rfl, rfl⟩ := rV_inr h9
    show KK X B L 2 1 6 M 5 [(0, .ref (B.1 + u)), (1, .int p0)] []
    refine k_aload_n G (dc d_SR_worthIn 3 rfl) 0 rfl rfl ?_
    refine k_getR G kc7 (dc d_SR_worthIn 4 rfl) (okL_lt hu (o := 0) 0 rfl) (okL_k hu (o := 0) 0 rfl) 1 (by decide) rfl fl_RX10_19 (u + 3) (okL_r hu (o := 0) (c := 3) 0 rfl 1 rfl) ?_
    refine k_iload_n G (dc d_SR_worthIn 5 rfl) 1 rfl rfl ?_
    obtain ⟨⟨x5, M6⟩, e4, h⟩ := kOk_b h
    refine k_cVI G (dc d_SR_worthIn 6 rfl) kc6 (okL_lt hu (o := 3) 3 rfl) (okL_k hu (o := 3) 3 rfl) mi_Tw_monthsTillFinesAreMore mv_Tw_monthsTillFinesAreMore rfl ml_RX10_221 (c_Tw_monthsTillFinesAreMore (gst G) (okL_sub hu 3 (by decide +kernel)) e4) rfl rfl ⟨rfl, rfl⟩ rfl ⟨rfl, rfl⟩ ⟨rfl, rfl⟩ ?_
    exact ((kOk_s h).1 _ rfl) _ _ _ _ rfl rfl rfl (dc d_SR_worthIn 7 rfl)
  · obtain rfl := rV_inl h9
    exact ((kOk_s h).2 _ rfl).1 _ _ _ _ _ rfl rfl
theorem c_SR_worthIn {l : Launch} {B : KB} {L : KLay} {M : KMem} {u : Nat} {p0 : Int32} (hst : l.stackTraces = false) (hx : B.2.2.2 = false) (hu : okL L u srT) {r : String ⊕ Int32} {M' : KMem} (e : m_SR_worthIn u p0 M = some (r, M')) : CtrX l B yX10_worthIn cX10_worthIn 2 (some .int) rm_SR_worthIn [.ref (B.1 + u), .int p0] L M (rI r) M' :=
  mkXI hx rfl hst rfl (fun X hl G R => b_SR_worthIn G hx hu ⟨_, e, R⟩)
