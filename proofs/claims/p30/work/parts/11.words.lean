/-! laid by wip/p30/g30.py: Wo_isLetter, Wo_mirrored, Wo_dropped, Wo_joined, Wo_single, Wo_decreed, Wo_letters, Wo_isWord -/
def I_Wo_isLetter : List (Nat × Instr × Nat) := [(0, .iload_n 0, 1), (1, .iconst 1, 1), (2, .if_icmp .lt 13, 3), (5, .iload_n 0, 1), (6, .bipush 6, 2), (8, .if_icmp .gt 7, 3), (11, .iconst 1, 1), (12, .goto 4, 3), (15, .iconst 0, 1), (16, .ireturn, 1)]
set_option maxRecDepth 100000 in
theorem d_Wo_isLetter : decA cX9_isLetter I_Wo_isLetter = true := by decide +kernel
abbrev rm_Wo_isLetter : Room := ({ frames := 0, cells := 0, slots := 0, locals := 0 } : Room)
def m_Wo_isLetter (p0 : Int32) : Option Int32 :=
 Option.bind (α := Int32) (if p0 < 1 then
 (some 0)
 else
 (if 6 < p0 then
 (some 0)
 else
 (some 1))) fun t1 =>
 Option.bind (kz t1) fun z3 =>
 some z3
set_option maxHeartbeats 4000000 in
set_option maxRecDepth 100000 in
theorem b_Wo_isLetter {X : KX} {B : KB} {L : KLay} {M : KMem} {p0 : Int32} (G : Good X B RX9 cX9_isLetter 1 rm_Wo_isLetter)  (h : kOk (m_Wo_isLetter p0) (fun r => RI X B L 1 cX9_isLetter .boolean rm_Wo_isLetter r M)) : KK X B L 1 0 0 M 0 [(0, .int p0)] [] := by
  unfold m_Wo_isLetter at h
  refine k_iload_n G (dc d_Wo_isLetter 0 rfl) 0 rfl rfl ?_
  refine k_iconst G (dc d_Wo_isLetter 1 rfl) cI_1 ?_
  refine kJ h (fun r2 => KK X B L 1 0 0 M 16 [] [.int r2]) (fun r2 h => ?_) (fun h => ?_)
  · obtain ⟨t1, rfl⟩ : ∃ z, z = r2 := ⟨_, rfl⟩
    show KK X B L 1 0 0 M 16 [] [.int t1]
    obtain ⟨z3, e4, h⟩ := kOk_b h
    obtain ⟨e4, nz3, -⟩ := kz_ok e4
    rw [e4]
    exact (kOk_s h) _ _ _ _ rfl rfl nz3 (dc d_Wo_isLetter 9 rfl)
  · refine k_icmp_lt G (dc d_Wo_isLetter 2 rfl) (tgt := 15) rfl (fun c5 => ?_) (fun c5 => ?_)
    · replace h := kOk_p c5 h
      refine k_iconst G (dc d_Wo_isLetter 8 rfl) cI_0 ?_
      refine k_sub [] rfl ?_
      have h9 := kOk_s h
      exact h9
    · replace h := kOk_n c5 h
      refine k_iload_n G (dc d_Wo_isLetter 3 rfl) 0 rfl rfl ?_
      refine k_bipush G (dc d_Wo_isLetter 4 rfl) cB_6 ?_
      refine k_icmp_gt G (dc d_Wo_isLetter 5 rfl) (tgt := 15) rfl (fun c6 => ?_) (fun c6 => ?_)
      · replace h := kOk_p c6 h
        refine k_iconst G (dc d_Wo_isLetter 8 rfl) cI_0 ?_
        refine k_sub [] rfl ?_
        have h9 := kOk_s h
        exact h9
      · replace h := kOk_n c6 h
        refine k_iconst G (dc d_Wo_isLetter 6 rfl) cI_1 ?_
        refine k_goto G (dc d_Wo_isLetter 7 rfl) (tgt := 16) rfl ?_
        refine k_sub [] rfl ?_
        have h9 := kOk_s h
        exact h9
theorem c_Wo_isLetter {l : Launch} {B : KB} {L : KLay} {M : KMem} {p0 : Int32} (hst : l.stackTraces = false)  {r : Int32} (e : m_Wo_isLetter p0 = some r) : CtrN l B yX9_isLetter cX9_isLetter 1 (some .boolean) rm_Wo_isLetter [.int p0] L M (some (.int r)) L M :=
  mk_I rfl hst rfl (fun X hl G _ R => b_Wo_isLetter G  ⟨_, e, R⟩)
def I_Wo_mirrored : List (Nat × Instr × Nat) := [(0, .iconst 0, 1), (1, .istore_n 1, 1), (2, .iload_n 0, 1), (3, .istore_n 2, 1), (4, .iconst 0, 1), (5, .istore_n 3, 1), (6, .iload_n 3, 1), (7, .bipush 8, 2), (9, .if_icmp .ge 28, 3), (12, .iload_n 2, 1), (13, .ifCond .eq 24, 3), (16, .iload_n 1, 1), (17, .bipush 10, 2), (19, .imul, 1), (20, .iload_n 2, 1), (21, .bipush 10, 2), (23, .irem, 1), (24, .iadd, 1), (25, .istore_n 1, 1), (26, .iload_n 2, 1), (27, .bipush 10, 2), (29, .idiv, 1), (30, .istore_n 2, 1), (31, .iinc 3 1, 3), (34, .goto (-28), 3), (37, .iload_n 1, 1), (38, .ireturn, 1)]
set_option maxRecDepth 100000 in
theorem d_Wo_mirrored : decA cX9_mirrored I_Wo_mirrored = true := by decide +kernel
abbrev rm_Wo_mirrored : Room := ({ frames := 0, cells := 0, slots := 0, locals := 0 } : Room)
def m_Wo_mirrored_l6  : (Int32 × Int32 × Int32) → Option ((Int32 × Int32 × Int32) ⊕ Int32) := fun (v1_1, v2_2, v3_3) =>
 if 8 ≤ v3_3 then
 (some (.inr v1_1))
 else
 (if v2_2 = 0 then
 (some (.inr v1_1))
 else
 (some (.inl ((v1_1 * 10) + (jrem v2_2 10), v2_2 / 10, v3_3 + 1))))
def m_Wo_mirrored (p0 : Int32) : Option Int32 :=
 Option.bind (α := Int32) (kLp m_Wo_mirrored_l6 kFU (0, p0, 0)) fun v1_6 =>
 some v1_6
set_option maxHeartbeats 4000000 in
set_option maxRecDepth 100000 in
theorem b_Wo_mirrored {X : KX} {B : KB} {L : KLay} {M : KMem} {p0 : Int32} (G : Good X B RX9 cX9_mirrored 4 rm_Wo_mirrored)  (h : kOk (m_Wo_mirrored p0) (fun r => RI X B L 4 cX9_mirrored .int rm_Wo_mirrored r M)) : KK X B L 4 0 0 M 0 [(0, .int p0)] [] := by
  unfold m_Wo_mirrored at h
  refine k_iconst G (dc d_Wo_mirrored 0 rfl) cI_0 ?_
  refine k_istore_n G (dc d_Wo_mirrored 1 rfl) (ls' := [(1, .int 0), (0, .int p0)]) rfl rfl rfl ?_
  refine k_iload_n G (dc d_Wo_mirrored 2 rfl) 1 rfl rfl ?_
  refine k_istore_n G (dc d_Wo_mirrored 3 rfl) (ls' := [(2, .int p0), (1, .int 0), (0, .int p0)]) rfl rfl rfl ?_
  refine k_iconst G (dc d_Wo_mirrored 4 rfl) cI_0 ?_
  refine k_istore_n G (dc d_Wo_mirrored 5 rfl) (ls' := [(3, .int 0), (2, .int p0), (1, .int 0), (0, .int p0)]) rfl rfl rfl ?_
  refine kJ h (fun r7 => KK X B L 4 0 0 M 37 [(1, .int r7)] []) (fun r7 h => ?_) (fun h => ?_)
  · obtain ⟨v1_6, rfl⟩ : ∃ z, z = r7 := ⟨_, rfl⟩
    show KK X B L 4 0 0 M 37 [(1, .int v1_6)] []
    refine k_iload_n G (dc d_Wo_mirrored 25 rfl) 0 rfl rfl ?_
    exact (kOk_s h) _ _ _ _ rfl rfl rfl (dc d_Wo_mirrored 26 rfl)
  · refine k_sub [2, 1, 0] rfl ?_
    refine kLp_ok (P := fun s8 => KK X B L 4 0 0 M 6 [(1, .int s8.1), (2, .int s8.2.1), (3, .int s8.2.2)] []) (fun s8 h => ?_) kFU _ h
    obtain ⟨v1_1, v2_2, v3_3⟩ := s8
    unfold m_Wo_mirrored_l6 at h
    show KK X B L 4 0 0 M 6 [(1, .int v1_1), (2, .int v2_2), (3, .int v3_3)] []
    refine k_iload_n G (dc d_Wo_mirrored 6 rfl) 2 rfl rfl ?_
    refine k_bipush G (dc d_Wo_mirrored 7 rfl) cB_8 ?_
    refine k_icmp_ge G (dc d_Wo_mirrored 8 rfl) (tgt := 37) rfl (fun c4 => ?_) (fun c4 => ?_)
    · replace h := kOk_p c4 h
      refine k_sub [0] rfl ?_
      have h9 := kOk_s h
      exact h9
    · replace h := kOk_n c4 h
      refine k_iload_n G (dc d_Wo_mirrored 9 rfl) 1 rfl rfl ?_
      refine k_if_eq G (dc d_Wo_mirrored 10 rfl) (tgt := 37) rfl (fun c5 => ?_) (fun c5 => ?_)
      · replace h := kOk_p c5 h
        refine k_sub [0] rfl ?_
        have h9 := kOk_s h
        exact h9
      · replace h := kOk_n c5 h
        refine k_iload_n G (dc d_Wo_mirrored 11 rfl) 0 rfl rfl ?_
        refine k_bipush G (dc d_Wo_mirrored 12 rfl) cB_10 ?_
        refine k_imul G (dc d_Wo_mirrored 13 rfl) ?_
        refine k_iload_n G (dc d_Wo_mirrored 14 rfl) 1 rfl rfl ?_
        refine k_bipush G (dc d_Wo_mirrored 15 rfl) cB_10 ?_
        refine k_irem G (dc d_Wo_mirrored 16 rfl) czI_10 ?_
        refine k_iadd G (dc d_Wo_mirrored 17 rfl) ?_
        refine k_istore_n G (dc d_Wo_mirrored 18 rfl) (ls' := [(1, .int ((v1_1 * 10) + (jrem v2_2 10))), (2, .int v2_2), (3, .int v3_3)]) rfl rfl rfl ?_
        refine k_iload_n G (dc d_Wo_mirrored 19 rfl) 1 rfl rfl ?_
        refine k_bipush G (dc d_Wo_mirrored 20 rfl) cB_10 ?_
        refine k_idiv G (dc d_Wo_mirrored 21 rfl) czI_10 ?_
        refine k_istore_n G (dc d_Wo_mirrored 22 rfl) (ls' := [(2, .int (v2_2 / 10)), (1, .int ((v1_1 * 10) + (jrem v2_2 10))), (3, .int v3_3)]) rfl rfl rfl ?_
        refine k_iinc G (dc d_Wo_mirrored 23 rfl) (ls' := [(3, .int (v3_3 + 1)), (2, .int (v2_2 / 10)), (1, .int ((v1_1 * 10) + (jrem v2_2 10)))]) 2 rfl cI_1 rfl rfl ?_
        refine k_goto G (dc d_Wo_mirrored 24 rfl) (tgt := 6) rfl ?_
        refine k_sub [2, 1, 0] rfl ?_
        have h9 := kOk_s h
        exact h9
theorem c_Wo_mirrored {l : Launch} {B : KB} {L : KLay} {M : KMem} {p0 : Int32} (hst : l.stackTraces = false)  {r : Int32} (e : m_Wo_mirrored p0 = some r) : CtrN l B yX9_mirrored cX9_mirrored 4 (some .int) rm_Wo_mirrored [.int p0] L M (some (.int r)) L M :=
  mk_I rfl hst rfl (fun X hl G _ R => b_Wo_mirrored G  ⟨_, e, R⟩)
def I_Wo_dropped : List (Nat × Instr × Nat) := [(0, .iconst 0, 1), (1, .istore_n 2, 1), (2, .iload_n 0, 1), (3, .istore_n 3, 1), (4, .iconst 0, 1), (5, .istore 4, 2), (7, .iload 4, 2), (9, .bipush 8, 2), (11, .if_icmp .ge 38, 3), (14, .iload_n 3, 1), (15, .ifCond .eq 34, 3), (18, .iload_n 3, 1), (19, .bipush 10, 2), (21, .irem, 1), (22, .istore 5, 2), (24, .iload 5, 2), (26, .iload_n 1, 1), (27, .if_icmp .eq 11, 3), (30, .iload_n 2, 1), (31, .bipush 10, 2), (33, .imul, 1), (34, .iload 5, 2), (36, .iadd, 1), (37, .istore_n 2, 1), (38, .iload_n 3, 1), (39, .bipush 10, 2), (41, .idiv, 1), (42, .istore_n 3, 1), (43, .iinc 4 1, 3), (46, .goto (-39), 3), (49, .iload_n 2, 1), (50, .ireturn, 1)]
set_option maxRecDepth 100000 in
theorem d_Wo_dropped : decA cX9_dropped I_Wo_dropped = true := by decide +kernel
abbrev rm_Wo_dropped : Room := ({ frames := 0, cells := 0, slots := 0, locals := 0 } : Room)
def m_Wo_dropped_l7 (p1 : Int32) : (Int32 × Int32 × Int32) → Option ((Int32 × Int32 × Int32) ⊕ Int32) := fun (v2_1, v3_2, v4_3) =>
 if 8 ≤ v4_3 then
 (some (.inr v2_1))
 else
 (if v3_2 = 0 then
 (some (.inr v2_1))
 else
 (Option.bind (α := Int32) (if (jrem v3_2 10) = p1 then
 (some v2_1)
 else
 (some ((v2_1 * 10) + (jrem v3_2 10)))) fun v2_6 =>
 some (.inl (v2_6, v3_2 / 10, v4_3 + 1))))
def m_Wo_dropped (p0 : Int32) (p1 : Int32) : Option Int32 :=
 Option.bind (α := Int32) (kLp (m_Wo_dropped_l7 p1) kFU (0, p0, 0)) fun v2_9 =>
 some v2_9
set_option maxHeartbeats 4000000 in
set_option maxRecDepth 100000 in
theorem b_Wo_dropped {X : KX} {B : KB} {L : KLay} {M : KMem} {p0 : Int32} {p1 : Int32} (G : Good X B RX9 cX9_dropped 6 rm_Wo_dropped)  (h : kOk (m_Wo_dropped p0 p1) (fun r => RI X B L 6 cX9_dropped .int rm_Wo_dropped r M)) : KK X B L 6 0 0 M 0 [(0, .int p0), (1, .int p1)] [] := by
  unfold m_Wo_dropped at h
  refine k_iconst G (dc d_Wo_dropped 0 rfl) cI_0 ?_
  refine k_istore_n G (dc d_Wo_dropped 1 rfl) (ls' := [(2, .int 0), (0, .int p0), (1, .int p1)]) rfl rfl rfl ?_
  refine k_iload_n G (dc d_Wo_dropped 2 rfl) 1 rfl rfl ?_
  refine k_istore_n G (dc d_Wo_dropped 3 rfl) (ls' := [(3, .int p0), (2, .int 0), (0, .int p0), (1, .int p1)]) rfl rfl rfl ?_
  refine k_iconst G (dc d_Wo_dropped 4 rfl) cI_0 ?_
  refine k_istore G (dc d_Wo_dropped 5 rfl) (ls' := [(4, .int 0), (3, .int p0), (2, .int 0), (0, .int p0), (1, .int p1)]) rfl rfl ?_
  refine kJ h (fun r10 => KK X B L 6 0 0 M 49 [(2, .int r10)] []) (fun r10 h => ?_) (fun h => ?_)
  · obtain ⟨v2_9, rfl⟩ : ∃ z, z = r10 := ⟨_, rfl⟩
    show KK X B L 6 0 0 M 49 [(2, .int v2_9)] []
    refine k_iload_n G (dc d_Wo_dropped 30 rfl) 0 rfl rfl ?_
    exact (kOk_s h) _ _ _ _ rfl rfl rfl (dc d_Wo_dropped 31 rfl)
  · refine k_sub [4, 2, 1, 0] rfl ?_
    refine kLp_ok (P := fun s11 => KK X B L 6 0 0 M 7 [(1, .int p1), (2, .int s11.1), (3, .int s11.2.1), (4, .int s11.2.2)] []) (fun s11 h => ?_) kFU _ h
    obtain ⟨v2_1, v3_2, v4_3⟩ := s11
    unfold m_Wo_dropped_l7 at h
    show KK X B L 6 0 0 M 7 [(1, .int p1), (2, .int v2_1), (3, .int v3_2), (4, .int v4_3)] []
    refine k_iload G (dc d_Wo_dropped 6 rfl) 3 rfl ?_
    refine k_bipush G (dc d_Wo_dropped 7 rfl) cB_8 ?_
    refine k_icmp_ge G (dc d_Wo_dropped 8 rfl) (tgt := 49) rfl (fun c4 => ?_) (fun c4 => ?_)
    · replace h := kOk_p c4 h
      refine k_sub [1] rfl ?_
      have h9 := kOk_s h
      exact h9
    · replace h := kOk_n c4 h
      refine k_iload_n G (dc d_Wo_dropped 9 rfl) 2 rfl rfl ?_
      refine k_if_eq G (dc d_Wo_dropped 10 rfl) (tgt := 49) rfl (fun c5 => ?_) (fun c5 => ?_)
      · replace h := kOk_p c5 h
        refine k_sub [1] rfl ?_
        have h9 := kOk_s h
        exact h9
      · replace h := kOk_n c5 h
        refine k_iload_n G (dc d_Wo_dropped 11 rfl) 2 rfl rfl ?_
        refine k_bipush G (dc d_Wo_dropped 12 rfl) cB_10 ?_
        refine k_irem G (dc d_Wo_dropped 13 rfl) czI_10 ?_
        refine k_istore G (dc d_Wo_dropped 14 rfl) (ls' := [(5, .int (jrem v3_2 10)), (1, .int p1), (2, .int v2_1), (3, .int v3_2), (4, .int v4_3)]) rfl rfl ?_
        refine k_iload G (dc d_Wo_dropped 15 rfl) 0 rfl ?_
        refine k_iload_n G (dc d_Wo_dropped 16 rfl) 1 rfl rfl ?_
        refine kJ h (fun r7 => KK X B L 6 0 0 M 38 [(1, .int p1), (2, .int r7), (3, .int v3_2), (4, .int v4_3)] []) (fun r7 h => ?_) (fun h => ?_)
        · obtain ⟨v2_6, rfl⟩ : ∃ z, z = r7 := ⟨_, rfl⟩
          show KK X B L 6 0 0 M 38 [(1, .int p1), (2, .int v2_6), (3, .int v3_2), (4, .int v4_3)] []
          refine k_iload_n G (dc d_Wo_dropped 24 rfl) 2 rfl rfl ?_
          refine k_bipush G (dc d_Wo_dropped 25 rfl) cB_10 ?_
          refine k_idiv G (dc d_Wo_dropped 26 rfl) czI_10 ?_
          refine k_istore_n G (dc d_Wo_dropped 27 rfl) (ls' := [(3, .int (v3_2 / 10)), (1, .int p1), (2, .int v2_6), (4, .int v4_3)]) rfl rfl rfl ?_
          refine k_iinc G (dc d_Wo_dropped 28 rfl) (ls' := [(4, .int (v4_3 + 1)), (3, .int (v3_2 / 10)), (1, .int p1), (2, .int v2_6)]) 3 rfl cI_1 rfl rfl ?_
          refine k_goto G (dc d_Wo_dropped 29 rfl) (tgt := 7) rfl ?_
          refine k_sub [2, 3, 1, 0] rfl ?_
          have h9 := kOk_s h
          exact h9
        · refine k_icmp_eq G (dc d_Wo_dropped 17 rfl) (tgt := 38) rfl (fun c8 => ?_) (fun c8 => ?_)
          · replace h := kOk_p c8 h
            refine k_sub [1, 2, 3, 4] rfl ?_
            have h9 := kOk_s h
            exact h9
          · replace h := kOk_n c8 h
            refine k_iload_n G (dc d_Wo_dropped 18 rfl) 2 rfl rfl ?_
            refine k_bipush G (dc d_Wo_dropped 19 rfl) cB_10 ?_
            refine k_imul G (dc d_Wo_dropped 20 rfl) ?_
            refine k_iload G (dc d_Wo_dropped 21 rfl) 0 rfl ?_
            refine k_iadd G (dc d_Wo_dropped 22 rfl) ?_
            refine k_istore_n G (dc d_Wo_dropped 23 rfl) (ls' := [(2, .int ((v2_1 * 10) + (jrem v3_2 10))), (5, .int (jrem v3_2 10)), (1, .int p1), (3, .int v3_2), (4, .int v4_3)]) rfl rfl rfl ?_
            refine k_sub [2, 0, 3, 4] rfl ?_
            have h9 := kOk_s h
            exact h9
theorem c_Wo_dropped {l : Launch} {B : KB} {L : KLay} {M : KMem} {p0 : Int32} {p1 : Int32} (hst : l.stackTraces = false)  {r : Int32} (e : m_Wo_dropped p0 p1 = some r) : CtrN l B yX9_dropped cX9_dropped 6 (some .int) rm_Wo_dropped [.int p0, .int p1] L M (some (.int r)) L M :=
  mk_I rfl hst rfl (fun X hl G _ R => b_Wo_dropped G  ⟨_, e, R⟩)
def I_Wo_joined : List (Nat × Instr × Nat) := [(0, .iconst 0, 1), (1, .istore 4, 2), (3, .iload_n 0, 1), (4, .istore 5, 2), (6, .iconst 0, 1), (7, .istore 6, 2), (9, .iload 6, 2), (11, .bipush 8, 2), (13, .if_icmp .ge 75, 3), (16, .iload 5, 2), (18, .ifCond .eq 70, 3), (21, .iload 5, 2), (23, .bipush 10, 2), (25, .irem, 1), (26, .istore 7, 2), (28, .iload 7, 2), (30, .iload_n 1, 1), (31, .if_icmp .ne 34, 3), (34, .iload 5, 2), (36, .bipush 10, 2), (38, .idiv, 1), (39, .bipush 10, 2), (41, .irem, 1), (42, .iload_n 2, 1), (43, .if_icmp .ne 22, 3), (46, .iload 4, 2), (48, .bipush 10, 2), (50, .imul, 1), (51, .iload_n 3, 1), (52, .iadd, 1), (53, .istore 4, 2), (55, .iload 5, 2), (57, .bipush 100, 2), (59, .idiv, 1), (60, .istore 5, 2), (62, .goto 20, 3), (65, .iload 4, 2), (67, .bipush 10, 2), (69, .imul, 1), (70, .iload 7, 2), (72, .iadd, 1), (73, .istore 4, 2), (75, .iload 5, 2), (77, .bipush 10, 2), (79, .idiv, 1), (80, .istore 5, 2), (82, .iinc 6 1, 3), (85, .goto (-76), 3), (88, .iload 4, 2), (90, .ireturn, 1)]
set_option maxRecDepth 100000 in
theorem d_Wo_joined : decA cX9_joined I_Wo_joined = true := by decide +kernel
abbrev rm_Wo_joined : Room := ({ frames := 0, cells := 0, slots := 0, locals := 0 } : Room)
def m_Wo_joined_l9 (p1 : Int32) (p2 : Int32) (p3 : Int32) : (Int32 × Int32 × Int32) → Option ((Int32 × Int32 × Int32) ⊕ Int32) := fun (v4_1, v5_2, v6_3) =>
 if 8 ≤ v6_3 then
 (some (.inr v4_1))
 else
 (if v5_2 = 0 then
 (some (.inr v4_1))
 else
 (Option.bind (α := Int32 × Int32) (if (jrem v5_2 10) = p1 then
 (if (jrem (v5_2 / 10) 10) = p2 then
 (some ((v4_1 * 10) + p3, v5_2 / 100))
 else
 (some ((v4_1 * 10) + (jrem v5_2 10), v5_2 / 10)))
 else
 (some ((v4_1 * 10) + (jrem v5_2 10), v5_2 / 10))) fun (v4_6, v5_7) =>
 some (.inl (v4_6, v5_7, v6_3 + 1))))
def m_Wo_joined (p0 : Int32) (p1 : Int32) (p2 : Int32) (p3 : Int32) : Option Int32 :=
 Option.bind (α := Int32) (kLp (m_Wo_joined_l9 p1 p2 p3) kFU (0, p0, 0)) fun v4_11 =>
 some v4_11
set_option maxHeartbeats 4000000 in
set_option maxRecDepth 100000 in
theorem b_Wo_joined {X : KX} {B : KB} {L : KLay} {M : KMem} {p0 : Int32} {p1 : Int32} {p2 : Int32} {p3 : Int32} (G : Good X B RX9 cX9_joined 8 rm_Wo_joined)  (h : kOk (m_Wo_joined p0 p1 p2 p3) (fun r => RI X B L 8 cX9_joined .int rm_Wo_joined r M)) : KK X B L 8 0 0 M 0 [(0, .int p0), (1, .int p1), (2, .int p2), (3, .int p3)] [] := by
  unfold m_Wo_joined at h
  refine k_iconst G (dc d_Wo_joined 0 rfl) cI_0 ?_
  refine k_istore G (dc d_Wo_joined 1 rfl) (ls' := [(4, .int 0), (0, .int p0), (1, .int p1), (2, .int p2), (3, .int p3)]) rfl rfl ?_
  refine k_iload_n G (dc d_Wo_joined 2 rfl) 1 rfl rfl ?_
  refine k_istore G (dc d_Wo_joined 3 rfl) (ls' := [(5, .int p0), (4, .int 0), (0, .int p0), (1, .int p1), (2, .int p2), (3, .int p3)]) rfl rfl ?_
  refine k_iconst G (dc d_Wo_joined 4 rfl) cI_0 ?_
  refine k_istore G (dc d_Wo_joined 5 rfl) (ls' := [(6, .int 0), (5, .int p0), (4, .int 0), (0, .int p0), (1, .int p1), (2, .int p2), (3, .int p3)]) rfl rfl ?_
  refine kJ h (fun r12 => KK X B L 8 0 0 M 88 [(4, .int r12)] []) (fun r12 h => ?_) (fun h => ?_)
  · obtain ⟨v4_11, rfl⟩ : ∃ z, z = r12 := ⟨_, rfl⟩
    show KK X B L 8 0 0 M 88 [(4, .int v4_11)] []
    refine k_iload G (dc d_Wo_joined 48 rfl) 0 rfl ?_
    exact (kOk_s h) _ _ _ _ rfl rfl rfl (dc d_Wo_joined 49 rfl)
  · refine k_sub [4, 5, 6, 2, 1, 0] rfl ?_
    refine kLp_ok (P := fun s13 => KK X B L 8 0 0 M 9 [(1, .int p1), (2, .int p2), (3, .int p3), (4, .int s13.1), (5, .int s13.2.1), (6, .int s13.2.2)] []) (fun s13 h => ?_) kFU _ h
    obtain ⟨v4_1, v5_2, v6_3⟩ := s13
    unfold m_Wo_joined_l9 at h
    show KK X B L 8 0 0 M 9 [(1, .int p1), (2, .int p2), (3, .int p3), (4, .int v4_1), (5, .int v5_2), (6, .int v6_3)] []
    refine k_iload G (dc d_Wo_joined 6 rfl) 5 rfl ?_
    refine k_bipush G (dc d_Wo_joined 7 rfl) cB_8 ?_
    refine k_icmp_ge G (dc d_Wo_joined 8 rfl) (tgt := 88) rfl (fun c4 => ?_) (fun c4 => ?_)
    · replace h := kOk_p c4 h
      refine k_sub [3] rfl ?_
      have h9 := kOk_s h
      exact h9
    · replace h := kOk_n c4 h
      refine k_iload G (dc d_Wo_joined 9 rfl) 4 rfl ?_
      refine k_if_eq G (dc d_Wo_joined 10 rfl) (tgt := 88) rfl (fun c5 => ?_) (fun c5 => ?_)
      · replace h := kOk_p c5 h
        refine k_sub [3] rfl ?_
        have h9 := kOk_s h
        exact h9
      · replace h := kOk_n c5 h
        refine k_iload G (dc d_Wo_joined 11 rfl) 4 rfl ?_
        refine k_bipush G (dc d_Wo_joined 12 rfl) cB_10 ?_
        refine k_irem G (dc d_Wo_joined 13 rfl) czI_10 ?_
        refine k_istore G (dc d_Wo_joined 14 rfl) (ls' := [(7, .int (jrem v5_2 10)), (1, .int p1), (2, .int p2), (3, .int p3), (4, .int v4_1), (5, .int v5_2), (6, .int v6_3)]) rfl rfl ?_
        refine k_iload G (dc d_Wo_joined 15 rfl) 0 rfl ?_
        refine k_iload_n G (dc d_Wo_joined 16 rfl) 1 rfl rfl ?_
        refine kJ h (fun r8 => KK X B L 8 0 0 M 82 [(1, .int p1), (2, .int p2), (3, .int p3), (4, .int r8.1), (5, .int r8.2), (6, .int v6_3)] []) (fun r8 h => ?_) (fun h => ?_)
        · obtain ⟨v4_6, v5_7⟩ := r8
          show KK X B L 8 0 0 M 82 [(1, .int p1), (2, .int p2), (3, .int p3), (4, .int v4_6), (5, .int v5_7), (6, .int v6_3)] []
          refine k_iinc G (dc d_Wo_joined 46 rfl) (ls' := [(6, .int (v6_3 + 1)), (1, .int p1), (2, .int p2), (3, .int p3), (4, .int v4_6), (5, .int v5_7)]) 5 rfl cI_1 rfl rfl ?_
          refine k_goto G (dc d_Wo_joined 47 rfl) (tgt := 9) rfl ?_
          refine k_sub [1, 2, 3, 4, 5, 0] rfl ?_
          have h9 := kOk_s h
          exact h9
        · refine k_icmp_ne G (dc d_Wo_joined 17 rfl) (tgt := 65) rfl (fun c9 => ?_) (fun c9 => ?_)
          · replace h := kOk_n c9 h
            refine k_iload G (dc d_Wo_joined 36 rfl) 4 rfl ?_
            refine k_bipush G (dc d_Wo_joined 37 rfl) cB_10 ?_
            refine k_imul G (dc d_Wo_joined 38 rfl) ?_
            refine k_iload G (dc d_Wo_joined 39 rfl) 0 rfl ?_
            refine k_iadd G (dc d_Wo_joined 40 rfl) ?_
            refine k_istore G (dc d_Wo_joined 41 rfl) (ls' := [(4, .int ((v4_1 * 10) + (jrem v5_2 10))), (7, .int (jrem v5_2 10)), (1, .int p1), (2, .int p2), (3, .int p3), (5, .int v5_2), (6, .int v6_3)]) rfl rfl ?_
            refine k_iload G (dc d_Wo_joined 42 rfl) 5 rfl ?_
            refine k_bipush G (dc d_Wo_joined 43 rfl) cB_10 ?_
            refine k_idiv G (dc d_Wo_joined 44 rfl) czI_10 ?_
            refine k_istore G (dc d_Wo_joined 45 rfl) (ls' := [(5, .int (v5_2 / 10)), (4, .int ((v4_1 * 10) + (jrem v5_2 10))), (7, .int (jrem v5_2 10)), (1, .int p1), (2, .int p2), (3, .int p3), (6, .int v6_3)]) rfl rfl ?_
            refine k_sub [3, 4, 5, 1, 0, 6] rfl ?_
            have h9 := kOk_s h
            exact h9
          · replace h := kOk_p c9 h
            refine k_iload G (dc d_Wo_joined 18 rfl) 5 rfl ?_
            refine k_bipush G (dc d_Wo_joined 19 rfl) cB_10 ?_
            refine k_idiv G (dc d_Wo_joined 20 rfl) czI_10 ?_
            refine k_bipush G (dc d_Wo_joined 21 rfl) cB_10 ?_
            refine k_irem G (dc d_Wo_joined 22 rfl) czI_10 ?_
            refine k_iload_n G (dc d_Wo_joined 23 rfl) 2 rfl rfl ?_
            refine k_icmp_ne G (dc d_Wo_joined 24 rfl) (tgt := 65) rfl (fun c10 => ?_) (fun c10 => ?_)
            · replace h := kOk_n c10 h
              refine k_iload G (dc d_Wo_joined 36 rfl) 4 rfl ?_
              refine k_bipush G (dc d_Wo_joined 37 rfl) cB_10 ?_
              refine k_imul G (dc d_Wo_joined 38 rfl) ?_
              refine k_iload G (dc d_Wo_joined 39 rfl) 0 rfl ?_
              refine k_iadd G (dc d_Wo_joined 40 rfl) ?_
              refine k_istore G (dc d_Wo_joined 41 rfl) (ls' := [(4, .int ((v4_1 * 10) + (jrem v5_2 10))), (7, .int (jrem v5_2 10)), (1, .int p1), (2, .int p2), (3, .int p3), (5, .int v5_2), (6, .int v6_3)]) rfl rfl ?_
              refine k_iload G (dc d_Wo_joined 42 rfl) 5 rfl ?_
              refine k_bipush G (dc d_Wo_joined 43 rfl) cB_10 ?_
              refine k_idiv G (dc d_Wo_joined 44 rfl) czI_10 ?_
              refine k_istore G (dc d_Wo_joined 45 rfl) (ls' := [(5, .int (v5_2 / 10)), (4, .int ((v4_1 * 10) + (jrem v5_2 10))), (7, .int (jrem v5_2 10)), (1, .int p1), (2, .int p2), (3, .int p3), (6, .int v6_3)]) rfl rfl ?_
              refine k_sub [3, 4, 5, 1, 0, 6] rfl ?_
              have h9 := kOk_s h
              exact h9
            · replace h := kOk_p c10 h
              refine k_iload G (dc d_Wo_joined 25 rfl) 4 rfl ?_
              refine k_bipush G (dc d_Wo_joined 26 rfl) cB_10 ?_
              refine k_imul G (dc d_Wo_joined 27 rfl) ?_
              refine k_iload_n G (dc d_Wo_joined 28 rfl) 3 rfl rfl ?_
              refine k_iadd G (dc d_Wo_joined 29 rfl) ?_
              refine k_istore G (dc d_Wo_joined 30 rfl) (ls' := [(4, .int ((v4_1 * 10) + p3)), (7, .int (jrem v5_2 10)), (1, .int p1), (2, .int p2), (3, .int p3), (5, .int v5_2), (6, .int v6_3)]) rfl rfl ?_
              refine k_iload G (dc d_Wo_joined 31 rfl) 5 rfl ?_
              refine k_bipush G (dc d_Wo_joined 32 rfl) cB_100 ?_
              refine k_idiv G (dc d_Wo_joined 33 rfl) czI_100 ?_
              refine k_istore G (dc d_Wo_joined 34 rfl) (ls' := [(5, .int (v5_2 / 100)), (4, .int ((v4_1 * 10) + p3)), (7, .int (jrem v5_2 10)), (1, .int p1), (2, .int p2), (3, .int p3), (6, .int v6_3)]) rfl rfl ?_
              refine k_goto G (dc d_Wo_joined 35 rfl) (tgt := 82) rfl ?_
              refine k_sub [3, 4, 5, 1, 0, 6] rfl ?_
              have h9 := kOk_s h
              exact h9
theorem c_Wo_joined {l : Launch} {B : KB} {L : KLay} {M : KMem} {p0 : Int32} {p1 : Int32} {p2 : Int32} {p3 : Int32} (hst : l.stackTraces = false)  {r : Int32} (e : m_Wo_joined p0 p1 p2 p3 = some r) : CtrN l B yX9_joined cX9_joined 8 (some .int) rm_Wo_joined [.int p0, .int p1, .int p2, .int p3] L M (some (.int r)) L M :=
  mk_I rfl hst rfl (fun X hl G _ R => b_Wo_joined G  ⟨_, e, R⟩)
def I_Wo_single : List (Nat × Instr × Nat) := [(0, .iconst 0, 1), (1, .istore_n 2, 1), (2, .iconst 0, 1), (3, .istore_n 3, 1), (4, .iload_n 0, 1), (5, .istore 4, 2), (7, .iconst 0, 1), (8, .istore 5, 2), (10, .iload 5, 2), (12, .bipush 8, 2), (14, .if_icmp .ge 50, 3), (17, .iload 4, 2), (19, .ifCond .eq 45, 3), (22, .iload 4, 2), (24, .bipush 10, 2), (26, .irem, 1), (27, .istore 6, 2), (29, .iload 6, 2), (31, .iload_n 1, 1), (32, .if_icmp .ne 8, 3), (35, .iload_n 3, 1), (36, .iload_n 1, 1), (37, .if_icmp .eq 11, 3), (40, .iload_n 2, 1), (41, .bipush 10, 2), (43, .imul, 1), (44, .iload 6, 2), (46, .iadd, 1), (47, .istore_n 2, 1), (48, .iload 6, 2), (50, .istore_n 3, 1), (51, .iload 4, 2), (53, .bipush 10, 2), (55, .idiv, 1), (56, .istore 4, 2), (58, .iinc 5 1, 3), (61, .goto (-51), 3), (64, .iload_n 2, 1), (65, .ireturn, 1)]
set_option maxRecDepth 100000 in
theorem d_Wo_single : decA cX9_single I_Wo_single = true := by decide +kernel
abbrev rm_Wo_single : Room := ({ frames := 0, cells := 0, slots := 0, locals := 0 } : Room)
def m_Wo_single_l10 (p1 : Int32) : (Int32 × Int32 × Int32 × Int32) → Option ((Int32 × Int32 × Int32 × Int32) ⊕ Int32) := fun (v2_1, v3_2, v4_3, v5_4) =>
 if 8 ≤ v5_4 then
 (some (.inr v2_1))
 else
 (if v4_3 = 0 then
 (some (.inr v2_1))
 else
 (Option.bind (α := Int32) (if (jrem v4_3 10) = p1 then
 (if v3_2 = p1 then
 (some v2_1)
 else
 (some ((v2_1 * 10) + (jrem v4_3 10))))
 else
 (some ((v2_1 * 10) + (jrem v4_3 10)))) fun v2_7 =>
 some (.inl (v2_7, jrem v4_3 10, v4_3 / 10, v5_4 + 1))))
def m_Wo_single (p0 : Int32) (p1 : Int32) : Option Int32 :=
 Option.bind (α := Int32) (kLp (m_Wo_single_l10 p1) kFU (0, 0, p0, 0)) fun v2_11 =>
 some v2_11
set_option maxHeartbeats 4000000 in
set_option maxRecDepth 100000 in
theorem b_Wo_single {X : KX} {B : KB} {L : KLay} {M : KMem} {p0 : Int32} {p1 : Int32} (G : Good X B RX9 cX9_single 7 rm_Wo_single)  (h : kOk (m_Wo_single p0 p1) (fun r => RI X B L 7 cX9_single .int rm_Wo_single r M)) : KK X B L 7 0 0 M 0 [(0, .int p0), (1, .int p1)] [] := by
  unfold m_Wo_single at h
  refine k_iconst G (dc d_Wo_single 0 rfl) cI_0 ?_
  refine k_istore_n G (dc d_Wo_single 1 rfl) (ls' := [(2, .int 0), (0, .int p0), (1, .int p1)]) rfl rfl rfl ?_
  refine k_iconst G (dc d_Wo_single 2 rfl) cI_0 ?_
  refine k_istore_n G (dc d_Wo_single 3 rfl) (ls' := [(3, .int 0), (2, .int 0), (0, .int p0), (1, .int p1)]) rfl rfl rfl ?_
  refine k_iload_n G (dc d_Wo_single 4 rfl) 2 rfl rfl ?_
  refine k_istore G (dc d_Wo_single 5 rfl) (ls' := [(4, .int p0), (3, .int 0), (2, .int 0), (0, .int p0), (1, .int p1)]) rfl rfl ?_
  refine k_iconst G (dc d_Wo_single 6 rfl) cI_0 ?_
  refine k_istore G (dc d_Wo_single 7 rfl) (ls' := [(5, .int 0), (4, .int p0), (3, .int 0), (2, .int 0), (0, .int p0), (1, .int p1)]) rfl rfl ?_
  refine kJ h (fun r12 => KK X B L 7 0 0 M 64 [(2, .int r12)] []) (fun r12 h => ?_) (fun h => ?_)
  · obtain ⟨v2_11, rfl⟩ : ∃ z, z = r12 := ⟨_, rfl⟩
    show KK X B L 7 0 0 M 64 [(2, .int v2_11)] []
    refine k_iload_n G (dc d_Wo_single 37 rfl) 0 rfl rfl ?_
    exact (kOk_s h) _ _ _ _ rfl rfl rfl (dc d_Wo_single 38 rfl)
  · refine k_sub [5, 3, 2, 1, 0] rfl ?_
    refine kLp_ok (P := fun s13 => KK X B L 7 0 0 M 10 [(1, .int p1), (2, .int s13.1), (3, .int s13.2.1), (4, .int s13.2.2.1), (5, .int s13.2.2.2)] []) (fun s13 h => ?_) kFU _ h
    obtain ⟨v2_1, v3_2, v4_3, v5_4⟩ := s13
    unfold m_Wo_single_l10 at h
    show KK X B L 7 0 0 M 10 [(1, .int p1), (2, .int v2_1), (3, .int v3_2), (4, .int v4_3), (5, .int v5_4)] []
    refine k_iload G (dc d_Wo_single 8 rfl) 4 rfl ?_
    refine k_bipush G (dc d_Wo_single 9 rfl) cB_8 ?_
    refine k_icmp_ge G (dc d_Wo_single 10 rfl) (tgt := 64) rfl (fun c5 => ?_) (fun c5 => ?_)
    · replace h := kOk_p c5 h
      refine k_sub [1] rfl ?_
      have h9 := kOk_s h
      exact h9
    · replace h := kOk_n c5 h
      refine k_iload G (dc d_Wo_single 11 rfl) 3 rfl ?_
      refine k_if_eq G (dc d_Wo_single 12 rfl) (tgt := 64) rfl (fun c6 => ?_) (fun c6 => ?_)
      · replace h := kOk_p c6 h
        refine k_sub [1] rfl ?_
        have h9 := kOk_s h
        exact h9
      · replace h := kOk_n c6 h
        refine k_iload G (dc d_Wo_single 13 rfl) 3 rfl ?_
        refine k_bipush G (dc d_Wo_single 14 rfl) cB_10 ?_
        refine k_irem G (dc d_Wo_single 15 rfl) czI_10 ?_
        refine k_istore G (dc d_Wo_single 16 rfl) (ls' := [(6, .int (jrem v4_3 10)), (1, .int p1), (2, .int v2_1), (3, .int v3_2), (4, .int v4_3), (5, .int v5_4)]) rfl rfl ?_
        refine k_iload G (dc d_Wo_single 17 rfl) 0 rfl ?_
        refine k_iload_n G (dc d_Wo_single 18 rfl) 1 rfl rfl ?_
        refine kJ h (fun r8 => KK X B L 7 0 0 M 48 [(1, .int p1), (2, .int r8), (4, .int v4_3), (5, .int v5_4), (6, .int (jrem v4_3 10))] []) (fun r8 h => ?_) (fun h => ?_)
        · obtain ⟨v2_7, rfl⟩ : ∃ z, z = r8 := ⟨_, rfl⟩
          show KK X B L 7 0 0 M 48 [(1, .int p1), (2, .int v2_7), (4, .int v4_3), (5, .int v5_4), (6, .int (jrem v4_3 10))] []
          refine k_iload G (dc d_Wo_single 29 rfl) 4 rfl ?_
          refine k_istore_n G (dc d_Wo_single 30 rfl) (ls' := [(3, .int (jrem v4_3 10)), (1, .int p1), (2, .int v2_7), (4, .int v4_3), (5, .int v5_4), (6, .int (jrem v4_3 10))]) rfl rfl rfl ?_
          refine k_iload G (dc d_Wo_single 31 rfl) 3 rfl ?_
          refine k_bipush G (dc d_Wo_single 32 rfl) cB_10 ?_
          refine k_idiv G (dc d_Wo_single 33 rfl) czI_10 ?_
          refine k_istore G (dc d_Wo_single 34 rfl) (ls' := [(4, .int (v4_3 / 10)), (3, .int (jrem v4_3 10)), (1, .int p1), (2, .int v2_7), (5, .int v5_4), (6, .int (jrem v4_3 10))]) rfl rfl ?_
          refine k_iinc G (dc d_Wo_single 35 rfl) (ls' := [(5, .int (v5_4 + 1)), (4, .int (v4_3 / 10)), (3, .int (jrem v4_3 10)), (1, .int p1), (2, .int v2_7), (6, .int (jrem v4_3 10))]) 4 rfl cI_1 rfl rfl ?_
          refine k_goto G (dc d_Wo_single 36 rfl) (tgt := 10) rfl ?_
          refine k_sub [3, 4, 2, 1, 0] rfl ?_
          have h9 := kOk_s h
          exact h9
        · refine k_icmp_ne G (dc d_Wo_single 19 rfl) (tgt := 40) rfl (fun c9 => ?_) (fun c9 => ?_)
          · replace h := kOk_n c9 h
            refine k_iload_n G (dc d_Wo_single 23 rfl) 2 rfl rfl ?_
            refine k_bipush G (dc d_Wo_single 24 rfl) cB_10 ?_
            refine k_imul G (dc d_Wo_single 25 rfl) ?_
            refine k_iload G (dc d_Wo_single 26 rfl) 0 rfl ?_
            refine k_iadd G (dc d_Wo_single 27 rfl) ?_
            refine k_istore_n G (dc d_Wo_single 28 rfl) (ls' := [(2, .int ((v2_1 * 10) + (jrem v4_3 10))), (6, .int (jrem v4_3 10)), (1, .int p1), (3, .int v3_2), (4, .int v4_3), (5, .int v5_4)]) rfl rfl rfl ?_
            refine k_sub [2, 0, 4, 5, 1] rfl ?_
            have h9 := kOk_s h
            exact h9
          · replace h := kOk_p c9 h
            refine k_iload_n G (dc d_Wo_single 20 rfl) 3 rfl rfl ?_
            refine k_iload_n G (dc d_Wo_single 21 rfl) 1 rfl rfl ?_
            refine k_icmp_eq G (dc d_Wo_single 22 rfl) (tgt := 48) rfl (fun c10 => ?_) (fun c10 => ?_)
            · replace h := kOk_p c10 h
              refine k_sub [1, 2, 4, 5, 0] rfl ?_
              have h9 := kOk_s h
              exact h9
            · replace h := kOk_n c10 h
              refine k_iload_n G (dc d_Wo_single 23 rfl) 2 rfl rfl ?_
              refine k_bipush G (dc d_Wo_single 24 rfl) cB_10 ?_
              refine k_imul G (dc d_Wo_single 25 rfl) ?_
              refine k_iload G (dc d_Wo_single 26 rfl) 0 rfl ?_
              refine k_iadd G (dc d_Wo_single 27 rfl) ?_
              refine k_istore_n G (dc d_Wo_single 28 rfl) (ls' := [(2, .int ((v2_1 * 10) + (jrem v4_3 10))), (6, .int (jrem v4_3 10)), (1, .int p1), (3, .int v3_2), (4, .int v4_3), (5, .int v5_4)]) rfl rfl rfl ?_
              refine k_sub [2, 0, 4, 5, 1] rfl ?_
              have h9 := kOk_s h
              exact h9
theorem c_Wo_single {l : Launch} {B : KB} {L : KLay} {M : KMem} {p0 : Int32} {p1 : Int32} (hst : l.stackTraces = false)  {r : Int32} (e : m_Wo_single p0 p1 = some r) : CtrN l B yX9_single cX9_single 7 (some .int) rm_Wo_single [.int p0, .int p1] L M (some (.int r)) L M :=
  mk_I rfl hst rfl (fun X hl G _ R => b_Wo_single G  ⟨_, e, R⟩)
def I_Wo_decreed : List (Nat × Instr × Nat) := [(0, .iload 4, 2), (2, .invokestatic 16, 3), (5, .istore 5, 2), (7, .iload_n 0, 1), (8, .lookupswitch 44 #[(0, 28), (1, 35)], 28), (36, .iload 5, 2), (38, .iload_n 1, 1), (39, .invokestatic 20, 3), (42, .ireturn, 1), (43, .iload 5, 2), (45, .iload_n 1, 1), (46, .iload_n 2, 1), (47, .iload_n 3, 1), (48, .invokestatic 24, 3), (51, .ireturn, 1), (52, .iload 5, 2), (54, .iload_n 1, 1), (55, .invokestatic 28, 3), (58, .ireturn, 1)]
set_option maxRecDepth 100000 in
theorem d_Wo_decreed : decA cX9_decreed I_Wo_decreed = true := by decide +kernel
abbrev rm_Wo_decreed : Room := ({ frames := 1, cells := 0, slots := 0, locals := 27 } : Room)
def m_Wo_decreed (p0 : Int32) (p1 : Int32) (p2 : Int32) (p3 : Int32) (p4 : Int32) : Option Int32 :=
 Option.bind (m_Wo_mirrored p4) fun x2 =>
 if p0 = 0 then
 (Option.bind (m_Wo_dropped x2 p1) fun x5 =>
 some x5)
 else
 (if p0 = 1 then
 (Option.bind (m_Wo_joined x2 p1 p2 p3) fun x8 =>
 some x8)
 else
 (Option.bind (m_Wo_single x2 p1) fun x10 =>
 some x10))
set_option maxHeartbeats 4000000 in
set_option maxRecDepth 100000 in
theorem b_Wo_decreed {X : KX} {B : KB} {L : KLay} {M : KMem} {p0 : Int32} {p1 : Int32} {p2 : Int32} {p3 : Int32} {p4 : Int32} (G : Good X B RX9 cX9_decreed 6 rm_Wo_decreed)  (h : kOk (m_Wo_decreed p0 p1 p2 p3 p4) (fun r => RI X B L 6 cX9_decreed .int rm_Wo_decreed r M)) : KK X B L 6 0 0 M 0 [(0, .int p0), (1, .int p1), (2, .int p2), (3, .int p3), (4, .int p4)] [] := by
  unfold m_Wo_decreed at h
  refine k_iload G (dc d_Wo_decreed 0 rfl) 4 rfl ?_
  obtain ⟨x2, e1, h⟩ := kOk_b h
  refine k_cSI G (dc d_Wo_decreed 1 rfl) mi_Wo_mirrored ms_Wo_mirrored ml_RX9_16 (c_Wo_mirrored (gst G)  e1) rfl rfl ⟨rfl, rfl⟩ rfl ⟨rfl, rfl⟩ ⟨rfl, rfl⟩ ?_
  refine k_istore G (dc d_Wo_decreed 2 rfl) (ls' := [(5, .int x2), (0, .int p0), (1, .int p1), (2, .int p2), (3, .int p3), (4, .int p4)]) rfl rfl ?_
  refine k_iload_n G (dc d_Wo_decreed 3 rfl) 1 rfl rfl ?_
  by_cases c3 : p0 = 0
  · replace h := kOk_p c3 h
    refine k_lkI G (dc d_Wo_decreed 4 rfl) (off := 28) (tgt := 36) c3 (by decide) (by decide) (by decide) ?_
    refine k_iload G (dc d_Wo_decreed 5 rfl) 0 rfl ?_
    refine k_iload_n G (dc d_Wo_decreed 6 rfl) 2 rfl rfl ?_
    obtain ⟨x5, e4, h⟩ := kOk_b h
    refine k_cSI G (dc d_Wo_decreed 7 rfl) mi_Wo_dropped ms_Wo_dropped ml_RX9_20 (c_Wo_dropped (gst G)  e4) rfl rfl ⟨rfl, rfl⟩ rfl ⟨rfl, rfl⟩ ⟨rfl, rfl⟩ ?_
    exact (kOk_s h) _ _ _ _ rfl rfl rfl (dc d_Wo_decreed 8 rfl)
  · replace h := kOk_n c3 h
    by_cases c6 : p0 = 1
    · replace h := kOk_p c6 h
      refine k_lkI G (dc d_Wo_decreed 4 rfl) (off := 35) (tgt := 43) c6 (by decide) (by decide) (by decide) ?_
      refine k_iload G (dc d_Wo_decreed 9 rfl) 0 rfl ?_
      refine k_iload_n G (dc d_Wo_decreed 10 rfl) 2 rfl rfl ?_
      refine k_iload_n G (dc d_Wo_decreed 11 rfl) 3 rfl rfl ?_
      refine k_iload_n G (dc d_Wo_decreed 12 rfl) 4 rfl rfl ?_
      obtain ⟨x8, e7, h⟩ := kOk_b h
      refine k_cSI G (dc d_Wo_decreed 13 rfl) mi_Wo_joined ms_Wo_joined ml_RX9_24 (c_Wo_joined (gst G)  e7) rfl rfl ⟨rfl, rfl⟩ rfl ⟨rfl, rfl⟩ ⟨rfl, rfl⟩ ?_
      exact (kOk_s h) _ _ _ _ rfl rfl rfl (dc d_Wo_decreed 14 rfl)
    · replace h := kOk_n c6 h
      refine k_lkO G (dc d_Wo_decreed 4 rfl) (tgt := 52) (fun q hq => ?_) (by decide) (by decide) ?_
      · simp only [List.mem_cons, List.not_mem_nil, or_false] at hq
        rcases hq with rfl | rfl
        · exact fun h9 => c3 (h9.trans cI_0)
        · exact fun h9 => c6 (h9.trans cI_1)
      · refine k_iload G (dc d_Wo_decreed 15 rfl) 0 rfl ?_
        refine k_iload_n G (dc d_Wo_decreed 16 rfl) 2 rfl rfl ?_
        obtain ⟨x10, e9, h⟩ := kOk_b h
        refine k_cSI G (dc d_Wo_decreed 17 rfl) mi_Wo_single ms_Wo_single ml_RX9_28 (c_Wo_single (gst G)  e9) rfl rfl ⟨rfl, rfl⟩ rfl ⟨rfl, rfl⟩ ⟨rfl, rfl⟩ ?_
        exact (kOk_s h) _ _ _ _ rfl rfl rfl (dc d_Wo_decreed 18 rfl)
theorem c_Wo_decreed {l : Launch} {B : KB} {L : KLay} {M : KMem} {p0 : Int32} {p1 : Int32} {p2 : Int32} {p3 : Int32} {p4 : Int32} (hst : l.stackTraces = false)  {r : Int32} (e : m_Wo_decreed p0 p1 p2 p3 p4 = some r) : CtrN l B yX9_decreed cX9_decreed 6 (some .int) rm_Wo_decreed [.int p0, .int p1, .int p2, .int p3, .int p4] L M (some (.int r)) L M :=
  mk_I rfl hst rfl (fun X hl G _ R => b_Wo_decreed G  ⟨_, e, R⟩)
def I_Wo_letters : List (Nat × Instr × Nat) := [(0, .iconst 0, 1), (1, .istore_n 1, 1), (2, .iload_n 0, 1), (3, .istore_n 2, 1), (4, .iconst 0, 1), (5, .istore_n 3, 1), (6, .iload_n 3, 1), (7, .bipush 8, 2), (9, .if_icmp .ge 21, 3), (12, .iload_n 2, 1), (13, .ifCond .eq 17, 3), (16, .iinc 1 1, 3), (19, .iload_n 2, 1), (20, .bipush 10, 2), (22, .idiv, 1), (23, .istore_n 2, 1), (24, .iinc 3 1, 3), (27, .goto (-21), 3), (30, .iload_n 1, 1), (31, .ireturn, 1)]
set_option maxRecDepth 100000 in
theorem d_Wo_letters : decA cX9_letters I_Wo_letters = true := by decide +kernel
abbrev rm_Wo_letters : Room := ({ frames := 0, cells := 0, slots := 0, locals := 0 } : Room)
def m_Wo_letters_l6  : (Int32 × Int32 × Int32) → Option ((Int32 × Int32 × Int32) ⊕ Int32) := fun (v1_1, v2_2, v3_3) =>
 if 8 ≤ v3_3 then
 (some (.inr v1_1))
 else
 (if v2_2 = 0 then
 (some (.inr v1_1))
 else
 (some (.inl (v1_1 + 1, v2_2 / 10, v3_3 + 1))))
def m_Wo_letters (p0 : Int32) : Option Int32 :=
 Option.bind (α := Int32) (kLp m_Wo_letters_l6 kFU (0, p0, 0)) fun v1_6 =>
 some v1_6
set_option maxHeartbeats 4000000 in
set_option maxRecDepth 100000 in
theorem b_Wo_letters {X : KX} {B : KB} {L : KLay} {M : KMem} {p0 : Int32} (G : Good X B RX9 cX9_letters 4 rm_Wo_letters)  (h : kOk (m_Wo_letters p0) (fun r => RI X B L 4 cX9_letters .int rm_Wo_letters r M)) : KK X B L 4 0 0 M 0 [(0, .int p0)] [] := by
  unfold m_Wo_letters at h
  refine k_iconst G (dc d_Wo_letters 0 rfl) cI_0 ?_
  refine k_istore_n G (dc d_Wo_letters 1 rfl) (ls' := [(1, .int 0), (0, .int p0)]) rfl rfl rfl ?_
  refine k_iload_n G (dc d_Wo_letters 2 rfl) 1 rfl rfl ?_
  refine k_istore_n G (dc d_Wo_letters 3 rfl) (ls' := [(2, .int p0), (1, .int 0), (0, .int p0)]) rfl rfl rfl ?_
  refine k_iconst G (dc d_Wo_letters 4 rfl) cI_0 ?_
  refine k_istore_n G (dc d_Wo_letters 5 rfl) (ls' := [(3, .int 0), (2, .int p0), (1, .int 0), (0, .int p0)]) rfl rfl rfl ?_
  refine kJ h (fun r7 => KK X B L 4 0 0 M 30 [(1, .int r7)] []) (fun r7 h => ?_) (fun h => ?_)
  · obtain ⟨v1_6, rfl⟩ : ∃ z, z = r7 := ⟨_, rfl⟩
    show KK X B L 4 0 0 M 30 [(1, .int v1_6)] []
    refine k_iload_n G (dc d_Wo_letters 18 rfl) 0 rfl rfl ?_
    exact (kOk_s h) _ _ _ _ rfl rfl rfl (dc d_Wo_letters 19 rfl)
  · refine k_sub [2, 1, 0] rfl ?_
    refine kLp_ok (P := fun s8 => KK X B L 4 0 0 M 6 [(1, .int s8.1), (2, .int s8.2.1), (3, .int s8.2.2)] []) (fun s8 h => ?_) kFU _ h
    obtain ⟨v1_1, v2_2, v3_3⟩ := s8
    unfold m_Wo_letters_l6 at h
    show KK X B L 4 0 0 M 6 [(1, .int v1_1), (2, .int v2_2), (3, .int v3_3)] []
    refine k_iload_n G (dc d_Wo_letters 6 rfl) 2 rfl rfl ?_
    refine k_bipush G (dc d_Wo_letters 7 rfl) cB_8 ?_
    refine k_icmp_ge G (dc d_Wo_letters 8 rfl) (tgt := 30) rfl (fun c4 => ?_) (fun c4 => ?_)
    · replace h := kOk_p c4 h
      refine k_sub [0] rfl ?_
      have h9 := kOk_s h
      exact h9
    · replace h := kOk_n c4 h
      refine k_iload_n G (dc d_Wo_letters 9 rfl) 1 rfl rfl ?_
      refine k_if_eq G (dc d_Wo_letters 10 rfl) (tgt := 30) rfl (fun c5 => ?_) (fun c5 => ?_)
      · replace h := kOk_p c5 h
        refine k_sub [0] rfl ?_
        have h9 := kOk_s h
        exact h9
      · replace h := kOk_n c5 h
        refine k_iinc G (dc d_Wo_letters 11 rfl) (ls' := [(1, .int (v1_1 + 1)), (2, .int v2_2), (3, .int v3_3)]) 0 rfl cI_1 rfl rfl ?_
        refine k_iload_n G (dc d_Wo_letters 12 rfl) 1 rfl rfl ?_
        refine k_bipush G (dc d_Wo_letters 13 rfl) cB_10 ?_
        refine k_idiv G (dc d_Wo_letters 14 rfl) czI_10 ?_
        refine k_istore_n G (dc d_Wo_letters 15 rfl) (ls' := [(2, .int (v2_2 / 10)), (1, .int (v1_1 + 1)), (3, .int v3_3)]) rfl rfl rfl ?_
        refine k_iinc G (dc d_Wo_letters 16 rfl) (ls' := [(3, .int (v3_3 + 1)), (2, .int (v2_2 / 10)), (1, .int (v1_1 + 1))]) 2 rfl cI_1 rfl rfl ?_
        refine k_goto G (dc d_Wo_letters 17 rfl) (tgt := 6) rfl ?_
        refine k_sub [2, 1, 0] rfl ?_
        have h9 := kOk_s h
        exact h9
theorem c_Wo_letters {l : Launch} {B : KB} {L : KLay} {M : KMem} {p0 : Int32} (hst : l.stackTraces = false)  {r : Int32} (e : m_Wo_letters p0 = some r) : CtrN l B yX9_letters cX9_letters 4 (some .int) rm_Wo_letters [.int p0] L M (some (.int r)) L M :=
  mk_I rfl hst rfl (fun X hl G _ R => b_Wo_letters G  ⟨_, e, R⟩)
def I_Wo_isWord : List (Nat × Instr × Nat) := [(0, .iload_n 0, 1), (1, .iconst 1, 1), (2, .if_icmp .lt 9, 3), (5, .iload_n 0, 1), (6, .ldc 9, 2), (8, .if_icmp .le 5, 3), (11, .iconst 0, 1), (12, .ireturn, 1), (13, .iload_n 0, 1), (14, .istore_n 1, 1), (15, .iconst 0, 1), (16, .istore_n 2, 1), (17, .iload_n 2, 1), (18, .bipush 8, 2), (20, .if_icmp .ge 30, 3), (23, .iload_n 1, 1), (24, .ifCond .eq 26, 3), (27, .iload_n 1, 1), (28, .bipush 10, 2), (30, .irem, 1), (31, .invokestatic 10, 3), (34, .ifCond .ne 5, 3), (37, .iconst 0, 1), (38, .ireturn, 1), (39, .iload_n 1, 1), (40, .bipush 10, 2), (42, .idiv, 1), (43, .istore_n 1, 1), (44, .iinc 2 1, 3), (47, .goto (-30), 3), (50, .iconst 1, 1), (51, .ireturn, 1)]
set_option maxRecDepth 100000 in
theorem d_Wo_isWord : decA cX9_isWord I_Wo_isWord = true := by decide +kernel
abbrev rm_Wo_isWord : Room := ({ frames := 1, cells := 0, slots := 0, locals := 20 } : Room)
def m_Wo_isWord_l17  : (Int32 × Int32) → Option ((Int32 × Int32) ⊕ (Int32 ⊕ Unit)) := fun (v1_5, v2_6) =>
 if 8 ≤ v2_6 then
 (some (.inr (.inr ())))
 else
 (if v1_5 = 0 then
 (some (.inr (.inr ())))
 else
 (Option.bind (m_Wo_isLetter (jrem v1_5 10)) fun x10 =>
 if x10 = 0 then
 (Option.bind (kz 0) fun z12 =>
 some (.inr (.inl z12)))
 else
 (some (.inl (v1_5 / 10, v2_6 + 1)))))
def m_Wo_isWord (p0 : Int32) : Option Int32 :=
 if p0 < 1 then
 (Option.bind (kz 0) fun z2 =>
 some z2)
 else
 (if p0 ≤ 66666666 then
 (Option.bind (α := Int32 ⊕ Unit) (kLp m_Wo_isWord_l17 kFU (p0, 0)) fun r => match r with
 | .inl q => some q
 | .inr _ =>
 (Option.bind (kz 1) fun z14 =>
 some z14))
 else
 (Option.bind (kz 0) fun z18 =>
 some z18))
set_option maxHeartbeats 4000000 in
set_option maxRecDepth 100000 in
theorem b_Wo_isWord {X : KX} {B : KB} {L : KLay} {M : KMem} {p0 : Int32} (G : Good X B RX9 cX9_isWord 3 rm_Wo_isWord)  (h : kOk (m_Wo_isWord p0) (fun r => RI X B L 3 cX9_isWord .boolean rm_Wo_isWord r M)) : KK X B L 3 0 0 M 0 [(0, .int p0)] [] := by
  unfold m_Wo_isWord at h
  refine k_iload_n G (dc d_Wo_isWord 0 rfl) 0 rfl rfl ?_
  refine k_iconst G (dc d_Wo_isWord 1 rfl) cI_1 ?_
  refine k_icmp_lt G (dc d_Wo_isWord 2 rfl) (tgt := 11) rfl (fun c1 => ?_) (fun c1 => ?_)
  · replace h := kOk_p c1 h
    refine k_iconst G (dc d_Wo_isWord 6 rfl) cI_0 ?_
    obtain ⟨z2, e3, h⟩ := kOk_b h
    obtain ⟨e3, nz2, -⟩ := kz_ok e3
    rw [e3]
    exact (kOk_s h) _ _ _ _ rfl rfl nz2 (dc d_Wo_isWord 7 rfl)
  · replace h := kOk_n c1 h
    refine k_iload_n G (dc d_Wo_isWord 3 rfl) 0 rfl rfl ?_
    refine k_ldc G (dc d_Wo_isWord 4 rfl) ld_RX9_9 ?_
    refine k_icmp_le G (dc d_Wo_isWord 5 rfl) (tgt := 13) rfl (fun c4 => ?_) (fun c4 => ?_)
    · replace h := kOk_p c4 h
      refine k_iload_n G (dc d_Wo_isWord 8 rfl) 0 rfl rfl ?_
      refine k_istore_n G (dc d_Wo_isWord 9 rfl) (ls' := [(1, .int p0), (0, .int p0)]) rfl rfl rfl ?_
      refine k_iconst G (dc d_Wo_isWord 10 rfl) cI_0 ?_
      refine k_istore_n G (dc d_Wo_isWord 11 rfl) (ls' := [(2, .int 0), (1, .int p0), (0, .int p0)]) rfl rfl rfl ?_
      refine kJ h (fun r16 => match r16 with | .inl q => RI X B L 3 cX9_isWord .boolean rm_Wo_isWord q M | .inr r16 => KK X B L 3 0 0 M 50 [] []) (fun r16 h => ?_) (fun h => ?_)
      · rcases r16 with q | r16
        · have h9 := kOk_s h
          exact h9
        · show KK X B L 3 0 0 M 50 [] []
          refine k_iconst G (dc d_Wo_isWord 30 rfl) cI_1 ?_
          obtain ⟨z14, e15, h⟩ := kOk_b h
          obtain ⟨e15, nz14, -⟩ := kz_ok e15
          rw [e15]
          exact (kOk_s h) _ _ _ _ rfl rfl nz14 (dc d_Wo_isWord 31 rfl)
      · refine k_sub [1, 0] rfl ?_
        refine kLp_ok (P := fun s17 => KK X B L 3 0 0 M 17 [(1, .int s17.1), (2, .int s17.2)] []) (fun s17 h => ?_) kFU _ h
        obtain ⟨v1_5, v2_6⟩ := s17
        unfold m_Wo_isWord_l17 at h
        show KK X B L 3 0 0 M 17 [(1, .int v1_5), (2, .int v2_6)] []
        refine k_iload_n G (dc d_Wo_isWord 12 rfl) 1 rfl rfl ?_
        refine k_bipush G (dc d_Wo_isWord 13 rfl) cB_8 ?_
        refine k_icmp_ge G (dc d_Wo_isWord 14 rfl) (tgt := 50) rfl (fun c7 => ?_) (fun c7 => ?_)
        · replace h := kOk_p c7 h
          refine k_sub [] rfl ?_
          have h9 := kOk_s h
          exact h9
        · replace h := kOk_n c7 h
          refine k_iload_n G (dc d_Wo_isWord 15 rfl) 0 rfl rfl ?_
          refine k_if_eq G (dc d_Wo_isWord 16 rfl) (tgt := 50) rfl (fun c8 => ?_) (fun c8 => ?_)
          · replace h := kOk_p c8 h
            refine k_sub [] rfl ?_
            have h9 := kOk_s h
            exact h9
          · replace h := kOk_n c8 h
            refine k_iload_n G (dc d_Wo_isWord 17 rfl) 0 rfl rfl ?_
            refine k_bipush G (dc d_Wo_isWord 18 rfl) cB_10 ?_
            refine k_irem G (dc d_Wo_isWord 19 rfl) czI_10 ?_
            obtain ⟨x10, e9, h⟩ := kOk_b h
            refine k_cSI G (dc d_Wo_isWord 20 rfl) mi_Wo_isLetter ms_Wo_isLetter ml_RX9_10 (c_Wo_isLetter (gst G)  e9) rfl rfl ⟨rfl, rfl⟩ rfl ⟨rfl, rfl⟩ ⟨rfl, rfl⟩ ?_
            refine k_if_ne G (dc d_Wo_isWord 21 rfl) (tgt := 39) rfl (fun c11 => ?_) (fun c11 => ?_)
            · replace h := kOk_n c11 h
              refine k_iload_n G (dc d_Wo_isWord 24 rfl) 0 rfl rfl ?_
              refine k_bipush G (dc d_Wo_isWord 25 rfl) cB_10 ?_
              refine k_idiv G (dc d_Wo_isWord 26 rfl) czI_10 ?_
              refine k_istore_n G (dc d_Wo_isWord 27 rfl) (ls' := [(1, .int (v1_5 / 10)), (2, .int v2_6)]) rfl rfl rfl ?_
              refine k_iinc G (dc d_Wo_isWord 28 rfl) (ls' := [(2, .int (v2_6 + 1)), (1, .int (v1_5 / 10))]) 1 rfl cI_1 rfl rfl ?_
              refine k_goto G (dc d_Wo_isWord 29 rfl) (tgt := 17) rfl ?_
              refine k_sub [1, 0] rfl ?_
              have h9 := kOk_s h
              exact h9
            · replace h := kOk_p c11 h
              refine k_iconst G (dc d_Wo_isWord 22 rfl) cI_0 ?_
              obtain ⟨z12, e13, h⟩ := kOk_b h
              obtain ⟨e13, nz12, -⟩ := kz_ok e13
              rw [e13]
              exact (kOk_s h) _ _ _ _ rfl rfl nz12 (dc d_Wo_isWord 23 rfl)
    · replace h := kOk_n c4 h
      refine k_iconst G (dc d_Wo_isWord 6 rfl) cI_0 ?_
      obtain ⟨z18, e19, h⟩ := kOk_b h
      obtain ⟨e19, nz18, -⟩ := kz_ok e19
      rw [e19]
      exact (kOk_s h) _ _ _ _ rfl rfl nz18 (dc d_Wo_isWord 7 rfl)
theorem c_Wo_isWord {l : Launch} {B : KB} {L : KLay} {M : KMem} {p0 : Int32} (hst : l.stackTraces = false)  {r : Int32} (e : m_Wo_isWord p0 = some r) : CtrN l B yX9_isWord cX9_isWord 3 (some .boolean) rm_Wo_isWord [.int p0] L M (some (.int r)) L M :=
  mk_I rfl hst rfl (fun X hl G _ R => b_Wo_isWord G  ⟨_, e, R⟩)
