/-! laid by wip/whole/lay.py: Sg_isLatin1, Sg_coder, Sg_length, Sl_canEncode, Sl_indexOfChar, Sl_indexOf, Sg_indexOf2, Sg_indexOf -/
def I_Sg_isLatin1 : List (Nat × Instr × Nat) := [(0, .getstatic 38, 3), (3, .ifCond .eq 14, 3), (6, .aload_n 0, 1), (7, .getfield 15, 3), (10, .ifCond .ne 7, 3), (13, .iconst 1, 1), (14, .goto 4, 3), (17, .iconst 0, 1), (18, .ireturn, 1)]
set_option maxRecDepth 100000 in
theorem d_Sg_isLatin1 : decA cJ0_isLatin1_aae02 I_Sg_isLatin1 = true := by decide +kernel
abbrev rm_Sg_isLatin1 : Room := ({ frames := 0, cells := 0, slots := 0, locals := 0 } : Room)
def m_Sg_isLatin1 (M : KMem) : Option Int32 :=
 Option.bind (α := Int32) (if (1 : Int32) = 0 then
 (some 0)
 else
 (if (0 : Int32) = 0 then
 (some 1)
 else
 (some 0))) fun t1 =>
 Option.bind (kz t1) fun z3 =>
 some z3
set_option maxHeartbeats 4000000 in
set_option maxRecDepth 100000 in
theorem b_Sg_isLatin1 {X : KX} {B : KB} {L : KLay} {M : KMem}  (G : Good X B RJ0 cJ0_isLatin1_aae02 1 rm_Sg_isLatin1)  (h : kOk (m_Sg_isLatin1 M) (fun r => RI X B L 1 cJ0_isLatin1_aae02 .boolean rm_Sg_isLatin1 r M)) : KK X B L 1 0 0 M 0 [(0, .ref (bSa B))] [] := by
  unfold m_Sg_isLatin1 at h
  refine k_getCS G rfl (dc d_Sg_isLatin1 0 rfl) fs_RJ0_38 ?_
  refine kJ h (fun r2 => KK X B L 1 0 0 M 18 [] [.int r2]) (fun r2 h => ?_) (fun h => ?_)
  · obtain ⟨t1, rfl⟩ : ∃ z, z = r2 := ⟨_, rfl⟩
    show KK X B L 1 0 0 M 18 [] [.int t1]
    obtain ⟨z3, e4, h⟩ := kOk_b h
    obtain ⟨e4, nz3, -⟩ := kz_ok e4
    rw [e4]
    exact (kOk_s h) _ _ _ _ rfl rfl nz3 (dc d_Sg_isLatin1 8 rfl)
  · refine k_if_eq G (dc d_Sg_isLatin1 1 rfl) (tgt := 17) rfl (fun c5 => ?_) (fun c5 => ?_)
    · replace h := kOk_p c5 h
      refine k_iconst G (dc d_Sg_isLatin1 7 rfl) cI_0 ?_
      refine k_sub [] rfl ?_
      have h9 := kOk_s h
      exact h9
    · replace h := kOk_n c5 h
      refine k_aload_n G (dc d_Sg_isLatin1 2 rfl) 0 rfl rfl ?_
      refine k_getCo G rfl (dc d_Sg_isLatin1 3 rfl) fs_RJ0_15 ?_
      refine k_if_ne G (dc d_Sg_isLatin1 4 rfl) (tgt := 17) rfl (fun c6 => ?_) (fun c6 => ?_)
      · replace h := kOk_n c6 h
        refine k_iconst G (dc d_Sg_isLatin1 7 rfl) cI_0 ?_
        refine k_sub [] rfl ?_
        have h9 := kOk_s h
        exact h9
      · replace h := kOk_p c6 h
        refine k_iconst G (dc d_Sg_isLatin1 5 rfl) cI_1 ?_
        refine k_goto G (dc d_Sg_isLatin1 6 rfl) (tgt := 18) rfl ?_
        refine k_sub [] rfl ?_
        have h9 := kOk_s h
        exact h9
theorem c_Sg_isLatin1 {l : Launch} {B : KB} {L : KLay} {M : KMem}  (hst : l.stackTraces = false)  {r : Int32} (e : m_Sg_isLatin1 M = some r) : CtrN l B yJ0_isLatin1_aae02 cJ0_isLatin1_aae02 1 (some .boolean) rm_Sg_isLatin1 [.ref (bSa B)] L M (some (.int r)) L M :=
  mk_I rfl hst rfl (fun X hl G _ R => b_Sg_isLatin1 G  ⟨_, e, R⟩)
def I_Sg_coder : List (Nat × Instr × Nat) := [(0, .getstatic 38, 3), (3, .ifCond .eq 10, 3), (6, .aload_n 0, 1), (7, .getfield 15, 3), (10, .goto 4, 3), (13, .iconst 1, 1), (14, .ireturn, 1)]
set_option maxRecDepth 100000 in
theorem d_Sg_coder : decA cJ0_coder_7d493 I_Sg_coder = true := by decide +kernel
abbrev rm_Sg_coder : Room := ({ frames := 0, cells := 0, slots := 0, locals := 0 } : Room)
def m_Sg_coder (M : KMem) : Option Int32 :=
 Option.bind (α := Int32) (if (1 : Int32) = 0 then
 (some 1)
 else
 (some 0)) fun t1 =>
 Option.bind (kz t1) fun z3 =>
 some z3
set_option maxHeartbeats 4000000 in
set_option maxRecDepth 100000 in
theorem b_Sg_coder {X : KX} {B : KB} {L : KLay} {M : KMem}  (G : Good X B RJ0 cJ0_coder_7d493 1 rm_Sg_coder)  (h : kOk (m_Sg_coder M) (fun r => RI X B L 1 cJ0_coder_7d493 .byte rm_Sg_coder r M)) : KK X B L 1 0 0 M 0 [(0, .ref (bSa B))] [] := by
  unfold m_Sg_coder at h
  refine k_getCS G rfl (dc d_Sg_coder 0 rfl) fs_RJ0_38 ?_
  refine kJ h (fun r2 => KK X B L 1 0 0 M 14 [] [.int r2]) (fun r2 h => ?_) (fun h => ?_)
  · obtain ⟨t1, rfl⟩ : ∃ z, z = r2 := ⟨_, rfl⟩
    show KK X B L 1 0 0 M 14 [] [.int t1]
    obtain ⟨z3, e4, h⟩ := kOk_b h
    obtain ⟨e4, nz3, -⟩ := kzb_ok e4
    rw [e4]
    exact (kOk_s h) _ _ _ _ rfl rfl nz3 (dc d_Sg_coder 6 rfl)
  · refine k_if_eq G (dc d_Sg_coder 1 rfl) (tgt := 13) rfl (fun c5 => ?_) (fun c5 => ?_)
    · replace h := kOk_p c5 h
      refine k_iconst G (dc d_Sg_coder 5 rfl) cI_1 ?_
      refine k_sub [] rfl ?_
      have h9 := kOk_s h
      exact h9
    · replace h := kOk_n c5 h
      refine k_aload_n G (dc d_Sg_coder 2 rfl) 0 rfl rfl ?_
      refine k_getCo G rfl (dc d_Sg_coder 3 rfl) fs_RJ0_15 ?_
      refine k_goto G (dc d_Sg_coder 4 rfl) (tgt := 14) rfl ?_
      refine k_sub [] rfl ?_
      have h9 := kOk_s h
      exact h9
theorem c_Sg_coder {l : Launch} {B : KB} {L : KLay} {M : KMem}  (hst : l.stackTraces = false)  {r : Int32} (e : m_Sg_coder M = some r) : CtrN l B yJ0_coder_7d493 cJ0_coder_7d493 1 (some .byte) rm_Sg_coder [.ref (bSa B)] L M (some (.int r)) L M :=
  mk_I rfl hst rfl (fun X hl G _ R => b_Sg_coder G  ⟨_, e, R⟩)
def I_Sg_length : List (Nat × Instr × Nat) := [(0, .aload_n 0, 1), (1, .getfield 9, 3), (4, .arraylength, 1), (5, .aload_n 0, 1), (6, .invokevirtual 335, 3), (9, .ishr, 1), (10, .ireturn, 1)]
set_option maxRecDepth 100000 in
theorem d_Sg_length : decA cJ0_length_8abf5 I_Sg_length = true := by decide +kernel
abbrev rm_Sg_length : Room := ({ frames := 1, cells := 0, slots := 0, locals := 20 } : Room)
def m_Sg_length (M : KMem) : Option Int32 :=
 Option.bind (m_Sg_coder M) fun x2 =>
 some (jshr 8 x2)
set_option maxHeartbeats 4000000 in
set_option maxRecDepth 100000 in
theorem b_Sg_length {X : KX} {B : KB} {L : KLay} {M : KMem}  (G : Good X B RJ0 cJ0_length_8abf5 1 rm_Sg_length)  (h : kOk (m_Sg_length M) (fun r => RI X B L 1 cJ0_length_8abf5 .int rm_Sg_length r M)) : KK X B L 1 0 0 M 0 [(0, .ref (bSa B))] [] := by
  unfold m_Sg_length at h
  refine k_aload_n G (dc d_Sg_length 0 rfl) 0 rfl rfl ?_
  refine k_getVa G rfl (dc d_Sg_length 1 rfl) fs_RJ0_9 ?_
  refine k_lenB G (dc d_Sg_length 2 rfl) ?_
  refine k_aload_n G (dc d_Sg_length 3 rfl) 0 rfl rfl ?_
  obtain ⟨x2, e1, h⟩ := kOk_b h
  refine k_cTI G (dc d_Sg_length 4 rfl) mi_Sg_coder mv_Sg_coder rfl ml_RJ0_335 (c_Sg_coder (gst G)  e1) rfl rfl ⟨rfl, rfl⟩ rfl ⟨rfl, rfl⟩ ⟨rfl, rfl⟩ ?_
  refine k_ishr G (dc d_Sg_length 5 rfl) ?_
  exact (kOk_s h) _ _ _ _ rfl rfl rfl (dc d_Sg_length 6 rfl)
theorem c_Sg_length {l : Launch} {B : KB} {L : KLay} {M : KMem}  (hst : l.stackTraces = false)  {r : Int32} (e : m_Sg_length M = some r) : CtrN l B yJ0_length_8abf5 cJ0_length_8abf5 1 (some .int) rm_Sg_length [.ref (bSa B)] L M (some (.int r)) L M :=
  mk_I rfl hst rfl (fun X hl G _ R => b_Sg_length G  ⟨_, e, R⟩)
def I_Sl_canEncode : List (Nat × Instr × Nat) := [(0, .iload_n 0, 1), (1, .ifCond .lt 14, 3), (4, .iload_n 0, 1), (5, .sipush 255, 3), (8, .if_icmp .gt 7, 3), (11, .iconst 1, 1), (12, .goto 4, 3), (15, .iconst 0, 1), (16, .ireturn, 1)]
set_option maxRecDepth 100000 in
theorem d_Sl_canEncode : decA cJ1_canEncode_9a6ad I_Sl_canEncode = true := by decide +kernel
abbrev rm_Sl_canEncode : Room := ({ frames := 0, cells := 0, slots := 0, locals := 0 } : Room)
def m_Sl_canEncode (p0 : Int32) : Option Int32 :=
 Option.bind (α := Int32) (if p0 < 0 then
 (some 0)
 else
 (if 255 < p0 then
 (some 0)
 else
 (some 1))) fun t1 =>
 Option.bind (kz t1) fun z3 =>
 some z3
set_option maxHeartbeats 4000000 in
set_option maxRecDepth 100000 in
theorem b_Sl_canEncode {X : KX} {B : KB} {L : KLay} {M : KMem} {p0 : Int32} (G : Good X B RJ1 cJ1_canEncode_9a6ad 1 rm_Sl_canEncode)  (h : kOk (m_Sl_canEncode p0) (fun r => RI X B L 1 cJ1_canEncode_9a6ad .boolean rm_Sl_canEncode r M)) : KK X B L 1 0 0 M 0 [(0, .int p0)] [] := by
  unfold m_Sl_canEncode at h
  refine k_iload_n G (dc d_Sl_canEncode 0 rfl) 0 rfl rfl ?_
  refine kJ h (fun r2 => KK X B L 1 0 0 M 16 [] [.int r2]) (fun r2 h => ?_) (fun h => ?_)
  · obtain ⟨t1, rfl⟩ : ∃ z, z = r2 := ⟨_, rfl⟩
    show KK X B L 1 0 0 M 16 [] [.int t1]
    obtain ⟨z3, e4, h⟩ := kOk_b h
    obtain ⟨e4, nz3, -⟩ := kz_ok e4
    rw [e4]
    exact (kOk_s h) _ _ _ _ rfl rfl nz3 (dc d_Sl_canEncode 8 rfl)
  · refine k_if_lt G (dc d_Sl_canEncode 1 rfl) (tgt := 15) rfl (fun c5 => ?_) (fun c5 => ?_)
    · replace h := kOk_p c5 h
      refine k_iconst G (dc d_Sl_canEncode 7 rfl) cI_0 ?_
      refine k_sub [] rfl ?_
      have h9 := kOk_s h
      exact h9
    · replace h := kOk_n c5 h
      refine k_iload_n G (dc d_Sl_canEncode 2 rfl) 0 rfl rfl ?_
      refine k_sipush G (dc d_Sl_canEncode 3 rfl) cS_255 ?_
      refine k_icmp_gt G (dc d_Sl_canEncode 4 rfl) (tgt := 15) rfl (fun c6 => ?_) (fun c6 => ?_)
      · replace h := kOk_p c6 h
        refine k_iconst G (dc d_Sl_canEncode 7 rfl) cI_0 ?_
        refine k_sub [] rfl ?_
        have h9 := kOk_s h
        exact h9
      · replace h := kOk_n c6 h
        refine k_iconst G (dc d_Sl_canEncode 5 rfl) cI_1 ?_
        refine k_goto G (dc d_Sl_canEncode 6 rfl) (tgt := 16) rfl ?_
        refine k_sub [] rfl ?_
        have h9 := kOk_s h
        exact h9
theorem c_Sl_canEncode {l : Launch} {B : KB} {L : KLay} {M : KMem} {p0 : Int32} (hst : l.stackTraces = false)  {r : Int32} (e : m_Sl_canEncode p0 = some r) : CtrN l B yJ1_canEncode_9a6ad cJ1_canEncode_9a6ad 1 (some .boolean) rm_Sl_canEncode [.int p0] L M (some (.int r)) L M :=
  mk_I rfl hst rfl (fun X hl G _ R => b_Sl_canEncode G  ⟨_, e, R⟩)
def I_Sl_indexOfChar : List (Nat × Instr × Nat) := [(0, .iload_n 1, 1), (1, .i2b, 1), (2, .istore 4, 2), (4, .iload_n 2, 1), (5, .istore 5, 2), (7, .iload 5, 2), (9, .iload_n 3, 1), (10, .if_icmp .ge 21, 3), (13, .aload_n 0, 1), (14, .iload 5, 2), (16, .baload, 1), (17, .iload 4, 2), (19, .if_icmp .ne 6, 3), (22, .iload 5, 2), (24, .ireturn, 1), (25, .iinc 5 1, 3), (28, .goto (-21), 3), (31, .iconst (-1), 1), (32, .ireturn, 1)]
set_option maxRecDepth 100000 in
theorem d_Sl_indexOfChar : decA cJ1_indexOfChar_4cfef I_Sl_indexOfChar = true := by decide +kernel
abbrev rm_Sl_indexOfChar : Room := ({ frames := 0, cells := 0, slots := 0, locals := 0 } : Room)
def m_Sl_indexOfChar_l7 (p1 : Int32) (p3 : Int32) : Int32 → Option (Int32 ⊕ (Int32 ⊕ Unit)) := fun v5_1 =>
 if p3 ≤ v5_1 then
 (some (.inr (.inr ())))
 else
 (Option.bind (rdB v5_1) fun x4 =>
 if x4 = (jbyte p1) then
 (some (.inr (.inl v5_1)))
 else
 (some (.inl (v5_1 + 1))))
def m_Sl_indexOfChar (p1 : Int32) (p2 : Int32) (p3 : Int32) (M : KMem) : Option Int32 :=
 Option.bind (α := Int32 ⊕ Unit) (kLp (m_Sl_indexOfChar_l7 p1 p3) kFU p2) fun r => match r with
 | .inl q => some q
 | .inr _ =>
 (some (-1))
set_option maxHeartbeats 4000000 in
set_option maxRecDepth 100000 in
theorem b_Sl_indexOfChar {X : KX} {B : KB} {L : KLay} {M : KMem} {p1 : Int32} {p2 : Int32} {p3 : Int32} (G : Good X B RJ1 cJ1_indexOfChar_4cfef 6 rm_Sl_indexOfChar)  (h : kOk (m_Sl_indexOfChar p1 p2 p3 M) (fun r => RI X B L 6 cJ1_indexOfChar_4cfef .int rm_Sl_indexOfChar r M)) : KK X B L 6 0 0 M 0 [(0, .ref (bVa B)), (1, .int p1), (2, .int p2), (3, .int p3)] [] := by
  unfold m_Sl_indexOfChar at h
  refine k_iload_n G (dc d_Sl_indexOfChar 0 rfl) 1 rfl rfl ?_
  refine k_i2b G (dc d_Sl_indexOfChar 1 rfl) ?_
  refine k_istore G (dc d_Sl_indexOfChar 2 rfl) (ls' := [(4, .int (jbyte p1)), (0, .ref (bVa B)), (1, .int p1), (2, .int p2), (3, .int p3)]) rfl rfl ?_
  refine k_iload_n G (dc d_Sl_indexOfChar 3 rfl) 3 rfl rfl ?_
  refine k_istore G (dc d_Sl_indexOfChar 4 rfl) (ls' := [(5, .int p2), (4, .int (jbyte p1)), (0, .ref (bVa B)), (1, .int p1), (2, .int p2), (3, .int p3)]) rfl rfl ?_
  refine kJ h (fun r6 => match r6 with | .inl q => RI X B L 6 cJ1_indexOfChar_4cfef .int rm_Sl_indexOfChar q M | .inr r6 => KK X B L 6 0 0 M 31 [] []) (fun r6 h => ?_) (fun h => ?_)
  · rcases r6 with q | r6
    · have h9 := kOk_s h
      exact h9
    · show KK X B L 6 0 0 M 31 [] []
      refine k_iconst G (dc d_Sl_indexOfChar 17 rfl) cI_m1 ?_
      exact (kOk_s h) _ _ _ _ rfl rfl rfl (dc d_Sl_indexOfChar 18 rfl)
  · refine k_sub [2, 5, 1, 0] rfl ?_
    refine kLp_ok (P := fun s7 => KK X B L 6 0 0 M 7 [(0, .ref (bVa B)), (3, .int p3), (4, .int (jbyte p1)), (5, .int s7)] []) (fun s7 h => ?_) kFU _ h
    obtain ⟨v5_1, rfl⟩ : ∃ z, z = s7 := ⟨_, rfl⟩
    unfold m_Sl_indexOfChar_l7 at h
    show KK X B L 6 0 0 M 7 [(0, .ref (bVa B)), (3, .int p3), (4, .int (jbyte p1)), (5, .int v5_1)] []
    refine k_iload G (dc d_Sl_indexOfChar 5 rfl) 3 rfl ?_
    refine k_iload_n G (dc d_Sl_indexOfChar 6 rfl) 1 rfl rfl ?_
    refine k_icmp_ge G (dc d_Sl_indexOfChar 7 rfl) (tgt := 31) rfl (fun c2 => ?_) (fun c2 => ?_)
    · replace h := kOk_p c2 h
      refine k_sub [] rfl ?_
      have h9 := kOk_s h
      exact h9
    · replace h := kOk_n c2 h
      refine k_aload_n G (dc d_Sl_indexOfChar 8 rfl) 0 rfl rfl ?_
      refine k_iload G (dc d_Sl_indexOfChar 9 rfl) 3 rfl ?_
      obtain ⟨x4, e3, h⟩ := kOk_b h
      refine k_bldB G (dc d_Sl_indexOfChar 10 rfl) e3 ?_
      refine k_iload G (dc d_Sl_indexOfChar 11 rfl) 2 rfl ?_
      refine k_icmp_ne G (dc d_Sl_indexOfChar 12 rfl) (tgt := 25) rfl (fun c5 => ?_) (fun c5 => ?_)
      · replace h := kOk_n c5 h
        refine k_iinc G (dc d_Sl_indexOfChar 15 rfl) (ls' := [(5, .int (v5_1 + 1)), (0, .ref (bVa B)), (3, .int p3), (4, .int (jbyte p1))]) 3 rfl cI_1 rfl rfl ?_
        refine k_goto G (dc d_Sl_indexOfChar 16 rfl) (tgt := 7) rfl ?_
        refine k_sub [1, 2, 3, 0] rfl ?_
        have h9 := kOk_s h
        exact h9
      · replace h := kOk_p c5 h
        refine k_iload G (dc d_Sl_indexOfChar 13 rfl) 3 rfl ?_
        exact (kOk_s h) _ _ _ _ rfl rfl rfl (dc d_Sl_indexOfChar 14 rfl)
theorem c_Sl_indexOfChar {l : Launch} {B : KB} {L : KLay} {M : KMem} {p1 : Int32} {p2 : Int32} {p3 : Int32} (hst : l.stackTraces = false)  {r : Int32} (e : m_Sl_indexOfChar p1 p2 p3 M = some r) : CtrN l B yJ1_indexOfChar_4cfef cJ1_indexOfChar_4cfef 6 (some .int) rm_Sl_indexOfChar [.ref (bVa B), .int p1, .int p2, .int p3] L M (some (.int r)) L M :=
  mk_I rfl hst rfl (fun X hl G _ R => b_Sl_indexOfChar G  ⟨_, e, R⟩)
def I_Sl_indexOf : List (Nat × Instr × Nat) := [(0, .iload_n 1, 1), (1, .invokestatic 88, 3), (4, .ifCond .ne 5, 3), (7, .iconst (-1), 1), (8, .ireturn, 1), (9, .iload_n 2, 1), (10, .iconst 0, 1), (11, .invokestatic 92, 3), (14, .istore_n 2, 1), (15, .iload_n 3, 1), (16, .aload_n 0, 1), (17, .arraylength, 1), (18, .invokestatic 38, 3), (21, .istore_n 3, 1), (22, .iload_n 2, 1), (23, .iload_n 3, 1), (24, .if_icmp .lt 5, 3), (27, .iconst (-1), 1), (28, .ireturn, 1), (29, .aload_n 0, 1), (30, .iload_n 1, 1), (31, .iload_n 2, 1), (32, .iload_n 3, 1), (33, .invokestatic 95, 3), (36, .ireturn, 1)]
set_option maxRecDepth 100000 in
theorem d_Sl_indexOf : decA cJ1_indexOf_4cfef I_Sl_indexOf = true := by decide +kernel
abbrev rm_Sl_indexOf : Room := ({ frames := 1, cells := 0, slots := 0, locals := 25 } : Room)
def m_Sl_indexOf (p1 : Int32) (p2 : Int32) (p3 : Int32) (M : KMem) : Option Int32 :=
 Option.bind (m_Sl_canEncode p1) fun x2 =>
 if x2 = 0 then
 (some (-1))
 else
 (if (jmax p2 0) < (jmin p3 8) then
 (Option.bind (m_Sl_indexOfChar p1 (jmax p2 0) (jmin p3 8) M) fun x6 =>
 some x6)
 else
 (some (-1)))
set_option maxHeartbeats 4000000 in
set_option maxRecDepth 100000 in
theorem b_Sl_indexOf {X : KX} {B : KB} {L : KLay} {M : KMem} {p1 : Int32} {p2 : Int32} {p3 : Int32} (G : Good X B RJ1 cJ1_indexOf_4cfef 4 rm_Sl_indexOf)  (h : kOk (m_Sl_indexOf p1 p2 p3 M) (fun r => RI X B L 4 cJ1_indexOf_4cfef .int rm_Sl_indexOf r M)) : KK X B L 4 0 0 M 0 [(0, .ref (bVa B)), (1, .int p1), (2, .int p2), (3, .int p3)] [] := by
  unfold m_Sl_indexOf at h
  refine k_iload_n G (dc d_Sl_indexOf 0 rfl) 1 rfl rfl ?_
  obtain ⟨x2, e1, h⟩ := kOk_b h
  refine k_cSI G (dc d_Sl_indexOf 1 rfl) mi_Sl_canEncode ms_Sl_canEncode ml_RJ1_88 (c_Sl_canEncode (gst G)  e1) rfl rfl ⟨rfl, rfl⟩ rfl ⟨rfl, rfl⟩ ⟨rfl, rfl⟩ ?_
  refine k_if_ne G (dc d_Sl_indexOf 2 rfl) (tgt := 9) rfl (fun c3 => ?_) (fun c3 => ?_)
  · replace h := kOk_n c3 h
    refine k_iload_n G (dc d_Sl_indexOf 5 rfl) 2 rfl rfl ?_
    refine k_iconst G (dc d_Sl_indexOf 6 rfl) cI_0 ?_
    refine k_max G (dc d_Sl_indexOf 7 rfl) ml_RJ1_92 mathmax ⟨rfl, rfl, rfl, rfl⟩ ?_
    refine k_istore_n G (dc d_Sl_indexOf 8 rfl) (ls' := [(2, .int (jmax p2 0)), (0, .ref (bVa B)), (1, .int p1), (3, .int p3)]) rfl rfl rfl ?_
    refine k_iload_n G (dc d_Sl_indexOf 9 rfl) 3 rfl rfl ?_
    refine k_aload_n G (dc d_Sl_indexOf 10 rfl) 1 rfl rfl ?_
    refine k_lenB G (dc d_Sl_indexOf 11 rfl) ?_
    refine k_min G (dc d_Sl_indexOf 12 rfl) ml_RJ1_38 mathmin ⟨rfl, rfl, rfl, rfl⟩ ?_
    refine k_istore_n G (dc d_Sl_indexOf 13 rfl) (ls' := [(3, .int (jmin p3 8)), (2, .int (jmax p2 0)), (0, .ref (bVa B)), (1, .int p1)]) rfl rfl rfl ?_
    refine k_iload_n G (dc d_Sl_indexOf 14 rfl) 1 rfl rfl ?_
    refine k_iload_n G (dc d_Sl_indexOf 15 rfl) 0 rfl rfl ?_
    refine k_icmp_lt G (dc d_Sl_indexOf 16 rfl) (tgt := 29) rfl (fun c4 => ?_) (fun c4 => ?_)
    · replace h := kOk_p c4 h
      refine k_aload_n G (dc d_Sl_indexOf 19 rfl) 2 rfl rfl ?_
      refine k_iload_n G (dc d_Sl_indexOf 20 rfl) 3 rfl rfl ?_
      refine k_iload_n G (dc d_Sl_indexOf 21 rfl) 1 rfl rfl ?_
      refine k_iload_n G (dc d_Sl_indexOf 22 rfl) 0 rfl rfl ?_
      obtain ⟨x6, e5, h⟩ := kOk_b h
      refine k_cSI G (dc d_Sl_indexOf 23 rfl) mi_Sl_indexOfChar ms_Sl_indexOfChar ml_RJ1_95 (c_Sl_indexOfChar (gst G)  e5) rfl rfl ⟨rfl, rfl⟩ rfl ⟨rfl, rfl⟩ ⟨rfl, rfl⟩ ?_
      exact (kOk_s h) _ _ _ _ rfl rfl rfl (dc d_Sl_indexOf 24 rfl)
    · replace h := kOk_n c4 h
      refine k_iconst G (dc d_Sl_indexOf 17 rfl) cI_m1 ?_
      exact (kOk_s h) _ _ _ _ rfl rfl rfl (dc d_Sl_indexOf 18 rfl)
  · replace h := kOk_p c3 h
    refine k_iconst G (dc d_Sl_indexOf 3 rfl) cI_m1 ?_
    exact (kOk_s h) _ _ _ _ rfl rfl rfl (dc d_Sl_indexOf 4 rfl)
theorem c_Sl_indexOf {l : Launch} {B : KB} {L : KLay} {M : KMem} {p1 : Int32} {p2 : Int32} {p3 : Int32} (hst : l.stackTraces = false)  {r : Int32} (e : m_Sl_indexOf p1 p2 p3 M = some r) : CtrN l B yJ1_indexOf_4cfef cJ1_indexOf_4cfef 4 (some .int) rm_Sl_indexOf [.ref (bVa B), .int p1, .int p2, .int p3] L M (some (.int r)) L M :=
  mk_I rfl hst rfl (fun X hl G _ R => b_Sl_indexOf G  ⟨_, e, R⟩)
def I_Sg_indexOf2 : List (Nat × Instr × Nat) := [(0, .aload_n 0, 1), (1, .invokevirtual 492, 3), (4, .ifCond .eq 19, 3), (7, .aload_n 0, 1), (8, .getfield 9, 3), (11, .iload_n 1, 1), (12, .iload_n 2, 1), (13, .aload_n 0, 1), (14, .invokevirtual 505, 3), (17, .invokestatic 637, 3), (20, .goto 16, 3), (23, .aload_n 0, 1), (24, .getfield 9, 3), (27, .iload_n 1, 1), (28, .iload_n 2, 1), (29, .aload_n 0, 1), (30, .invokevirtual 505, 3), (33, .invokestatic 640, 3), (36, .ireturn, 1)]
set_option maxRecDepth 100000 in
theorem d_Sg_indexOf2 : decA cJ0_indexOf_7cf53 I_Sg_indexOf2 = true := by decide +kernel
abbrev rm_Sg_indexOf2 : Room := ({ frames := 2, cells := 0, slots := 0, locals := 48 } : Room)
def m_Sg_indexOf2 (p0 : Int32) (p1 : Int32) (M : KMem) : Option Int32 :=
 Option.bind (m_Sg_isLatin1 M) fun x2 =>
 Option.bind (α := Int32) (if x2 = 0 then
 (Option.bind (m_Sg_length M) fun x7 =>
 none)
 else
 (Option.bind (m_Sg_length M) fun x9 =>
 Option.bind (m_Sl_indexOf p0 p1 x9 M) fun x11 =>
 some x11)) fun t3 =>
 some t3
set_option maxHeartbeats 4000000 in
set_option maxRecDepth 100000 in
theorem b_Sg_indexOf2 {X : KX} {B : KB} {L : KLay} {M : KMem} {p0 : Int32} {p1 : Int32} (G : Good X B RJ0 cJ0_indexOf_7cf53 3 rm_Sg_indexOf2)  (h : kOk (m_Sg_indexOf2 p0 p1 M) (fun r => RI X B L 3 cJ0_indexOf_7cf53 .int rm_Sg_indexOf2 r M)) : KK X B L 3 0 0 M 0 [(0, .ref (bSa B)), (1, .int p0), (2, .int p1)] [] := by
  unfold m_Sg_indexOf2 at h
  refine k_aload_n G (dc d_Sg_indexOf2 0 rfl) 0 rfl rfl ?_
  obtain ⟨x2, e1, h⟩ := kOk_b h
  refine k_cTI G (dc d_Sg_indexOf2 1 rfl) mi_Sg_isLatin1 mv_Sg_isLatin1 rfl ml_RJ0_492 (c_Sg_isLatin1 (gst G)  e1) rfl rfl ⟨rfl, rfl⟩ rfl ⟨rfl, rfl⟩ ⟨rfl, rfl⟩ ?_
  refine kJ h (fun r4 => KK X B L 3 0 0 M 36 [] [.int r4]) (fun r4 h => ?_) (fun h => ?_)
  · obtain ⟨t3, rfl⟩ : ∃ z, z = r4 := ⟨_, rfl⟩
    show KK X B L 3 0 0 M 36 [] [.int t3]
    exact (kOk_s h) _ _ _ _ rfl rfl rfl (dc d_Sg_indexOf2 18 rfl)
  · refine k_if_eq G (dc d_Sg_indexOf2 2 rfl) (tgt := 23) rfl (fun c5 => ?_) (fun c5 => ?_)
    · replace h := kOk_p c5 h
      refine k_aload_n G (dc d_Sg_indexOf2 11 rfl) 0 rfl rfl ?_
      refine k_getVa G rfl (dc d_Sg_indexOf2 12 rfl) fs_RJ0_9 ?_
      refine k_iload_n G (dc d_Sg_indexOf2 13 rfl) 1 rfl rfl ?_
      refine k_iload_n G (dc d_Sg_indexOf2 14 rfl) 2 rfl rfl ?_
      refine k_aload_n G (dc d_Sg_indexOf2 15 rfl) 0 rfl rfl ?_
      obtain ⟨x7, e6, h⟩ := kOk_b h
      refine k_cTI G (dc d_Sg_indexOf2 16 rfl) mi_Sg_length mv_Sg_length rfl ml_RJ0_505 (c_Sg_length (gst G)  e6) rfl rfl ⟨rfl, rfl⟩ rfl ⟨rfl, rfl⟩ ⟨rfl, rfl⟩ ?_
      exact (kOk_none h).elim
    · replace h := kOk_n c5 h
      refine k_aload_n G (dc d_Sg_indexOf2 3 rfl) 0 rfl rfl ?_
      refine k_getVa G rfl (dc d_Sg_indexOf2 4 rfl) fs_RJ0_9 ?_
      refine k_iload_n G (dc d_Sg_indexOf2 5 rfl) 1 rfl rfl ?_
      refine k_iload_n G (dc d_Sg_indexOf2 6 rfl) 2 rfl rfl ?_
      refine k_aload_n G (dc d_Sg_indexOf2 7 rfl) 0 rfl rfl ?_
      obtain ⟨x9, e8, h⟩ := kOk_b h
      refine k_cTI G (dc d_Sg_indexOf2 8 rfl) mi_Sg_length mv_Sg_length rfl ml_RJ0_505 (c_Sg_length (gst G)  e8) rfl rfl ⟨rfl, rfl⟩ rfl ⟨rfl, rfl⟩ ⟨rfl, rfl⟩ ?_
      obtain ⟨x11, e10, h⟩ := kOk_b h
      refine k_cSI G (dc d_Sg_indexOf2 9 rfl) mi_Sl_indexOf ms_Sl_indexOf ml_RJ0_637 (c_Sl_indexOf (gst G)  e10) rfl rfl ⟨rfl, rfl⟩ rfl ⟨rfl, rfl⟩ ⟨rfl, rfl⟩ ?_
      refine k_goto G (dc d_Sg_indexOf2 10 rfl) (tgt := 36) rfl ?_
      refine k_sub [] rfl ?_
      have h9 := kOk_s h
      exact h9
theorem c_Sg_indexOf2 {l : Launch} {B : KB} {L : KLay} {M : KMem} {p0 : Int32} {p1 : Int32} (hst : l.stackTraces = false)  {r : Int32} (e : m_Sg_indexOf2 p0 p1 M = some r) : CtrN l B yJ0_indexOf_7cf53 cJ0_indexOf_7cf53 3 (some .int) rm_Sg_indexOf2 [.ref (bSa B), .int p0, .int p1] L M (some (.int r)) L M :=
  mk_I rfl hst rfl (fun X hl G _ R => b_Sg_indexOf2 G  ⟨_, e, R⟩)
def I_Sg_indexOf : List (Nat × Instr × Nat) := [(0, .aload_n 0, 1), (1, .iload_n 1, 1), (2, .iconst 0, 1), (3, .invokevirtual 633, 3), (6, .ireturn, 1)]
set_option maxRecDepth 100000 in
theorem d_Sg_indexOf : decA cJ0_indexOf_0f7a4 I_Sg_indexOf = true := by decide +kernel
abbrev rm_Sg_indexOf : Room := ({ frames := 3, cells := 0, slots := 0, locals := 70 } : Room)
def m_Sg_indexOf (p0 : Int32) (M : KMem) : Option Int32 :=
 Option.bind (m_Sg_indexOf2 p0 0 M) fun x2 =>
 some x2
set_option maxHeartbeats 4000000 in
set_option maxRecDepth 100000 in
theorem b_Sg_indexOf {X : KX} {B : KB} {L : KLay} {M : KMem} {p0 : Int32} (G : Good X B RJ0 cJ0_indexOf_0f7a4 2 rm_Sg_indexOf)  (h : kOk (m_Sg_indexOf p0 M) (fun r => RI X B L 2 cJ0_indexOf_0f7a4 .int rm_Sg_indexOf r M)) : KK X B L 2 0 0 M 0 [(0, .ref (bSa B)), (1, .int p0)] [] := by
  unfold m_Sg_indexOf at h
  refine k_aload_n G (dc d_Sg_indexOf 0 rfl) 0 rfl rfl ?_
  refine k_iload_n G (dc d_Sg_indexOf 1 rfl) 1 rfl rfl ?_
  refine k_iconst G (dc d_Sg_indexOf 2 rfl) cI_0 ?_
  obtain ⟨x2, e1, h⟩ := kOk_b h
  refine k_cTI G (dc d_Sg_indexOf 3 rfl) mi_Sg_indexOf2 mv_Sg_indexOf2 rfl ml_RJ0_633 (c_Sg_indexOf2 (gst G)  e1) rfl rfl ⟨rfl, rfl⟩ rfl ⟨rfl, rfl⟩ ⟨rfl, rfl⟩ ?_
  exact (kOk_s h) _ _ _ _ rfl rfl rfl (dc d_Sg_indexOf 4 rfl)
theorem c_Sg_indexOf {l : Launch} {B : KB} {L : KLay} {M : KMem} {p0 : Int32} (hst : l.stackTraces = false)  {r : Int32} (e : m_Sg_indexOf p0 M = some r) : CtrN l B yJ0_indexOf_0f7a4 cJ0_indexOf_0f7a4 2 (some .int) rm_Sg_indexOf [.ref (bSa B), .int p0] L M (some (.int r)) L M :=
  mk_I rfl hst rfl (fun X hl G _ R => b_Sg_indexOf G  ⟨_, e, R⟩)
