/-! laid by wip/whole/lay.py: Mo_payable, Mo_worthBehind, Mo_worthIn, Mo_succeeds, Mo_runs, Mo_runScript, Mo_wordBy -/
def I_Mo_payable : List (Nat × Instr × Nat) := [(0, .aload_n 0, 1), (1, .iload_n 1, 1), (2, .iconst 0, 1), (3, .sipush 999, 3), (6, .invokestatic 41, 3), (9, .ifCond .eq 7, 3), (12, .iconst 0, 1), (13, .goto 4, 3), (16, .iconst 1, 1), (17, .invokevirtual 164, 3), (20, .ifCond .eq 11, 3), (23, .aload_n 0, 1), (24, .iload_n 1, 1), (25, .invokevirtual 228, 3), (28, .goto 4, 3), (31, .iconst 0, 1), (32, .ireturn, 1)]
set_option maxRecDepth 100000 in
theorem d_Mo_payable : decA cX11_payable I_Mo_payable = true := by decide +kernel
abbrev rm_Mo_payable : Room := ({ frames := 8, cells := 0, slots := 0, locals := 192 } : Room)
def m_Mo_payable (u : Nat) (p0 : Int32) (M : KMem) : Option (Int32 × KMem) :=
 Option.bind (m_Mo_in p0 0 999) fun x2 =>
 Option.bind (α := Int32) (if x2 = 0 then
 (some 1)
 else
 (some 0)) fun t3 =>
 Option.bind (m_Mo_holds u t3 M) fun (x6, M7) =>
 Option.bind (α := Int32 × KMem) (if x6 = 0 then
 (some (0, M7))
 else
 (Option.bind (m_Mo_paidBy u p0 M7) fun (x13, M14) =>
 some (x13, M14))) fun (t8, M9) =>
 some (t8, M9)
set_option maxHeartbeats 4000000 in
set_option maxRecDepth 100000 in
theorem b_Mo_payable {X : KX} {B : KB} {L : KLay} {M : KMem} {u : Nat} {p0 : Int32} (G : Good X B RX11 cX11_payable 2 rm_Mo_payable) (hu : okL L u moT) (h : kOk (m_Mo_payable u p0 M) (fun r => RI X B L 2 cX11_payable .int rm_Mo_payable r.1 r.2)) : KK X B L 2 0 0 M 0 [(0, .ref (B.1 + u)), (1, .int p0)] [] := by
  unfold m_Mo_payable at h
  refine k_aload_n G (dc d_Mo_payable 0 rfl) 0 rfl rfl ?_
  refine k_iload_n G (dc d_Mo_payable 1 rfl) 1 rfl rfl ?_
  refine k_iconst G (dc d_Mo_payable 2 rfl) cI_0 ?_
  refine k_sipush G (dc d_Mo_payable 3 rfl) cS_999 ?_
  obtain ⟨x2, e1, h⟩ := kOk_b h
  refine k_cSI G (dc d_Mo_payable 4 rfl) mi_Mo_in ms_Mo_in ml_RX11_41 (c_Mo_in (gst G)  e1) rfl rfl ⟨rfl, rfl⟩ rfl ⟨rfl, rfl⟩ ⟨rfl, rfl⟩ ?_
  refine kJ h (fun r4 => KK X B L 2 0 0 M 17 [(0, .ref (B.1 + u)), (1, .int p0)] [.int r4, .ref (B.1 + u)]) (fun r4 h => ?_) (fun h => ?_)
  · obtain ⟨t3, rfl⟩ : ∃ z, z = r4 := ⟨_, rfl⟩
    show KK X B L 2 0 0 M 17 [(0, .ref (B.1 + u)), (1, .int p0)] [.int t3, .ref (B.1 + u)]
    obtain ⟨⟨x6, M7⟩, e5, h⟩ := kOk_b h
    refine k_cVI G (dc d_Mo_payable 9 rfl) kc8 (okL_lt hu (o := 0) 0 rfl) (okL_k hu (o := 0) 0 rfl) mi_Mo_holds mv_Mo_holds rfl ml_RX11_164 (c_Mo_holds (gst G) hu e5) rfl rfl ⟨rfl, rfl⟩ rfl ⟨rfl, rfl⟩ ⟨rfl, rfl⟩ ?_
    refine kJ h (fun r10 => KK X B L 2 0 0 r10.2 32 [] [.int r10.1]) (fun r10 h => ?_) (fun h => ?_)
    · obtain ⟨t8, M9⟩ := r10
      show KK X B L 2 0 0 M9 32 [] [.int t8]
      exact (kOk_s h) _ _ _ _ rfl rfl rfl (dc d_Mo_payable 16 rfl)
    · refine k_if_eq G (dc d_Mo_payable 10 rfl) (tgt := 31) rfl (fun c11 => ?_) (fun c11 => ?_)
      · replace h := kOk_p c11 h
        refine k_iconst G (dc d_Mo_payable 15 rfl) cI_0 ?_
        refine k_sub [] rfl ?_
        have h9 := kOk_s h
        exact h9
      · replace h := kOk_n c11 h
        refine k_aload_n G (dc d_Mo_payable 11 rfl) 0 rfl rfl ?_
        refine k_iload_n G (dc d_Mo_payable 12 rfl) 1 rfl rfl ?_
        obtain ⟨⟨x13, M14⟩, e12, h⟩ := kOk_b h
        refine k_cVI G (dc d_Mo_payable 13 rfl) kc8 (okL_lt hu (o := 0) 0 rfl) (okL_k hu (o := 0) 0 rfl) mi_Mo_paidBy mv_Mo_paidBy rfl ml_RX11_228 (c_Mo_paidBy (gst G) hu e12) rfl rfl ⟨rfl, rfl⟩ rfl ⟨rfl, rfl⟩ ⟨rfl, rfl⟩ ?_
        refine k_goto G (dc d_Mo_payable 14 rfl) (tgt := 32) rfl ?_
        refine k_sub [] rfl ?_
        have h9 := kOk_s h
        exact h9
  · refine k_if_eq G (dc d_Mo_payable 5 rfl) (tgt := 16) rfl (fun c15 => ?_) (fun c15 => ?_)
    · replace h := kOk_p c15 h
      refine k_iconst G (dc d_Mo_payable 8 rfl) cI_1 ?_
      have h9 := kOk_s h
      exact h9
    · replace h := kOk_n c15 h
      refine k_iconst G (dc d_Mo_payable 6 rfl) cI_0 ?_
      refine k_goto G (dc d_Mo_payable 7 rfl) (tgt := 17) rfl ?_
      have h9 := kOk_s h
      exact h9
theorem c_Mo_payable {l : Launch} {B : KB} {L : KLay} {M : KMem} {u : Nat} {p0 : Int32} (hst : l.stackTraces = false) (hu : okL L u moT) {r : Int32} {M' : KMem} (e : m_Mo_payable u p0 M = some (r, M')) : CtrN l B yX11_payable cX11_payable 2 (some .int) rm_Mo_payable [.ref (B.1 + u), .int p0] L M (some (.int r)) L M' :=
  mk_I rfl hst rfl (fun X hl G _ R => b_Mo_payable G hu ⟨_, e, R⟩)
def I_Mo_worthBehind : List (Nat × Instr × Nat) := [(0, .aload_n 0, 1), (1, .iload_n 1, 1), (2, .invokevirtual 102, 3), (5, .istore_n 2, 1), (6, .iconst (-1), 1), (7, .istore_n 3, 1), (8, .sipush 200, 3), (11, .istore 4, 2), (13, .iload 4, 2), (15, .aload_n 0, 1), (16, .getfield 7, 3), (19, .bipush 93, 2), (21, .iaload, 1), (22, .if_icmp .le 46, 3), (25, .aload_n 0, 1), (26, .iload_n 1, 1), (27, .invokevirtual 85, 3), (30, .ifCond .eq 38, 3), (33, .aload_n 0, 1), (34, .getfield 7, 3), (37, .bipush 107, 2), (39, .iaload, 1), (40, .iload 4, 2), (42, .aload_n 0, 1), (43, .getfield 7, 3), (46, .bipush 93, 2), (48, .iaload, 1), (49, .isub, 1), (50, .imul, 1), (51, .iload_n 2, 1), (52, .if_icmp .le 8, 3), (55, .iload 4, 2), (57, .goto 4, 3), (60, .iload_n 3, 1), (61, .istore_n 3, 1), (62, .iinc 4 (-1), 3), (65, .goto (-52), 3), (68, .iload_n 3, 1), (69, .ireturn, 1)]
set_option maxRecDepth 100000 in
theorem d_Mo_worthBehind : decA cX11_worthBehind I_Mo_worthBehind = true := by decide +kernel
abbrev rm_Mo_worthBehind : Room := ({ frames := 7, cells := 0, slots := 0, locals := 164 } : Room)
def m_Mo_worthBehind_l13 (u : Nat) (p0 : Int32) (x2 : Int32) (M3 : KMem) : (Int32 × Int32) → Option ((Int32 × Int32) ⊕ Int32) := fun (v3_4, v4_5) =>
 Option.bind (rdI M3 (u + 1) 108 93) fun x7 =>
 if v4_5 ≤ x7 then
 (some (.inr v3_4))
 else
 (Option.bind (m_Mo_isWrong u p0 M3) fun x10 =>
 if x10 = 0 then
 (some (.inr v3_4))
 else
 (Option.bind (rdI M3 (u + 1) 108 107) fun x13 =>
 Option.bind (rdI M3 (u + 1) 108 93) fun x15 =>
 Option.bind (α := Int32) (if (x13 * (v4_5 - x15)) ≤ x2 then
 (some v3_4)
 else
 (some v4_5)) fun t16 =>
 some (.inl (t16, v4_5 + (-1)))))
def m_Mo_worthBehind (u : Nat) (p0 : Int32) (M : KMem) : Option (Int32 × KMem) :=
 Option.bind (m_Mo_costOf u p0 M) fun (x2, M3) =>
 Option.bind (α := Int32) (kLp (m_Mo_worthBehind_l13 u p0 x2 M3) kFU ((-1), 200)) fun v3_19 =>
 some (v3_19, M3)
set_option maxHeartbeats 4000000 in
set_option maxRecDepth 100000 in
theorem b_Mo_worthBehind {X : KX} {B : KB} {L : KLay} {M : KMem} {u : Nat} {p0 : Int32} (G : Good X B RX11 cX11_worthBehind 5 rm_Mo_worthBehind) (hu : okL L u moT) (h : kOk (m_Mo_worthBehind u p0 M) (fun r => RI X B L 5 cX11_worthBehind .int rm_Mo_worthBehind r.1 r.2)) : KK X B L 5 0 0 M 0 [(0, .ref (B.1 + u)), (1, .int p0)] [] := by
  unfold m_Mo_worthBehind at h
  refine k_aload_n G (dc d_Mo_worthBehind 0 rfl) 0 rfl rfl ?_
  refine k_iload_n G (dc d_Mo_worthBehind 1 rfl) 1 rfl rfl ?_
  obtain ⟨⟨x2, M3⟩, e1, h⟩ := kOk_b h
  refine k_cVI G (dc d_Mo_worthBehind 2 rfl) kc8 (okL_lt hu (o := 0) 0 rfl) (okL_k hu (o := 0) 0 rfl) mi_Mo_costOf mv_Mo_costOf rfl ml_RX11_102 (c_Mo_costOf (gst G) hu e1) rfl rfl ⟨rfl, rfl⟩ rfl ⟨rfl, rfl⟩ ⟨rfl, rfl⟩ ?_
  refine k_istore_n G (dc d_Mo_worthBehind 3 rfl) (ls' := [(2, .int x2), (0, .ref (B.1 + u)), (1, .int p0)]) rfl rfl rfl ?_
  refine k_iconst G (dc d_Mo_worthBehind 4 rfl) cI_m1 ?_
  refine k_istore_n G (dc d_Mo_worthBehind 5 rfl) (ls' := [(3, .int (-1)), (2, .int x2), (0, .ref (B.1 + u)), (1, .int p0)]) rfl rfl rfl ?_
  refine k_sipush G (dc d_Mo_worthBehind 6 rfl) cS_200 ?_
  refine k_istore G (dc d_Mo_worthBehind 7 rfl) (ls' := [(4, .int 200), (3, .int (-1)), (2, .int x2), (0, .ref (B.1 + u)), (1, .int p0)]) rfl rfl ?_
  refine kJ h (fun r20 => KK X B L 5 0 0 M3 68 [(3, .int r20)] []) (fun r20 h => ?_) (fun h => ?_)
  · obtain ⟨v3_19, rfl⟩ : ∃ z, z = r20 := ⟨_, rfl⟩
    show KK X B L 5 0 0 M3 68 [(3, .int v3_19)] []
    refine k_iload_n G (dc d_Mo_worthBehind 37 rfl) 0 rfl rfl ?_
    exact (kOk_s h) _ _ _ _ rfl rfl rfl (dc d_Mo_worthBehind 38 rfl)
  · refine k_sub [3, 4, 2, 1, 0] rfl ?_
    refine kLp_ok (P := fun s21 => KK X B L 5 0 0 M3 13 [(0, .ref (B.1 + u)), (1, .int p0), (2, .int x2), (3, .int s21.1), (4, .int s21.2)] []) (fun s21 h => ?_) kFU _ h
    obtain ⟨v3_4, v4_5⟩ := s21
    unfold m_Mo_worthBehind_l13 at h
    show KK X B L 5 0 0 M3 13 [(0, .ref (B.1 + u)), (1, .int p0), (2, .int x2), (3, .int v3_4), (4, .int v4_5)] []
    refine k_iload G (dc d_Mo_worthBehind 8 rfl) 4 rfl ?_
    refine k_aload_n G (dc d_Mo_worthBehind 9 rfl) 0 rfl rfl ?_
    refine k_getR G kc8 (dc d_Mo_worthBehind 10 rfl) (okL_lt hu (o := 0) 0 rfl) (okL_k hu (o := 0) 0 rfl) 1 (by decide) rfl fl_RX11_7 (u + 1) (okL_r hu (o := 0) (c := 1) 0 rfl 0 rfl) ?_
    refine k_bipush G (dc d_Mo_worthBehind 11 rfl) cB_93 ?_
    obtain ⟨x7, e6, h⟩ := kOk_b h
    refine k_ild G (dc d_Mo_worthBehind 12 rfl) (okL_lt hu (o := 1) 1 rfl) (okL_k hu (o := 1) 1 rfl) (okL_n hu (o := 1) 1 rfl) e6 ?_
    refine k_icmp_le G (dc d_Mo_worthBehind 13 rfl) (tgt := 68) rfl (fun c8 => ?_) (fun c8 => ?_)
    · replace h := kOk_p c8 h
      refine k_sub [3] rfl ?_
      have h9 := kOk_s h
      exact h9
    · replace h := kOk_n c8 h
      refine k_aload_n G (dc d_Mo_worthBehind 14 rfl) 0 rfl rfl ?_
      refine k_iload_n G (dc d_Mo_worthBehind 15 rfl) 1 rfl rfl ?_
      obtain ⟨x10, e9, h⟩ := kOk_b h
      refine k_cVI G (dc d_Mo_worthBehind 16 rfl) kc8 (okL_lt hu (o := 0) 0 rfl) (okL_k hu (o := 0) 0 rfl) mi_Mo_isWrong mv_Mo_isWrong rfl ml_RX11_85 (c_Mo_isWrong (gst G) hu e9) rfl rfl ⟨rfl, rfl⟩ rfl ⟨rfl, rfl⟩ ⟨rfl, rfl⟩ ?_
      refine k_if_eq G (dc d_Mo_worthBehind 17 rfl) (tgt := 68) rfl (fun c11 => ?_) (fun c11 => ?_)
      · replace h := kOk_p c11 h
        refine k_sub [3] rfl ?_
        have h9 := kOk_s h
        exact h9
      · replace h := kOk_n c11 h
        refine k_aload_n G (dc d_Mo_worthBehind 18 rfl) 0 rfl rfl ?_
        refine k_getR G kc8 (dc d_Mo_worthBehind 19 rfl) (okL_lt hu (o := 0) 0 rfl) (okL_k hu (o := 0) 0 rfl) 1 (by decide) rfl fl_RX11_7 (u + 1) (okL_r hu (o := 0) (c := 1) 0 rfl 0 rfl) ?_
        refine k_bipush G (dc d_Mo_worthBehind 20 rfl) cB_107 ?_
        obtain ⟨x13, e12, h⟩ := kOk_b h
        refine k_ild G (dc d_Mo_worthBehind 21 rfl) (okL_lt hu (o := 1) 1 rfl) (okL_k hu (o := 1) 1 rfl) (okL_n hu (o := 1) 1 rfl) e12 ?_
        refine k_iload G (dc d_Mo_worthBehind 22 rfl) 4 rfl ?_
        refine k_aload_n G (dc d_Mo_worthBehind 23 rfl) 0 rfl rfl ?_
        refine k_getR G kc8 (dc d_Mo_worthBehind 24 rfl) (okL_lt hu (o := 0) 0 rfl) (okL_k hu (o := 0) 0 rfl) 1 (by decide) rfl fl_RX11_7 (u + 1) (okL_r hu (o := 0) (c := 1) 0 rfl 0 rfl) ?_
        refine k_bipush G (dc d_Mo_worthBehind 25 rfl) cB_93 ?_
        obtain ⟨x15, e14, h⟩ := kOk_b h
        refine k_ild G (dc d_Mo_worthBehind 26 rfl) (okL_lt hu (o := 1) 1 rfl) (okL_k hu (o := 1) 1 rfl) (okL_n hu (o := 1) 1 rfl) e14 ?_
        refine k_isub G (dc d_Mo_worthBehind 27 rfl) ?_
        refine k_imul G (dc d_Mo_worthBehind 28 rfl) ?_
        refine k_iload_n G (dc d_Mo_worthBehind 29 rfl) 2 rfl rfl ?_
        refine kJ h (fun r17 => KK X B L 5 0 0 M3 61 [(0, .ref (B.1 + u)), (1, .int p0), (2, .int x2), (4, .int v4_5)] [.int r17]) (fun r17 h => ?_) (fun h => ?_)
        · obtain ⟨t16, rfl⟩ : ∃ z, z = r17 := ⟨_, rfl⟩
          show KK X B L 5 0 0 M3 61 [(0, .ref (B.1 + u)), (1, .int p0), (2, .int x2), (4, .int v4_5)] [.int t16]
          refine k_istore_n G (dc d_Mo_worthBehind 34 rfl) (ls' := [(3, .int t16), (0, .ref (B.1 + u)), (1, .int p0), (2, .int x2), (4, .int v4_5)]) rfl rfl rfl ?_
          refine k_iinc G (dc d_Mo_worthBehind 35 rfl) (ls' := [(4, .int (v4_5 + (-1))), (3, .int t16), (0, .ref (B.1 + u)), (1, .int p0), (2, .int x2)]) 4 rfl cI_m1 rfl rfl ?_
          refine k_goto G (dc d_Mo_worthBehind 36 rfl) (tgt := 13) rfl ?_
          refine k_sub [2, 3, 4, 1, 0] rfl ?_
          have h9 := kOk_s h
          exact h9
        · refine k_icmp_le G (dc d_Mo_worthBehind 30 rfl) (tgt := 60) rfl (fun c18 => ?_) (fun c18 => ?_)
          · replace h := kOk_p c18 h
            refine k_iload_n G (dc d_Mo_worthBehind 33 rfl) 3 rfl rfl ?_
            refine k_sub [0, 1, 2, 4] rfl ?_
            have h9 := kOk_s h
            exact h9
          · replace h := kOk_n c18 h
            refine k_iload G (dc d_Mo_worthBehind 31 rfl) 4 rfl ?_
            refine k_goto G (dc d_Mo_worthBehind 32 rfl) (tgt := 61) rfl ?_
            refine k_sub [0, 1, 2, 4] rfl ?_
            have h9 := kOk_s h
            exact h9
theorem c_Mo_worthBehind {l : Launch} {B : KB} {L : KLay} {M : KMem} {u : Nat} {p0 : Int32} (hst : l.stackTraces = false) (hu : okL L u moT) {r : Int32} {M' : KMem} (e : m_Mo_worthBehind u p0 M = some (r, M')) : CtrN l B yX11_worthBehind cX11_worthBehind 5 (some .int) rm_Mo_worthBehind [.ref (B.1 + u), .int p0] L M (some (.int r)) L M' :=
  mk_I rfl hst rfl (fun X hl G _ R => b_Mo_worthBehind G hu ⟨_, e, R⟩)
def I_Mo_worthIn : List (Nat × Instr × Nat) := [(0, .aload_n 0, 1), (1, .aload_n 0, 1), (2, .iload_n 1, 1), (3, .invokevirtual 146, 3), (6, .ifCond .eq 7, 3), (9, .iconst 0, 1), (10, .goto 4, 3), (13, .iconst 1, 1), (14, .invokevirtual 164, 3), (17, .ifCond .eq 11, 3), (20, .aload_n 0, 1), (21, .iload_n 1, 1), (22, .invokevirtual 231, 3), (25, .goto 4, 3), (28, .iconst 0, 1), (29, .ireturn, 1)]
set_option maxRecDepth 100000 in
theorem d_Mo_worthIn : decA cX11_worthIn I_Mo_worthIn = true := by decide +kernel
abbrev rm_Mo_worthIn : Room := ({ frames := 8, cells := 0, slots := 0, locals := 188 } : Room)
def m_Mo_worthIn (u : Nat) (p0 : Int32) (M : KMem) : Option (Int32 × KMem) :=
 Option.bind (m_Mo_isSign u p0 M) fun x2 =>
 Option.bind (α := Int32) (if x2 = 0 then
 (some 1)
 else
 (some 0)) fun t3 =>
 Option.bind (m_Mo_holds u t3 M) fun (x6, M7) =>
 Option.bind (α := Int32 × KMem) (if x6 = 0 then
 (some (0, M7))
 else
 (Option.bind (m_Mo_worthBehind u p0 M7) fun (x13, M14) =>
 some (x13, M14))) fun (t8, M9) =>
 some (t8, M9)
set_option maxHeartbeats 4000000 in
set_option maxRecDepth 100000 in
theorem b_Mo_worthIn {X : KX} {B : KB} {L : KLay} {M : KMem} {u : Nat} {p0 : Int32} (G : Good X B RX11 cX11_worthIn 2 rm_Mo_worthIn) (hu : okL L u moT) (h : kOk (m_Mo_worthIn u p0 M) (fun r => RI X B L 2 cX11_worthIn .int rm_Mo_worthIn r.1 r.2)) : KK X B L 2 0 0 M 0 [(0, .ref (B.1 + u)), (1, .int p0)] [] := by
  unfold m_Mo_worthIn at h
  refine k_aload_n G (dc d_Mo_worthIn 0 rfl) 0 rfl rfl ?_
  refine k_aload_n G (dc d_Mo_worthIn 1 rfl) 0 rfl rfl ?_
  refine k_iload_n G (dc d_Mo_worthIn 2 rfl) 1 rfl rfl ?_
  obtain ⟨x2, e1, h⟩ := kOk_b h
  refine k_cVI G (dc d_Mo_worthIn 3 rfl) kc8 (okL_lt hu (o := 0) 0 rfl) (okL_k hu (o := 0) 0 rfl) mi_Mo_isSign mv_Mo_isSign rfl ml_RX11_146 (c_Mo_isSign (gst G) hu e1) rfl rfl ⟨rfl, rfl⟩ rfl ⟨rfl, rfl⟩ ⟨rfl, rfl⟩ ?_
  refine kJ h (fun r4 => KK X B L 2 0 0 M 14 [(0, .ref (B.1 + u)), (1, .int p0)] [.int r4, .ref (B.1 + u)]) (fun r4 h => ?_) (fun h => ?_)
  · obtain ⟨t3, rfl⟩ : ∃ z, z = r4 := ⟨_, rfl⟩
    show KK X B L 2 0 0 M 14 [(0, .ref (B.1 + u)), (1, .int p0)] [.int t3, .ref (B.1 + u)]
    obtain ⟨⟨x6, M7⟩, e5, h⟩ := kOk_b h
    refine k_cVI G (dc d_Mo_worthIn 8 rfl) kc8 (okL_lt hu (o := 0) 0 rfl) (okL_k hu (o := 0) 0 rfl) mi_Mo_holds mv_Mo_holds rfl ml_RX11_164 (c_Mo_holds (gst G) hu e5) rfl rfl ⟨rfl, rfl⟩ rfl ⟨rfl, rfl⟩ ⟨rfl, rfl⟩ ?_
    refine kJ h (fun r10 => KK X B L 2 0 0 r10.2 29 [] [.int r10.1]) (fun r10 h => ?_) (fun h => ?_)
    · obtain ⟨t8, M9⟩ := r10
      show KK X B L 2 0 0 M9 29 [] [.int t8]
      exact (kOk_s h) _ _ _ _ rfl rfl rfl (dc d_Mo_worthIn 15 rfl)
    · refine k_if_eq G (dc d_Mo_worthIn 9 rfl) (tgt := 28) rfl (fun c11 => ?_) (fun c11 => ?_)
      · replace h := kOk_p c11 h
        refine k_iconst G (dc d_Mo_worthIn 14 rfl) cI_0 ?_
        refine k_sub [] rfl ?_
        have h9 := kOk_s h
        exact h9
      · replace h := kOk_n c11 h
        refine k_aload_n G (dc d_Mo_worthIn 10 rfl) 0 rfl rfl ?_
        refine k_iload_n G (dc d_Mo_worthIn 11 rfl) 1 rfl rfl ?_
        obtain ⟨⟨x13, M14⟩, e12, h⟩ := kOk_b h
        refine k_cVI G (dc d_Mo_worthIn 12 rfl) kc8 (okL_lt hu (o := 0) 0 rfl) (okL_k hu (o := 0) 0 rfl) mi_Mo_worthBehind mv_Mo_worthBehind rfl ml_RX11_231 (c_Mo_worthBehind (gst G) hu e12) rfl rfl ⟨rfl, rfl⟩ rfl ⟨rfl, rfl⟩ ⟨rfl, rfl⟩ ?_
        refine k_goto G (dc d_Mo_worthIn 13 rfl) (tgt := 29) rfl ?_
        refine k_sub [] rfl ?_
        have h9 := kOk_s h
        exact h9
  · refine k_if_eq G (dc d_Mo_worthIn 4 rfl) (tgt := 13) rfl (fun c15 => ?_) (fun c15 => ?_)
    · replace h := kOk_p c15 h
      refine k_iconst G (dc d_Mo_worthIn 7 rfl) cI_1 ?_
      have h9 := kOk_s h
      exact h9
    · replace h := kOk_n c15 h
      refine k_iconst G (dc d_Mo_worthIn 5 rfl) cI_0 ?_
      refine k_goto G (dc d_Mo_worthIn 6 rfl) (tgt := 14) rfl ?_
      have h9 := kOk_s h
      exact h9
theorem c_Mo_worthIn {l : Launch} {B : KB} {L : KLay} {M : KMem} {u : Nat} {p0 : Int32} (hst : l.stackTraces = false) (hu : okL L u moT) {r : Int32} {M' : KMem} (e : m_Mo_worthIn u p0 M = some (r, M')) : CtrN l B yX11_worthIn cX11_worthIn 2 (some .int) rm_Mo_worthIn [.ref (B.1 + u), .int p0] L M (some (.int r)) L M' :=
  mk_I rfl hst rfl (fun X hl G _ R => b_Mo_worthIn G hu ⟨_, e, R⟩)
def I_Mo_succeeds : List (Nat × Instr × Nat) := [(0, .iload_n 1, 1), (1, .bipush 100, 2), (3, .idiv, 1), (4, .bipush 10, 2), (6, .irem, 1), (7, .istore_n 2, 1), (8, .iload_n 1, 1), (9, .bipush 10, 2), (11, .idiv, 1), (12, .bipush 10, 2), (14, .irem, 1), (15, .istore_n 3, 1), (16, .iload_n 1, 1), (17, .bipush 10, 2), (19, .irem, 1), (20, .istore 4, 2), (22, .aload_n 0, 1), (23, .iload_n 2, 1), (24, .putfield 118, 3), (27, .iload_n 1, 1), (28, .sipush 1000, 3), (31, .idiv, 1), (32, .tableswitch 339 1 9 #[52, 99, 129, 157, 187, 223, 258, 286, 309], 52), (84, .aload_n 0, 1), (85, .iload_n 2, 1), (86, .ifCond .ne 8, 3), (89, .bipush 100, 2), (91, .goto 5, 3), (94, .bipush 111, 2), (96, .putfield 115, 3), (99, .aload_n 0, 1), (100, .iload_n 3, 1), (101, .putfield 118, 3), (104, .iload_n 2, 1), (105, .ifCond .eq 8, 3), (108, .iload_n 2, 1), (109, .iconst 2, 1), (110, .if_icmp .ne 19, 3), (113, .iload 4, 2), (115, .ifCond .ne 14, 3), (118, .aload_n 0, 1), (119, .invokevirtual 190, 3), (122, .ifCond .ne 7, 3), (125, .iconst 1, 1), (126, .goto 4, 3), (129, .iconst 0, 1), (130, .ireturn, 1), (131, .aload_n 0, 1), (132, .bipush 106, 2), (134, .putfield 115, 3), (137, .aload_n 0, 1), (138, .iload_n 3, 1), (139, .putfield 121, 3), (142, .aload_n 0, 1), (143, .iload 4, 2), (145, .putfield 137, 3), (148, .aload_n 0, 1), (149, .invokevirtual 190, 3), (152, .ifCond .ne 7, 3), (155, .iconst 1, 1), (156, .goto 4, 3), (159, .iconst 0, 1), (160, .ireturn, 1), (161, .aload_n 0, 1), (162, .bipush 114, 2), (164, .putfield 115, 3), (167, .iload_n 3, 1), (168, .ifCond .ne 19, 3), (171, .iload 4, 2), (173, .ifCond .ne 14, 3), (176, .aload_n 0, 1), (177, .invokevirtual 190, 3), (180, .ifCond .ne 7, 3), (183, .iconst 1, 1), (184, .goto 4, 3), (187, .iconst 0, 1), (188, .ireturn, 1), (189, .aload_n 0, 1), (190, .bipush 112, 2), (192, .putfield 115, 3), (195, .iload_n 3, 1), (196, .ifCond .ne 21, 3), (199, .iload 4, 2), (201, .ifCond .ne 16, 3), (204, .aload_n 0, 1), (205, .invokevirtual 190, 3), (208, .bipush (-9), 2), (210, .if_icmp .eq 7, 3), (213, .iconst 1, 1), (214, .goto 4, 3), (217, .iconst 0, 1), (218, .ireturn, 1), (219, .aload_n 0, 1), (220, .bipush 109, 2), (222, .putfield 115, 3), (225, .aload_n 0, 1), (226, .bipush 10, 2), (228, .iload_n 3, 1), (229, .imul, 1), (230, .iload 4, 2), (232, .iadd, 1), (233, .putfield 118, 3), (236, .iload_n 2, 1), (237, .ifCond .ne 16, 3), (240, .aload_n 0, 1), (241, .invokevirtual 190, 3), (244, .bipush (-9), 2), (246, .if_icmp .eq 7, 3), (249, .iconst 1, 1), (250, .goto 4, 3), (253, .iconst 0, 1), (254, .ireturn, 1), (255, .aload_n 0, 1), (256, .bipush 121, 2), (258, .putfield 115, 3), (261, .aload_n 0, 1), (262, .iload 4, 2), (264, .putfield 118, 3), (267, .iload_n 2, 1), (268, .ifCond .ne 20, 3), (271, .iload_n 3, 1), (272, .ifCond .ne 16, 3), (275, .aload_n 0, 1), (276, .invokevirtual 190, 3), (279, .bipush (-9), 2), (281, .if_icmp .eq 7, 3), (284, .iconst 1, 1), (285, .goto 4, 3), (288, .iconst 0, 1), (289, .ireturn, 1), (290, .iload_n 3, 1), (291, .ifCond .ne 25, 3), (294, .aload_n 0, 1), (295, .iload_n 2, 1), (296, .invokevirtual 146, 3), (299, .ifCond .eq 17, 3), (302, .aload_n 0, 1), (303, .iload_n 2, 1), (304, .invokevirtual 82, 3), (307, .iload 4, 2), (309, .if_icmp .gt 7, 3), (312, .iconst 1, 1), (313, .goto 4, 3), (316, .iconst 0, 1), (317, .ireturn, 1), (318, .iload_n 2, 1), (319, .ifCond .ne 20, 3), (322, .iload_n 3, 1), (323, .ifCond .ne 16, 3), (326, .aload_n 0, 1), (327, .invokevirtual 105, 3), (330, .iload 4, 2), (332, .if_icmp .gt 7, 3), (335, .iconst 1, 1), (336, .goto 4, 3), (339, .iconst 0, 1), (340, .ireturn, 1), (341, .iload_n 2, 1), (342, .iconst 4, 1), (343, .if_icmp .ge 26, 3), (346, .aload_n 0, 1), (347, .getfield 7, 3), (350, .bipush 98, 2), (352, .iload_n 2, 1), (353, .iadd, 1), (354, .iaload, 1), (355, .bipush 10, 2), (357, .iload_n 3, 1), (358, .imul, 1), (359, .iload 4, 2), (361, .iadd, 1), (362, .if_icmp .lt 7, 3), (365, .iconst 1, 1), (366, .goto 4, 3), (369, .iconst 0, 1), (370, .ireturn, 1), (371, .iconst 0, 1), (372, .ireturn, 1)]
set_option maxRecDepth 100000 in
theorem d_Mo_succeeds : decA cX11_succeeds I_Mo_succeeds = true := by decide +kernel
abbrev rm_Mo_succeeds : Room := ({ frames := 9, cells := 0, slots := 0, locals := 206 } : Room)
def m_Mo_succeeds (u : Nat) (p0 : Int32) (M : KMem) : Option (Int32 × KMem) :=
 Option.bind (some (kup M u 12 (jrem (p0 / 100) 10))) fun M2 =>
 if (p0 / 1000) = 1 then
 (Option.bind (α := Int32) (if (jrem (p0 / 100) 10) = 0 then
 (some 100)
 else
 (some 111)) fun t12 =>
 Option.bind (some (kup M2 u 11 t12)) fun M15 =>
 Option.bind (some (kup M15 u 12 (jrem (p0 / 10) 10))) fun M17 =>
 Option.bind (α := Int32 × KMem) (if (jrem (p0 / 100) 10) = 0 then
 (if (jrem p0 10) = 0 then
 (Option.bind (m_Mo_does u M17) fun (x26, M27) =>
 if x26 = 0 then
 (some (1, M27))
 else
 (some (0, M27)))
 else
 (some (0, M17)))
 else
 (if (jrem (p0 / 100) 10) = 2 then
 (if (jrem p0 10) = 0 then
 (Option.bind (m_Mo_does u M17) fun (x32, M33) =>
 if x32 = 0 then
 (some (1, M33))
 else
 (some (0, M33)))
 else
 (some (0, M17)))
 else
 (some (0, M17)))) fun (t18, M19) =>
 Option.bind (kz t18) fun z21 =>
 some (z21, M19))
 else
 (if (p0 / 1000) = 2 then
 (Option.bind (some (kup M2 u 11 106)) fun M38 =>
 Option.bind (some (kup M38 u 13 (jrem (p0 / 10) 10))) fun M40 =>
 Option.bind (some (kup M40 u 14 (jrem p0 10))) fun M42 =>
 Option.bind (m_Mo_does u M42) fun (x44, M45) =>
 Option.bind (α := Int32) (if x44 = 0 then
 (some 1)
 else
 (some 0)) fun t46 =>
 Option.bind (kz t46) fun z48 =>
 some (z48, M45))
 else
 (if (p0 / 1000) = 3 then
 (Option.bind (some (kup M2 u 11 114)) fun M53 =>
 Option.bind (α := Int32 × KMem) (if (jrem (p0 / 10) 10) = 0 then
 (if (jrem p0 10) = 0 then
 (Option.bind (m_Mo_does u M53) fun (x62, M63) =>
 if x62 = 0 then
 (some (1, M63))
 else
 (some (0, M63)))
 else
 (some (0, M53)))
 else
 (some (0, M53))) fun (t54, M55) =>
 Option.bind (kz t54) fun z57 =>
 some (z57, M55))
 else
 (if (p0 / 1000) = 4 then
 (Option.bind (some (kup M2 u 11 112)) fun M67 =>
 Option.bind (α := Int32 × KMem) (if (jrem (p0 / 10) 10) = 0 then
 (if (jrem p0 10) = 0 then
 (Option.bind (m_Mo_does u M67) fun (x76, M77) =>
 if x76 = (-9) then
 (some (0, M77))
 else
 (some (1, M77)))
 else
 (some (0, M67)))
 else
 (some (0, M67))) fun (t68, M69) =>
 Option.bind (kz t68) fun z71 =>
 some (z71, M69))
 else
 (if (p0 / 1000) = 5 then
 (Option.bind (some (kup M2 u 11 109)) fun M81 =>
 Option.bind (some (kup M81 u 12 ((10 * (jrem (p0 / 10) 10)) + (jrem p0 10)))) fun M83 =>
 Option.bind (α := Int32 × KMem) (if (jrem (p0 / 100) 10) = 0 then
 (Option.bind (m_Mo_does u M83) fun (x91, M92) =>
 if x91 = (-9) then
 (some (0, M92))
 else
 (some (1, M92)))
 else
 (some (0, M83))) fun (t84, M85) =>
 Option.bind (kz t84) fun z87 =>
 some (z87, M85))
 else
 (if (p0 / 1000) = 6 then
 (Option.bind (some (kup M2 u 11 121)) fun M96 =>
 Option.bind (some (kup M96 u 12 (jrem p0 10))) fun M98 =>
 Option.bind (α := Int32 × KMem) (if (jrem (p0 / 100) 10) = 0 then
 (if (jrem (p0 / 10) 10) = 0 then
 (Option.bind (m_Mo_does u M98) fun (x107, M108) =>
 if x107 = (-9) then
 (some (0, M108))
 else
 (some (1, M108)))
 else
 (some (0, M98)))
 else
 (some (0, M98))) fun (t99, M100) =>
 Option.bind (kz t99) fun z102 =>
 some (z102, M100))
 else
 (if (p0 / 1000) = 7 then
 (Option.bind (α := Int32 × KMem) (if (jrem (p0 / 10) 10) = 0 then
 (Option.bind (m_Mo_isSign u (jrem (p0 / 100) 10) M2) fun x118 =>
 if x118 = 0 then
 (some (0, M2))
 else
 (Option.bind (m_Mo_apartBy u (jrem (p0 / 100) 10) M2) fun (x121, M122) =>
 if (jrem p0 10) < x121 then
 (some (0, M122))
 else
 (some (1, M122))))
 else
 (some (0, M2))) fun (t111, M112) =>
 Option.bind (kz t111) fun z114 =>
 some (z114, M112))
 else
 (if (p0 / 1000) = 8 then
 (Option.bind (α := Int32) (if (jrem (p0 / 100) 10) = 0 then
 (if (jrem (p0 / 10) 10) = 0 then
 (Option.bind (m_Mo_wrongs u M2) fun x132 =>
 if (jrem p0 10) < x132 then
 (some 0)
 else
 (some 1))
 else
 (some 0))
 else
 (some 0)) fun t125 =>
 Option.bind (kz t125) fun z127 =>
 some (z127, M2))
 else
 (if (p0 / 1000) = 9 then
 (Option.bind (α := Int32) (if 4 ≤ (jrem (p0 / 100) 10) then
 (some 0)
 else
 (Option.bind (rdI M2 (u + 1) 108 (98 + (jrem (p0 / 100) 10))) fun x141 =>
 if x141 < ((10 * (jrem (p0 / 10) 10)) + (jrem p0 10)) then
 (some 0)
 else
 (some 1))) fun t135 =>
 Option.bind (kz t135) fun z137 =>
 some (z137, M2))
 else
 (Option.bind (kz 0) fun z144 =>
 some (z144, M2))))))))))
set_option maxHeartbeats 4000000 in
set_option maxRecDepth 100000 in
theorem b_Mo_succeeds {X : KX} {B : KB} {L : KLay} {M : KMem} {u : Nat} {p0 : Int32} (G : Good X B RX11 cX11_succeeds 5 rm_Mo_succeeds) (hu : okL L u moT) (h : kOk (m_Mo_succeeds u p0 M) (fun r => RI X B L 5 cX11_succeeds .boolean rm_Mo_succeeds r.1 r.2)) : KK X B L 5 0 0 M 0 [(0, .ref (B.1 + u)), (1, .int p0)] [] := by
  unfold m_Mo_succeeds at h
  refine k_iload_n G (dc d_Mo_succeeds 0 rfl) 1 rfl rfl ?_
  refine k_bipush G (dc d_Mo_succeeds 1 rfl) cB_100 ?_
  refine k_idiv G (dc d_Mo_succeeds 2 rfl) czI_100 ?_
  refine k_bipush G (dc d_Mo_succeeds 3 rfl) cB_10 ?_
  refine k_irem G (dc d_Mo_succeeds 4 rfl) czI_10 ?_
  refine k_istore_n G (dc d_Mo_succeeds 5 rfl) (ls' := [(2, .int (jrem (p0 / 100) 10)), (0, .ref (B.1 + u)), (1, .int p0)]) rfl rfl rfl ?_
  refine k_iload_n G (dc d_Mo_succeeds 6 rfl) 2 rfl rfl ?_
  refine k_bipush G (dc d_Mo_succeeds 7 rfl) cB_10 ?_
  refine k_idiv G (dc d_Mo_succeeds 8 rfl) czI_10 ?_
  refine k_bipush G (dc d_Mo_succeeds 9 rfl) cB_10 ?_
  refine k_irem G (dc d_Mo_succeeds 10 rfl) czI_10 ?_
  refine k_istore_n G (dc d_Mo_succeeds 11 rfl) (ls' := [(3, .int (jrem (p0 / 10) 10)), (2, .int (jrem (p0 / 100) 10)), (0, .ref (B.1 + u)), (1, .int p0)]) rfl rfl rfl ?_
  refine k_iload_n G (dc d_Mo_succeeds 12 rfl) 3 rfl rfl ?_
  refine k_bipush G (dc d_Mo_succeeds 13 rfl) cB_10 ?_
  refine k_irem G (dc d_Mo_succeeds 14 rfl) czI_10 ?_
  refine k_istore G (dc d_Mo_succeeds 15 rfl) (ls' := [(4, .int (jrem p0 10)), (3, .int (jrem (p0 / 10) 10)), (2, .int (jrem (p0 / 100) 10)), (0, .ref (B.1 + u)), (1, .int p0)]) rfl rfl ?_
  refine k_aload_n G (dc d_Mo_succeeds 16 rfl) 3 rfl rfl ?_
  refine k_iload_n G (dc d_Mo_succeeds 17 rfl) 2 rfl rfl ?_
  obtain ⟨M2, e1, h⟩ := kOk_b h
  refine k_putI G kc8 (dc d_Mo_succeeds 18 rfl) (okL_lt hu (o := 0) 0 rfl) (okL_k hu (o := 0) 0 rfl) 12 (by decide) rfl rfl fl_RX11_118 rfl rfl e1 ?_
  refine k_iload_n G (dc d_Mo_succeeds 19 rfl) 4 rfl rfl ?_
  refine k_sipush G (dc d_Mo_succeeds 20 rfl) cS_1000 ?_
  refine k_idiv G (dc d_Mo_succeeds 21 rfl) czI_1000 ?_
  by_cases c3 : (p0 / 1000) = 1
  · replace h := kOk_p c3 h
    refine k_tsI G (dc d_Mo_succeeds 22 rfl) (off := 52) (tgt := 84) c3 (by decide) (by decide) (by decide) (by decide) ?_
    refine k_aload_n G (dc d_Mo_succeeds 23 rfl) 3 rfl rfl ?_
    refine k_iload_n G (dc d_Mo_succeeds 24 rfl) 2 rfl rfl ?_
    refine kJ h (fun r13 => KK X B L 5 0 0 M2 96 [(0, .ref (B.1 + u)), (2, .int (jrem (p0 / 100) 10)), (3, .int (jrem (p0 / 10) 10)), (4, .int (jrem p0 10))] [.int r13, .ref (B.1 + u)]) (fun r13 h => ?_) (fun h => ?_)
    · obtain ⟨t12, rfl⟩ : ∃ z, z = r13 := ⟨_, rfl⟩
      show KK X B L 5 0 0 M2 96 [(0, .ref (B.1 + u)), (2, .int (jrem (p0 / 100) 10)), (3, .int (jrem (p0 / 10) 10)), (4, .int (jrem p0 10))] [.int t12, .ref (B.1 + u)]
      obtain ⟨M15, e14, h⟩ := kOk_b h
      refine k_putI G kc8 (dc d_Mo_succeeds 29 rfl) (okL_lt hu (o := 0) 0 rfl) (okL_k hu (o := 0) 0 rfl) 11 (by decide) rfl rfl fl_RX11_115 rfl rfl e14 ?_
      refine k_aload_n G (dc d_Mo_succeeds 30 rfl) 0 rfl rfl ?_
      refine k_iload_n G (dc d_Mo_succeeds 31 rfl) 2 rfl rfl ?_
      obtain ⟨M17, e16, h⟩ := kOk_b h
      refine k_putI G kc8 (dc d_Mo_succeeds 32 rfl) (okL_lt hu (o := 0) 0 rfl) (okL_k hu (o := 0) 0 rfl) 12 (by decide) rfl rfl fl_RX11_118 rfl rfl e16 ?_
      refine k_iload_n G (dc d_Mo_succeeds 33 rfl) 1 rfl rfl ?_
      refine kJ h (fun r20 => KK X B L 5 0 0 r20.2 130 [] [.int r20.1]) (fun r20 h => ?_) (fun h => ?_)
      · obtain ⟨t18, M19⟩ := r20
        show KK X B L 5 0 0 M19 130 [] [.int t18]
        obtain ⟨z21, e22, h⟩ := kOk_b h
        obtain ⟨e22, nz21, -⟩ := kz_ok e22
        rw [e22]
        exact (kOk_s h) _ _ _ _ rfl rfl nz21 (dc d_Mo_succeeds 46 rfl)
      · refine k_if_eq G (dc d_Mo_succeeds 34 rfl) (tgt := 113) rfl (fun c23 => ?_) (fun c23 => ?_)
        · replace h := kOk_p c23 h
          refine k_iload G (dc d_Mo_succeeds 38 rfl) 3 rfl ?_
          refine k_if_ne G (dc d_Mo_succeeds 39 rfl) (tgt := 129) rfl (fun c24 => ?_) (fun c24 => ?_)
          · replace h := kOk_n c24 h
            refine k_iconst G (dc d_Mo_succeeds 45 rfl) cI_0 ?_
            refine k_sub [] rfl ?_
            have h9 := kOk_s h
            exact h9
          · replace h := kOk_p c24 h
            refine k_aload_n G (dc d_Mo_succeeds 40 rfl) 0 rfl rfl ?_
            obtain ⟨⟨x26, M27⟩, e25, h⟩ := kOk_b h
            refine k_cVI G (dc d_Mo_succeeds 41 rfl) kc8 (okL_lt hu (o := 0) 0 rfl) (okL_k hu (o := 0) 0 rfl) mi_Mo_does mv_Mo_does rfl ml_RX11_190 (c_Mo_does (gst G) hu e25) rfl rfl ⟨rfl, rfl⟩ rfl ⟨rfl, rfl⟩ ⟨rfl, rfl⟩ ?_
            refine k_if_ne G (dc d_Mo_succeeds 42 rfl) (tgt := 129) rfl (fun c28 => ?_) (fun c28 => ?_)
            · replace h := kOk_n c28 h
              refine k_iconst G (dc d_Mo_succeeds 45 rfl) cI_0 ?_
              refine k_sub [] rfl ?_
              have h9 := kOk_s h
              exact h9
            · replace h := kOk_p c28 h
              refine k_iconst G (dc d_Mo_succeeds 43 rfl) cI_1 ?_
              refine k_goto G (dc d_Mo_succeeds 44 rfl) (tgt := 130) rfl ?_
              refine k_sub [] rfl ?_
              have h9 := kOk_s h
              exact h9
        · replace h := kOk_n c23 h
          refine k_iload_n G (dc d_Mo_succeeds 35 rfl) 1 rfl rfl ?_
          refine k_iconst G (dc d_Mo_succeeds 36 rfl) cI_2 ?_
          refine k_icmp_ne G (dc d_Mo_succeeds 37 rfl) (tgt := 129) rfl (fun c29 => ?_) (fun c29 => ?_)
          · replace h := kOk_n c29 h
            refine k_iconst G (dc d_Mo_succeeds 45 rfl) cI_0 ?_
            refine k_sub [] rfl ?_
            have h9 := kOk_s h
            exact h9
          · replace h := kOk_p c29 h
            refine k_iload G (dc d_Mo_succeeds 38 rfl) 3 rfl ?_
            refine k_if_ne G (dc d_Mo_succeeds 39 rfl) (tgt := 129) rfl (fun c30 => ?_) (fun c30 => ?_)
            · replace h := kOk_n c30 h
              refine k_iconst G (dc d_Mo_succeeds 45 rfl) cI_0 ?_
              refine k_sub [] rfl ?_
              have h9 := kOk_s h
              exact h9
            · replace h := kOk_p c30 h
              refine k_aload_n G (dc d_Mo_succeeds 40 rfl) 0 rfl rfl ?_
              obtain ⟨⟨x32, M33⟩, e31, h⟩ := kOk_b h
              refine k_cVI G (dc d_Mo_succeeds 41 rfl) kc8 (okL_lt hu (o := 0) 0 rfl) (okL_k hu (o := 0) 0 rfl) mi_Mo_does mv_Mo_does rfl ml_RX11_190 (c_Mo_does (gst G) hu e31) rfl rfl ⟨rfl, rfl⟩ rfl ⟨rfl, rfl⟩ ⟨rfl, rfl⟩ ?_
              refine k_if_ne G (dc d_Mo_succeeds 42 rfl) (tgt := 129) rfl (fun c34 => ?_) (fun c34 => ?_)
              · replace h := kOk_n c34 h
                refine k_iconst G (dc d_Mo_succeeds 45 rfl) cI_0 ?_
                refine k_sub [] rfl ?_
                have h9 := kOk_s h
                exact h9
              · replace h := kOk_p c34 h
                refine k_iconst G (dc d_Mo_succeeds 43 rfl) cI_1 ?_
                refine k_goto G (dc d_Mo_succeeds 44 rfl) (tgt := 130) rfl ?_
                refine k_sub [] rfl ?_
                have h9 := kOk_s h
                exact h9
    · refine k_if_ne G (dc d_Mo_succeeds 25 rfl) (tgt := 94) rfl (fun c35 => ?_) (fun c35 => ?_)
      · replace h := kOk_n c35 h
        refine k_bipush G (dc d_Mo_succeeds 28 rfl) cB_111 ?_
        refine k_sub [3, 2, 1, 0] rfl ?_
        have h9 := kOk_s h
        exact h9
      · replace h := kOk_p c35 h
        refine k_bipush G (dc d_Mo_succeeds 26 rfl) cB_100 ?_
        refine k_goto G (dc d_Mo_succeeds 27 rfl) (tgt := 96) rfl ?_
        refine k_sub [3, 2, 1, 0] rfl ?_
        have h9 := kOk_s h
        exact h9
  · replace h := kOk_n c3 h
    by_cases c4 : (p0 / 1000) = 2
    · replace h := kOk_p c4 h
      refine k_tsI G (dc d_Mo_succeeds 22 rfl) (off := 99) (tgt := 131) c4 (by decide) (by decide) (by decide) (by decide) ?_
      refine k_aload_n G (dc d_Mo_succeeds 47 rfl) 3 rfl rfl ?_
      refine k_bipush G (dc d_Mo_succeeds 48 rfl) cB_106 ?_
      obtain ⟨M38, e37, h⟩ := kOk_b h
      refine k_putI G kc8 (dc d_Mo_succeeds 49 rfl) (okL_lt hu (o := 0) 0 rfl) (okL_k hu (o := 0) 0 rfl) 11 (by decide) rfl rfl fl_RX11_115 rfl rfl e37 ?_
      refine k_aload_n G (dc d_Mo_succeeds 50 rfl) 3 rfl rfl ?_
      refine k_iload_n G (dc d_Mo_succeeds 51 rfl) 1 rfl rfl ?_
      obtain ⟨M40, e39, h⟩ := kOk_b h
      refine k_putI G kc8 (dc d_Mo_succeeds 52 rfl) (okL_lt hu (o := 0) 0 rfl) (okL_k hu (o := 0) 0 rfl) 13 (by decide) rfl rfl fl_RX11_121 rfl rfl e39 ?_
      refine k_aload_n G (dc d_Mo_succeeds 53 rfl) 3 rfl rfl ?_
      refine k_iload G (dc d_Mo_succeeds 54 rfl) 0 rfl ?_
      obtain ⟨M42, e41, h⟩ := kOk_b h
      refine k_putI G kc8 (dc d_Mo_succeeds 55 rfl) (okL_lt hu (o := 0) 0 rfl) (okL_k hu (o := 0) 0 rfl) 14 (by decide) rfl rfl fl_RX11_137 rfl rfl e41 ?_
      refine k_aload_n G (dc d_Mo_succeeds 56 rfl) 3 rfl rfl ?_
      obtain ⟨⟨x44, M45⟩, e43, h⟩ := kOk_b h
      refine k_cVI G (dc d_Mo_succeeds 57 rfl) kc8 (okL_lt hu (o := 0) 0 rfl) (okL_k hu (o := 0) 0 rfl) mi_Mo_does mv_Mo_does rfl ml_RX11_190 (c_Mo_does (gst G) hu e43) rfl rfl ⟨rfl, rfl⟩ rfl ⟨rfl, rfl⟩ ⟨rfl, rfl⟩ ?_
      refine kJ h (fun r47 => KK X B L 5 0 0 M45 160 [] [.int r47]) (fun r47 h => ?_) (fun h => ?_)
      · obtain ⟨t46, rfl⟩ : ∃ z, z = r47 := ⟨_, rfl⟩
        show KK X B L 5 0 0 M45 160 [] [.int t46]
        obtain ⟨z48, e49, h⟩ := kOk_b h
        obtain ⟨e49, nz48, -⟩ := kz_ok e49
        rw [e49]
        exact (kOk_s h) _ _ _ _ rfl rfl nz48 (dc d_Mo_succeeds 62 rfl)
      · refine k_if_ne G (dc d_Mo_succeeds 58 rfl) (tgt := 159) rfl (fun c50 => ?_) (fun c50 => ?_)
        · replace h := kOk_n c50 h
          refine k_iconst G (dc d_Mo_succeeds 61 rfl) cI_0 ?_
          refine k_sub [] rfl ?_
          have h9 := kOk_s h
          exact h9
        · replace h := kOk_p c50 h
          refine k_iconst G (dc d_Mo_succeeds 59 rfl) cI_1 ?_
          refine k_goto G (dc d_Mo_succeeds 60 rfl) (tgt := 160) rfl ?_
          refine k_sub [] rfl ?_
          have h9 := kOk_s h
          exact h9
    · replace h := kOk_n c4 h
      by_cases c5 : (p0 / 1000) = 3
      · replace h := kOk_p c5 h
        refine k_tsI G (dc d_Mo_succeeds 22 rfl) (off := 129) (tgt := 161) c5 (by decide) (by decide) (by decide) (by decide) ?_
        refine k_aload_n G (dc d_Mo_succeeds 63 rfl) 3 rfl rfl ?_
        refine k_bipush G (dc d_Mo_succeeds 64 rfl) cB_114 ?_
        obtain ⟨M53, e52, h⟩ := kOk_b h
        refine k_putI G kc8 (dc d_Mo_succeeds 65 rfl) (okL_lt hu (o := 0) 0 rfl) (okL_k hu (o := 0) 0 rfl) 11 (by decide) rfl rfl fl_RX11_115 rfl rfl e52 ?_
        refine k_iload_n G (dc d_Mo_succeeds 66 rfl) 1 rfl rfl ?_
        refine kJ h (fun r56 => KK X B L 5 0 0 r56.2 188 [] [.int r56.1]) (fun r56 h => ?_) (fun h => ?_)
        · obtain ⟨t54, M55⟩ := r56
          show KK X B L 5 0 0 M55 188 [] [.int t54]
          obtain ⟨z57, e58, h⟩ := kOk_b h
          obtain ⟨e58, nz57, -⟩ := kz_ok e58
          rw [e58]
          exact (kOk_s h) _ _ _ _ rfl rfl nz57 (dc d_Mo_succeeds 76 rfl)
        · refine k_if_ne G (dc d_Mo_succeeds 67 rfl) (tgt := 187) rfl (fun c59 => ?_) (fun c59 => ?_)
          · replace h := kOk_n c59 h
            refine k_iconst G (dc d_Mo_succeeds 75 rfl) cI_0 ?_
            refine k_sub [] rfl ?_
            have h9 := kOk_s h
            exact h9
          · replace h := kOk_p c59 h
            refine k_iload G (dc d_Mo_succeeds 68 rfl) 0 rfl ?_
            refine k_if_ne G (dc d_Mo_succeeds 69 rfl) (tgt := 187) rfl (fun c60 => ?_) (fun c60 => ?_)
            · replace h := kOk_n c60 h
              refine k_iconst G (dc d_Mo_succeeds 75 rfl) cI_0 ?_
              refine k_sub [] rfl ?_
              have h9 := kOk_s h
              exact h9
            · replace h := kOk_p c60 h
              refine k_aload_n G (dc d_Mo_succeeds 70 rfl) 3 rfl rfl ?_
              obtain ⟨⟨x62, M63⟩, e61, h⟩ := kOk_b h
              refine k_cVI G (dc d_Mo_succeeds 71 rfl) kc8 (okL_lt hu (o := 0) 0 rfl) (okL_k hu (o := 0) 0 rfl) mi_Mo_does mv_Mo_does rfl ml_RX11_190 (c_Mo_does (gst G) hu e61) rfl rfl ⟨rfl, rfl⟩ rfl ⟨rfl, rfl⟩ ⟨rfl, rfl⟩ ?_
              refine k_if_ne G (dc d_Mo_succeeds 72 rfl) (tgt := 187) rfl (fun c64 => ?_) (fun c64 => ?_)
              · replace h := kOk_n c64 h
                refine k_iconst G (dc d_Mo_succeeds 75 rfl) cI_0 ?_
                refine k_sub [] rfl ?_
                have h9 := kOk_s h
                exact h9
              · replace h := kOk_p c64 h
                refine k_iconst G (dc d_Mo_succeeds 73 rfl) cI_1 ?_
                refine k_goto G (dc d_Mo_succeeds 74 rfl) (tgt := 188) rfl ?_
                refine k_sub [] rfl ?_
                have h9 := kOk_s h
                exact h9
      · replace h := kOk_n c5 h
        by_cases c6 : (p0 / 1000) = 4
        · replace h := kOk_p c6 h
          refine k_tsI G (dc d_Mo_succeeds 22 rfl) (off := 157) (tgt := 189) c6 (by decide) (by decide) (by decide) (by decide) ?_
          refine k_aload_n G (dc d_Mo_succeeds 77 rfl) 3 rfl rfl ?_
          refine k_bipush G (dc d_Mo_succeeds 78 rfl) cB_112 ?_
          obtain ⟨M67, e66, h⟩ := kOk_b h
          refine k_putI G kc8 (dc d_Mo_succeeds 79 rfl) (okL_lt hu (o := 0) 0 rfl) (okL_k hu (o := 0) 0 rfl) 11 (by decide) rfl rfl fl_RX11_115 rfl rfl e66 ?_
          refine k_iload_n G (dc d_Mo_succeeds 80 rfl) 1 rfl rfl ?_
          refine kJ h (fun r70 => KK X B L 5 0 0 r70.2 218 [] [.int r70.1]) (fun r70 h => ?_) (fun h => ?_)
          · obtain ⟨t68, M69⟩ := r70
            show KK X B L 5 0 0 M69 218 [] [.int t68]
            obtain ⟨z71, e72, h⟩ := kOk_b h
            obtain ⟨e72, nz71, -⟩ := kz_ok e72
            rw [e72]
            exact (kOk_s h) _ _ _ _ rfl rfl nz71 (dc d_Mo_succeeds 91 rfl)
          · refine k_if_ne G (dc d_Mo_succeeds 81 rfl) (tgt := 217) rfl (fun c73 => ?_) (fun c73 => ?_)
            · replace h := kOk_n c73 h
              refine k_iconst G (dc d_Mo_succeeds 90 rfl) cI_0 ?_
              refine k_sub [] rfl ?_
              have h9 := kOk_s h
              exact h9
            · replace h := kOk_p c73 h
              refine k_iload G (dc d_Mo_succeeds 82 rfl) 0 rfl ?_
              refine k_if_ne G (dc d_Mo_succeeds 83 rfl) (tgt := 217) rfl (fun c74 => ?_) (fun c74 => ?_)
              · replace h := kOk_n c74 h
                refine k_iconst G (dc d_Mo_succeeds 90 rfl) cI_0 ?_
                refine k_sub [] rfl ?_
                have h9 := kOk_s h
                exact h9
              · replace h := kOk_p c74 h
                refine k_aload_n G (dc d_Mo_succeeds 84 rfl) 3 rfl rfl ?_
                obtain ⟨⟨x76, M77⟩, e75, h⟩ := kOk_b h
                refine k_cVI G (dc d_Mo_succeeds 85 rfl) kc8 (okL_lt hu (o := 0) 0 rfl) (okL_k hu (o := 0) 0 rfl) mi_Mo_does mv_Mo_does rfl ml_RX11_190 (c_Mo_does (gst G) hu e75) rfl rfl ⟨rfl, rfl⟩ rfl ⟨rfl, rfl⟩ ⟨rfl, rfl⟩ ?_
                refine k_bipush G (dc d_Mo_succeeds 86 rfl) cB_m9 ?_
                refine k_icmp_eq G (dc d_Mo_succeeds 87 rfl) (tgt := 217) rfl (fun c78 => ?_) (fun c78 => ?_)
                · replace h := kOk_p c78 h
                  refine k_iconst G (dc d_Mo_succeeds 90 rfl) cI_0 ?_
                  refine k_sub [] rfl ?_
                  have h9 := kOk_s h
                  exact h9
                · replace h := kOk_n c78 h
                  refine k_iconst G (dc d_Mo_succeeds 88 rfl) cI_1 ?_
                  refine k_goto G (dc d_Mo_succeeds 89 rfl) (tgt := 218) rfl ?_
                  refine k_sub [] rfl ?_
                  have h9 := kOk_s h
                  exact h9
        · replace h := kOk_n c6 h
          by_cases c7 : (p0 / 1000) = 5
          · replace h := kOk_p c7 h
            refine k_tsI G (dc d_Mo_succeeds 22 rfl) (off := 187) (tgt := 219) c7 (by decide) (by decide) (by decide) (by decide) ?_
            refine k_aload_n G (dc d_Mo_succeeds 92 rfl) 3 rfl rfl ?_
            refine k_bipush G (dc d_Mo_succeeds 93 rfl) cB_109 ?_
            obtain ⟨M81, e80, h⟩ := kOk_b h
            refine k_putI G kc8 (dc d_Mo_succeeds 94 rfl) (okL_lt hu (o := 0) 0 rfl) (okL_k hu (o := 0) 0 rfl) 11 (by decide) rfl rfl fl_RX11_115 rfl rfl e80 ?_
            refine k_aload_n G (dc d_Mo_succeeds 95 rfl) 3 rfl rfl ?_
            refine k_bipush G (dc d_Mo_succeeds 96 rfl) cB_10 ?_
            refine k_iload_n G (dc d_Mo_succeeds 97 rfl) 1 rfl rfl ?_
            refine k_imul G (dc d_Mo_succeeds 98 rfl) ?_
            refine k_iload G (dc d_Mo_succeeds 99 rfl) 0 rfl ?_
            refine k_iadd G (dc d_Mo_succeeds 100 rfl) ?_
            obtain ⟨M83, e82, h⟩ := kOk_b h
            refine k_putI G kc8 (dc d_Mo_succeeds 101 rfl) (okL_lt hu (o := 0) 0 rfl) (okL_k hu (o := 0) 0 rfl) 12 (by decide) rfl rfl fl_RX11_118 rfl rfl e82 ?_
            refine k_iload_n G (dc d_Mo_succeeds 102 rfl) 2 rfl rfl ?_
            refine kJ h (fun r86 => KK X B L 5 0 0 r86.2 254 [] [.int r86.1]) (fun r86 h => ?_) (fun h => ?_)
            · obtain ⟨t84, M85⟩ := r86
              show KK X B L 5 0 0 M85 254 [] [.int t84]
              obtain ⟨z87, e88, h⟩ := kOk_b h
              obtain ⟨e88, nz87, -⟩ := kz_ok e88
              rw [e88]
              exact (kOk_s h) _ _ _ _ rfl rfl nz87 (dc d_Mo_succeeds 111 rfl)
            · refine k_if_ne G (dc d_Mo_succeeds 103 rfl) (tgt := 253) rfl (fun c89 => ?_) (fun c89 => ?_)
              · replace h := kOk_n c89 h
                refine k_iconst G (dc d_Mo_succeeds 110 rfl) cI_0 ?_
                refine k_sub [] rfl ?_
                have h9 := kOk_s h
                exact h9
              · replace h := kOk_p c89 h
                refine k_aload_n G (dc d_Mo_succeeds 104 rfl) 3 rfl rfl ?_
                obtain ⟨⟨x91, M92⟩, e90, h⟩ := kOk_b h
                refine k_cVI G (dc d_Mo_succeeds 105 rfl) kc8 (okL_lt hu (o := 0) 0 rfl) (okL_k hu (o := 0) 0 rfl) mi_Mo_does mv_Mo_does rfl ml_RX11_190 (c_Mo_does (gst G) hu e90) rfl rfl ⟨rfl, rfl⟩ rfl ⟨rfl, rfl⟩ ⟨rfl, rfl⟩ ?_
                refine k_bipush G (dc d_Mo_succeeds 106 rfl) cB_m9 ?_
                refine k_icmp_eq G (dc d_Mo_succeeds 107 rfl) (tgt := 253) rfl (fun c93 => ?_) (fun c93 => ?_)
                · replace h := kOk_p c93 h
                  refine k_iconst G (dc d_Mo_succeeds 110 rfl) cI_0 ?_
                  refine k_sub [] rfl ?_
                  have h9 := kOk_s h
                  exact h9
                · replace h := kOk_n c93 h
                  refine k_iconst G (dc d_Mo_succeeds 108 rfl) cI_1 ?_
                  refine k_goto G (dc d_Mo_succeeds 109 rfl) (tgt := 254) rfl ?_
                  refine k_sub [] rfl ?_
                  have h9 := kOk_s h
                  exact h9
          · replace h := kOk_n c7 h
            by_cases c8 : (p0 / 1000) = 6
            · replace h := kOk_p c8 h
              refine k_tsI G (dc d_Mo_succeeds 22 rfl) (off := 223) (tgt := 255) c8 (by decide) (by decide) (by decide) (by decide) ?_
              refine k_aload_n G (dc d_Mo_succeeds 112 rfl) 3 rfl rfl ?_
              refine k_bipush G (dc d_Mo_succeeds 113 rfl) cB_121 ?_
              obtain ⟨M96, e95, h⟩ := kOk_b h
              refine k_putI G kc8 (dc d_Mo_succeeds 114 rfl) (okL_lt hu (o := 0) 0 rfl) (okL_k hu (o := 0) 0 rfl) 11 (by decide) rfl rfl fl_RX11_115 rfl rfl e95 ?_
              refine k_aload_n G (dc d_Mo_succeeds 115 rfl) 3 rfl rfl ?_
              refine k_iload G (dc d_Mo_succeeds 116 rfl) 0 rfl ?_
              obtain ⟨M98, e97, h⟩ := kOk_b h
              refine k_putI G kc8 (dc d_Mo_succeeds 117 rfl) (okL_lt hu (o := 0) 0 rfl) (okL_k hu (o := 0) 0 rfl) 12 (by decide) rfl rfl fl_RX11_118 rfl rfl e97 ?_
              refine k_iload_n G (dc d_Mo_succeeds 118 rfl) 2 rfl rfl ?_
              refine kJ h (fun r101 => KK X B L 5 0 0 r101.2 289 [] [.int r101.1]) (fun r101 h => ?_) (fun h => ?_)
              · obtain ⟨t99, M100⟩ := r101
                show KK X B L 5 0 0 M100 289 [] [.int t99]
                obtain ⟨z102, e103, h⟩ := kOk_b h
                obtain ⟨e103, nz102, -⟩ := kz_ok e103
                rw [e103]
                exact (kOk_s h) _ _ _ _ rfl rfl nz102 (dc d_Mo_succeeds 129 rfl)
              · refine k_if_ne G (dc d_Mo_succeeds 119 rfl) (tgt := 288) rfl (fun c104 => ?_) (fun c104 => ?_)
                · replace h := kOk_n c104 h
                  refine k_iconst G (dc d_Mo_succeeds 128 rfl) cI_0 ?_
                  refine k_sub [] rfl ?_
                  have h9 := kOk_s h
                  exact h9
                · replace h := kOk_p c104 h
                  refine k_iload_n G (dc d_Mo_succeeds 120 rfl) 1 rfl rfl ?_
                  refine k_if_ne G (dc d_Mo_succeeds 121 rfl) (tgt := 288) rfl (fun c105 => ?_) (fun c105 => ?_)
                  · replace h := kOk_n c105 h
                    refine k_iconst G (dc d_Mo_succeeds 128 rfl) cI_0 ?_
                    refine k_sub [] rfl ?_
                    have h9 := kOk_s h
                    exact h9
                  · replace h := kOk_p c105 h
                    refine k_aload_n G (dc d_Mo_succeeds 122 rfl) 3 rfl rfl ?_
                    obtain ⟨⟨x107, M108⟩, e106, h⟩ := kOk_b h
                    refine k_cVI G (dc d_Mo_succeeds 123 rfl) kc8 (okL_lt hu (o := 0) 0 rfl) (okL_k hu (o := 0) 0 rfl) mi_Mo_does mv_Mo_does rfl ml_RX11_190 (c_Mo_does (gst G) hu e106) rfl rfl ⟨rfl, rfl⟩ rfl ⟨rfl, rfl⟩ ⟨rfl, rfl⟩ ?_
                    refine k_bipush G (dc d_Mo_succeeds 124 rfl) cB_m9 ?_
                    refine k_icmp_eq G (dc d_Mo_succeeds 125 rfl) (tgt := 288) rfl (fun c109 => ?_) (fun c109 => ?_)
                    · replace h := kOk_p c109 h
                      refine k_iconst G (dc d_Mo_succeeds 128 rfl) cI_0 ?_
                      refine k_sub [] rfl ?_
                      have h9 := kOk_s h
                      exact h9
                    · replace h := kOk_n c109 h
                      refine k_iconst G (dc d_Mo_succeeds 126 rfl) cI_1 ?_
                      refine k_goto G (dc d_Mo_succeeds 127 rfl) (tgt := 289) rfl ?_
                      refine k_sub [] rfl ?_
                      have h9 := kOk_s h
                      exact h9
            · replace h := kOk_n c8 h
              by_cases c9 : (p0 / 1000) = 7
              · replace h := kOk_p c9 h
                refine k_tsI G (dc d_Mo_succeeds 22 rfl) (off := 258) (tgt := 290) c9 (by decide) (by decide) (by decide) (by decide) ?_
                refine k_iload_n G (dc d_Mo_succeeds 130 rfl) 1 rfl rfl ?_
                refine kJ h (fun r113 => KK X B L 5 0 0 r113.2 317 [] [.int r113.1]) (fun r113 h => ?_) (fun h => ?_)
                · obtain ⟨t111, M112⟩ := r113
                  show KK X B L 5 0 0 M112 317 [] [.int t111]
                  obtain ⟨z114, e115, h⟩ := kOk_b h
                  obtain ⟨e115, nz114, -⟩ := kz_ok e115
                  rw [e115]
                  exact (kOk_s h) _ _ _ _ rfl rfl nz114 (dc d_Mo_succeeds 144 rfl)
                · refine k_if_ne G (dc d_Mo_succeeds 131 rfl) (tgt := 316) rfl (fun c116 => ?_) (fun c116 => ?_)
                  · replace h := kOk_n c116 h
                    refine k_iconst G (dc d_Mo_succeeds 143 rfl) cI_0 ?_
                    refine k_sub [] rfl ?_
                    have h9 := kOk_s h
                    exact h9
                  · replace h := kOk_p c116 h
                    refine k_aload_n G (dc d_Mo_succeeds 132 rfl) 3 rfl rfl ?_
                    refine k_iload_n G (dc d_Mo_succeeds 133 rfl) 2 rfl rfl ?_
                    obtain ⟨x118, e117, h⟩ := kOk_b h
                    refine k_cVI G (dc d_Mo_succeeds 134 rfl) kc8 (okL_lt hu (o := 0) 0 rfl) (okL_k hu (o := 0) 0 rfl) mi_Mo_isSign mv_Mo_isSign rfl ml_RX11_146 (c_Mo_isSign (gst G) hu e117) rfl rfl ⟨rfl, rfl⟩ rfl ⟨rfl, rfl⟩ ⟨rfl, rfl⟩ ?_
                    refine k_if_eq G (dc d_Mo_succeeds 135 rfl) (tgt := 316) rfl (fun c119 => ?_) (fun c119 => ?_)
                    · replace h := kOk_p c119 h
                      refine k_iconst G (dc d_Mo_succeeds 143 rfl) cI_0 ?_
                      refine k_sub [] rfl ?_
                      have h9 := kOk_s h
                      exact h9
                    · replace h := kOk_n c119 h
                      refine k_aload_n G (dc d_Mo_succeeds 136 rfl) 3 rfl rfl ?_
                      refine k_iload_n G (dc d_Mo_succeeds 137 rfl) 2 rfl rfl ?_
                      obtain ⟨⟨x121, M122⟩, e120, h⟩ := kOk_b h
                      refine k_cVI G (dc d_Mo_succeeds 138 rfl) kc8 (okL_lt hu (o := 0) 0 rfl) (okL_k hu (o := 0) 0 rfl) mi_Mo_apartBy mv_Mo_apartBy rfl ml_RX11_82 (c_Mo_apartBy (gst G) hu e120) rfl rfl ⟨rfl, rfl⟩ rfl ⟨rfl, rfl⟩ ⟨rfl, rfl⟩ ?_
                      refine k_iload G (dc d_Mo_succeeds 139 rfl) 0 rfl ?_
                      refine k_icmp_gt G (dc d_Mo_succeeds 140 rfl) (tgt := 316) rfl (fun c123 => ?_) (fun c123 => ?_)
                      · replace h := kOk_p c123 h
                        refine k_iconst G (dc d_Mo_succeeds 143 rfl) cI_0 ?_
                        refine k_sub [] rfl ?_
                        have h9 := kOk_s h
                        exact h9
                      · replace h := kOk_n c123 h
                        refine k_iconst G (dc d_Mo_succeeds 141 rfl) cI_1 ?_
                        refine k_goto G (dc d_Mo_succeeds 142 rfl) (tgt := 317) rfl ?_
                        refine k_sub [] rfl ?_
                        have h9 := kOk_s h
                        exact h9
              · replace h := kOk_n c9 h
                by_cases c10 : (p0 / 1000) = 8
                · replace h := kOk_p c10 h
                  refine k_tsI G (dc d_Mo_succeeds 22 rfl) (off := 286) (tgt := 318) c10 (by decide) (by decide) (by decide) (by decide) ?_
                  refine k_iload_n G (dc d_Mo_succeeds 145 rfl) 2 rfl rfl ?_
                  refine kJ h (fun r126 => KK X B L 5 0 0 M2 340 [] [.int r126]) (fun r126 h => ?_) (fun h => ?_)
                  · obtain ⟨t125, rfl⟩ : ∃ z, z = r126 := ⟨_, rfl⟩
                    show KK X B L 5 0 0 M2 340 [] [.int t125]
                    obtain ⟨z127, e128, h⟩ := kOk_b h
                    obtain ⟨e128, nz127, -⟩ := kz_ok e128
                    rw [e128]
                    exact (kOk_s h) _ _ _ _ rfl rfl nz127 (dc d_Mo_succeeds 156 rfl)
                  · refine k_if_ne G (dc d_Mo_succeeds 146 rfl) (tgt := 339) rfl (fun c129 => ?_) (fun c129 => ?_)
                    · replace h := kOk_n c129 h
                      refine k_iconst G (dc d_Mo_succeeds 155 rfl) cI_0 ?_
                      refine k_sub [] rfl ?_
                      have h9 := kOk_s h
                      exact h9
                    · replace h := kOk_p c129 h
                      refine k_iload_n G (dc d_Mo_succeeds 147 rfl) 1 rfl rfl ?_
                      refine k_if_ne G (dc d_Mo_succeeds 148 rfl) (tgt := 339) rfl (fun c130 => ?_) (fun c130 => ?_)
                      · replace h := kOk_n c130 h
                        refine k_iconst G (dc d_Mo_succeeds 155 rfl) cI_0 ?_
                        refine k_sub [] rfl ?_
                        have h9 := kOk_s h
                        exact h9
                      · replace h := kOk_p c130 h
                        refine k_aload_n G (dc d_Mo_succeeds 149 rfl) 3 rfl rfl ?_
                        obtain ⟨x132, e131, h⟩ := kOk_b h
                        refine k_cVI G (dc d_Mo_succeeds 150 rfl) kc8 (okL_lt hu (o := 0) 0 rfl) (okL_k hu (o := 0) 0 rfl) mi_Mo_wrongs mv_Mo_wrongs rfl ml_RX11_105 (c_Mo_wrongs (gst G) hu e131) rfl rfl ⟨rfl, rfl⟩ rfl ⟨rfl, rfl⟩ ⟨rfl, rfl⟩ ?_
                        refine k_iload G (dc d_Mo_succeeds 151 rfl) 0 rfl ?_
                        refine k_icmp_gt G (dc d_Mo_succeeds 152 rfl) (tgt := 339) rfl (fun c133 => ?_) (fun c133 => ?_)
                        · replace h := kOk_p c133 h
                          refine k_iconst G (dc d_Mo_succeeds 155 rfl) cI_0 ?_
                          refine k_sub [] rfl ?_
                          have h9 := kOk_s h
                          exact h9
                        · replace h := kOk_n c133 h
                          refine k_iconst G (dc d_Mo_succeeds 153 rfl) cI_1 ?_
                          refine k_goto G (dc d_Mo_succeeds 154 rfl) (tgt := 340) rfl ?_
                          refine k_sub [] rfl ?_
                          have h9 := kOk_s h
                          exact h9
                · replace h := kOk_n c10 h
                  by_cases c11 : (p0 / 1000) = 9
                  · replace h := kOk_p c11 h
                    refine k_tsI G (dc d_Mo_succeeds 22 rfl) (off := 309) (tgt := 341) c11 (by decide) (by decide) (by decide) (by decide) ?_
                    refine k_iload_n G (dc d_Mo_succeeds 157 rfl) 2 rfl rfl ?_
                    refine k_iconst G (dc d_Mo_succeeds 158 rfl) cI_4 ?_
                    refine kJ h (fun r136 => KK X B L 5 0 0 M2 370 [] [.int r136]) (fun r136 h => ?_) (fun h => ?_)
                    · obtain ⟨t135, rfl⟩ : ∃ z, z = r136 := ⟨_, rfl⟩
                      show KK X B L 5 0 0 M2 370 [] [.int t135]
                      obtain ⟨z137, e138, h⟩ := kOk_b h
                      obtain ⟨e138, nz137, -⟩ := kz_ok e138
                      rw [e138]
                      exact (kOk_s h) _ _ _ _ rfl rfl nz137 (dc d_Mo_succeeds 175 rfl)
                    · refine k_icmp_ge G (dc d_Mo_succeeds 159 rfl) (tgt := 369) rfl (fun c139 => ?_) (fun c139 => ?_)
                      · replace h := kOk_p c139 h
                        refine k_iconst G (dc d_Mo_succeeds 174 rfl) cI_0 ?_
                        refine k_sub [] rfl ?_
                        have h9 := kOk_s h
                        exact h9
                      · replace h := kOk_n c139 h
                        refine k_aload_n G (dc d_Mo_succeeds 160 rfl) 3 rfl rfl ?_
                        refine k_getR G kc8 (dc d_Mo_succeeds 161 rfl) (okL_lt hu (o := 0) 0 rfl) (okL_k hu (o := 0) 0 rfl) 1 (by decide) rfl fl_RX11_7 (u + 1) (okL_r hu (o := 0) (c := 1) 0 rfl 0 rfl) ?_
                        refine k_bipush G (dc d_Mo_succeeds 162 rfl) cB_98 ?_
                        refine k_iload_n G (dc d_Mo_succeeds 163 rfl) 2 rfl rfl ?_
                        refine k_iadd G (dc d_Mo_succeeds 164 rfl) ?_
                        obtain ⟨x141, e140, h⟩ := kOk_b h
                        refine k_ild G (dc d_Mo_succeeds 165 rfl) (okL_lt hu (o := 1) 1 rfl) (okL_k hu (o := 1) 1 rfl) (okL_n hu (o := 1) 1 rfl) e140 ?_
                        refine k_bipush G (dc d_Mo_succeeds 166 rfl) cB_10 ?_
                        refine k_iload_n G (dc d_Mo_succeeds 167 rfl) 1 rfl rfl ?_
                        refine k_imul G (dc d_Mo_succeeds 168 rfl) ?_
                        refine k_iload G (dc d_Mo_succeeds 169 rfl) 0 rfl ?_
                        refine k_iadd G (dc d_Mo_succeeds 170 rfl) ?_
                        refine k_icmp_lt G (dc d_Mo_succeeds 171 rfl) (tgt := 369) rfl (fun c142 => ?_) (fun c142 => ?_)
                        · replace h := kOk_p c142 h
                          refine k_iconst G (dc d_Mo_succeeds 174 rfl) cI_0 ?_
                          refine k_sub [] rfl ?_
                          have h9 := kOk_s h
                          exact h9
                        · replace h := kOk_n c142 h
                          refine k_iconst G (dc d_Mo_succeeds 172 rfl) cI_1 ?_
                          refine k_goto G (dc d_Mo_succeeds 173 rfl) (tgt := 370) rfl ?_
                          refine k_sub [] rfl ?_
                          have h9 := kOk_s h
                          exact h9
                  · replace h := kOk_n c11 h
                    have hD146 : KK X B L 5 0 0 M2 371 [(4, .int (jrem p0 10)), (3, .int (jrem (p0 / 10) 10)), (2, .int (jrem (p0 / 100) 10)), (0, .ref (B.1 + u)), (1, .int p0)] [] := by
                      refine k_iconst G (dc d_Mo_succeeds 176 rfl) cI_0 ?_
                      obtain ⟨z144, e145, h⟩ := kOk_b h
                      obtain ⟨e145, nz144, -⟩ := kz_ok e145
                      rw [e145]
                      exact (kOk_s h) _ _ _ _ rfl rfl nz144 (dc d_Mo_succeeds 177 rfl)
                    rcases ts_out (p0 / 1000) 1 9 with ho | ⟨k9, h91, h92, h93⟩
                    · exact k_tableOut G (dc d_Mo_succeeds 22 rfl) (tgt := 371) ho rfl hD146
                    · have h94 : k9 = 1 ∨ k9 = 2 ∨ k9 = 3 ∨ k9 = 4 ∨ k9 = 5 ∨ k9 = 6 ∨ k9 = 7 ∨ k9 = 8 ∨ k9 = 9 := by omega
                      rcases h94 with rfl | rfl | rfl | rfl | rfl | rfl | rfl | rfl | rfl
                      · exact absurd (h93.trans cI_1) c3
                      · exact absurd (h93.trans cI_2) c4
                      · exact absurd (h93.trans cI_3) c5
                      · exact absurd (h93.trans cI_4) c6
                      · exact absurd (h93.trans cI_5) c7
                      · exact absurd (h93.trans cI_6) c8
                      · exact absurd (h93.trans cI_7) c9
                      · exact absurd (h93.trans cI_8) c10
                      · exact absurd (h93.trans cI_9) c11
theorem c_Mo_succeeds {l : Launch} {B : KB} {L : KLay} {M : KMem} {u : Nat} {p0 : Int32} (hst : l.stackTraces = false) (hu : okL L u moT) {r : Int32} {M' : KMem} (e : m_Mo_succeeds u p0 M = some (r, M')) : CtrN l B yX11_succeeds cX11_succeeds 5 (some .boolean) rm_Mo_succeeds [.ref (B.1 + u), .int p0] L M (some (.int r)) L M' :=
  mk_I rfl hst rfl (fun X hl G _ R => b_Mo_succeeds G hu ⟨_, e, R⟩)
def I_Mo_runs : List (Nat × Instr × Nat) := [(0, .aload_n 0, 1), (1, .invokevirtual 234, 3), (4, .iconst (-1), 1), (5, .istore 4, 2), (7, .iconst 0, 1), (8, .istore 5, 2), (10, .iload 5, 2), (12, .iload_n 1, 1), (13, .if_icmp .ge 66, 3), (16, .iload 4, 2), (18, .iconst (-1), 1), (19, .if_icmp .ne 60, 3), (22, .lload_n 2, 1), (23, .lstore 6, 2), (25, .iload 5, 2), (27, .iconst 1, 1), (28, .iadd, 1), (29, .istore 8, 2), (31, .iload 8, 2), (33, .iload_n 1, 1), (34, .if_icmp .ge 17, 3), (37, .lload 6, 2), (39, .ldc2_w 237, 3), (42, .ldiv, 1), (43, .lstore 6, 2), (45, .iinc 8 1, 3), (48, .goto (-17), 3), (51, .aload_n 0, 1), (52, .lload 6, 2), (54, .ldc2_w 237, 3), (57, .lrem, 1), (58, .l2i, 1), (59, .invokevirtual 239, 3), (62, .ifCond .eq 7, 3), (65, .iconst (-1), 1), (66, .goto 5, 3), (69, .iload 5, 2), (71, .istore 4, 2), (73, .iinc 5 1, 3), (76, .goto (-66), 3), (79, .aload_n 0, 1), (80, .invokevirtual 242, 3), (83, .iload 4, 2), (85, .ireturn, 1)]
set_option maxRecDepth 100000 in
theorem d_Mo_runs : decA cX11_runs I_Mo_runs = true := by decide +kernel
abbrev rm_Mo_runs : Room := ({ frames := 10, cells := 0, slots := 0, locals := 230 } : Room)
def m_Mo_runs_l31 (p0 : Int32) : (Int64 × Int32) → Option ((Int64 × Int32) ⊕ Int64) := fun (v6_8, v8_9) =>
 if p0 ≤ v8_9 then
 (some (.inr v6_8))
 else
 (some (.inl (v6_8 / 10000, v8_9 + 1)))
def m_Mo_runs_l10 (u : Nat) (p0 : Int32) (p1 : Int64) : (Int32 × Int32 × KMem) → Option ((Int32 × Int32 × KMem) ⊕ (Int32 × KMem)) := fun (v4_3, v5_4, M5) =>
 if p0 ≤ v5_4 then
 (some (.inr (v4_3, M5)))
 else
 (if v4_3 = (-1) then
 (Option.bind (α := Int64) (kLp (m_Mo_runs_l31 p0) kFU (p1, v5_4 + 1)) fun v6_11 =>
 Option.bind (m_Mo_succeeds u ((jremL v6_11 10000).toInt32) M5) fun (x13, M14) =>
 Option.bind (α := Int32) (if x13 = 0 then
 (some v5_4)
 else
 (some (-1))) fun t15 =>
 some (.inl (t15, v5_4 + 1, M14)))
 else
 (some (.inr (v4_3, M5))))
def m_Mo_runs (u : Nat) (p0 : Int32) (p1 : Int64) (M : KMem) : Option (Int32 × KMem) :=
 Option.bind (m_Mo_putAside u M) fun M2 =>
 Option.bind (α := Int32 × KMem) (kLp (m_Mo_runs_l10 u p0 p1) kFU ((-1), 0, M2)) fun (v4_20, M21) =>
 Option.bind (m_Mo_putBack u M21) fun M23 =>
 some (v4_20, M23)
set_option maxHeartbeats 4000000 in
set_option maxRecDepth 100000 in
theorem b_Mo_runs {X : KX} {B : KB} {L : KLay} {M : KMem} {u : Nat} {p0 : Int32} {p1 : Int64} (G : Good X B RX11 cX11_runs 9 rm_Mo_runs) (hu : okL L u moT) (h : kOk (m_Mo_runs u p0 p1 M) (fun r => RI X B L 9 cX11_runs .int rm_Mo_runs r.1 r.2)) : KK X B L 9 0 0 M 0 [(0, .ref (B.1 + u)), (1, .int p0), (2, .long p1)] [] := by
  unfold m_Mo_runs at h
  refine k_aload_n G (dc d_Mo_runs 0 rfl) 0 rfl rfl ?_
  obtain ⟨M2, e1, h⟩ := kOk_b h
  refine k_cVV G (dc d_Mo_runs 1 rfl) kc8 (okL_lt hu (o := 0) 0 rfl) (okL_k hu (o := 0) 0 rfl) mi_Mo_putAside mv_Mo_putAside rfl ml_RX11_234 (c_Mo_putAside (gst G) hu e1) rfl rfl ⟨rfl, rfl⟩ rfl ⟨rfl, rfl⟩ ⟨rfl, rfl⟩ ?_
  refine k_iconst G (dc d_Mo_runs 2 rfl) cI_m1 ?_
  refine k_istore G (dc d_Mo_runs 3 rfl) (ls' := [(4, .int (-1)), (0, .ref (B.1 + u)), (1, .int p0), (2, .long p1)]) rfl rfl ?_
  refine k_iconst G (dc d_Mo_runs 4 rfl) cI_0 ?_
  refine k_istore G (dc d_Mo_runs 5 rfl) (ls' := [(5, .int 0), (4, .int (-1)), (0, .ref (B.1 + u)), (1, .int p0), (2, .long p1)]) rfl rfl ?_
  refine kJ h (fun r24 => KK X B L 9 0 0 r24.2 79 [(0, .ref (B.1 + u)), (4, .int r24.1)] []) (fun r24 h => ?_) (fun h => ?_)
  · obtain ⟨v4_20, M21⟩ := r24
    show KK X B L 9 0 0 M21 79 [(0, .ref (B.1 + u)), (4, .int v4_20)] []
    refine k_aload_n G (dc d_Mo_runs 40 rfl) 0 rfl rfl ?_
    obtain ⟨M23, e22, h⟩ := kOk_b h
    refine k_cVV G (dc d_Mo_runs 41 rfl) kc8 (okL_lt hu (o := 0) 0 rfl) (okL_k hu (o := 0) 0 rfl) mi_Mo_putBack mv_Mo_putBack rfl ml_RX11_242 (c_Mo_putBack (gst G) hu e22) rfl rfl ⟨rfl, rfl⟩ rfl ⟨rfl, rfl⟩ ⟨rfl, rfl⟩ ?_
    refine k_iload G (dc d_Mo_runs 42 rfl) 1 rfl ?_
    exact (kOk_s h) _ _ _ _ rfl rfl rfl (dc d_Mo_runs 43 rfl)
  · refine k_sub [2, 3, 4, 1, 0] rfl ?_
    refine kLp_ok (P := fun s25 => KK X B L 9 0 0 s25.2.2 10 [(0, .ref (B.1 + u)), (1, .int p0), (2, .long p1), (4, .int s25.1), (5, .int s25.2.1)] []) (fun s25 h => ?_) kFU _ h
    obtain ⟨v4_3, v5_4, M5⟩ := s25
    unfold m_Mo_runs_l10 at h
    show KK X B L 9 0 0 M5 10 [(0, .ref (B.1 + u)), (1, .int p0), (2, .long p1), (4, .int v4_3), (5, .int v5_4)] []
    refine k_iload G (dc d_Mo_runs 6 rfl) 4 rfl ?_
    refine k_iload_n G (dc d_Mo_runs 7 rfl) 1 rfl rfl ?_
    refine k_icmp_ge G (dc d_Mo_runs 8 rfl) (tgt := 79) rfl (fun c6 => ?_) (fun c6 => ?_)
    · replace h := kOk_p c6 h
      refine k_sub [0, 3] rfl ?_
      have h9 := kOk_s h
      exact h9
    · replace h := kOk_n c6 h
      refine k_iload G (dc d_Mo_runs 9 rfl) 3 rfl ?_
      refine k_iconst G (dc d_Mo_runs 10 rfl) cI_m1 ?_
      refine k_icmp_ne G (dc d_Mo_runs 11 rfl) (tgt := 79) rfl (fun c7 => ?_) (fun c7 => ?_)
      · replace h := kOk_n c7 h
        refine k_sub [0, 3] rfl ?_
        have h9 := kOk_s h
        exact h9
      · replace h := kOk_p c7 h
        refine k_lload_n G (dc d_Mo_runs 12 rfl) 2 rfl rfl ?_
        refine k_lstore G (dc d_Mo_runs 13 rfl) (ls' := [(6, .long p1), (0, .ref (B.1 + u)), (1, .int p0), (2, .long p1), (4, .int v4_3), (5, .int v5_4)]) rfl rfl ?_
        refine k_iload G (dc d_Mo_runs 14 rfl) 5 rfl ?_
        refine k_iconst G (dc d_Mo_runs 15 rfl) cI_1 ?_
        refine k_iadd G (dc d_Mo_runs 16 rfl) ?_
        refine k_istore G (dc d_Mo_runs 17 rfl) (ls' := [(8, .int (v5_4 + 1)), (6, .long p1), (0, .ref (B.1 + u)), (1, .int p0), (2, .long p1), (4, .int v4_3), (5, .int v5_4)]) rfl rfl ?_
        refine kJ h (fun r18 => KK X B L 9 0 0 M5 51 [(0, .ref (B.1 + u)), (1, .int p0), (2, .long p1), (5, .int v5_4), (6, .long r18)] []) (fun r18 h => ?_) (fun h => ?_)
        · obtain ⟨v6_11, rfl⟩ : ∃ z, z = r18 := ⟨_, rfl⟩
          show KK X B L 9 0 0 M5 51 [(0, .ref (B.1 + u)), (1, .int p0), (2, .long p1), (5, .int v5_4), (6, .long v6_11)] []
          refine k_aload_n G (dc d_Mo_runs 27 rfl) 0 rfl rfl ?_
          refine k_lload G (dc d_Mo_runs 28 rfl) 4 rfl ?_
          refine k_ldc2 G (dc d_Mo_runs 29 rfl) ld_RX11_237 ?_
          refine k_lrem G (dc d_Mo_runs 30 rfl) czL_10000 ?_
          refine k_l2i G (dc d_Mo_runs 31 rfl) ?_
          obtain ⟨⟨x13, M14⟩, e12, h⟩ := kOk_b h
          refine k_cVI G (dc d_Mo_runs 32 rfl) kc8 (okL_lt hu (o := 0) 0 rfl) (okL_k hu (o := 0) 0 rfl) mi_Mo_succeeds mv_Mo_succeeds rfl ml_RX11_239 (c_Mo_succeeds (gst G) hu e12) rfl rfl ⟨rfl, rfl⟩ rfl ⟨rfl, rfl⟩ ⟨rfl, rfl⟩ ?_
          refine kJ h (fun r16 => KK X B L 9 0 0 M14 71 [(0, .ref (B.1 + u)), (1, .int p0), (2, .long p1), (5, .int v5_4)] [.int r16]) (fun r16 h => ?_) (fun h => ?_)
          · obtain ⟨t15, rfl⟩ : ∃ z, z = r16 := ⟨_, rfl⟩
            show KK X B L 9 0 0 M14 71 [(0, .ref (B.1 + u)), (1, .int p0), (2, .long p1), (5, .int v5_4)] [.int t15]
            refine k_istore G (dc d_Mo_runs 37 rfl) (ls' := [(4, .int t15), (0, .ref (B.1 + u)), (1, .int p0), (2, .long p1), (5, .int v5_4)]) rfl rfl ?_
            refine k_iinc G (dc d_Mo_runs 38 rfl) (ls' := [(5, .int (v5_4 + 1)), (4, .int t15), (0, .ref (B.1 + u)), (1, .int p0), (2, .long p1)]) 4 rfl cI_1 rfl rfl ?_
            refine k_goto G (dc d_Mo_runs 39 rfl) (tgt := 10) rfl ?_
            refine k_sub [2, 3, 4, 1, 0] rfl ?_
            have h9 := kOk_s h
            exact h9
          · refine k_if_eq G (dc d_Mo_runs 33 rfl) (tgt := 69) rfl (fun c17 => ?_) (fun c17 => ?_)
            · replace h := kOk_p c17 h
              refine k_iload G (dc d_Mo_runs 36 rfl) 3 rfl ?_
              refine k_sub [0, 1, 2, 3] rfl ?_
              have h9 := kOk_s h
              exact h9
            · replace h := kOk_n c17 h
              refine k_iconst G (dc d_Mo_runs 34 rfl) cI_m1 ?_
              refine k_goto G (dc d_Mo_runs 35 rfl) (tgt := 71) rfl ?_
              refine k_sub [0, 1, 2, 3] rfl ?_
              have h9 := kOk_s h
              exact h9
        · refine k_sub [2, 3, 4, 6, 1, 0] rfl ?_
          refine kLp_ok (P := fun s19 => KK X B L 9 0 0 M5 31 [(0, .ref (B.1 + u)), (1, .int p0), (2, .long p1), (5, .int v5_4), (6, .long s19.1), (8, .int s19.2)] []) (fun s19 h => ?_) kFU _ h
          obtain ⟨v6_8, v8_9⟩ := s19
          unfold m_Mo_runs_l31 at h
          show KK X B L 9 0 0 M5 31 [(0, .ref (B.1 + u)), (1, .int p0), (2, .long p1), (5, .int v5_4), (6, .long v6_8), (8, .int v8_9)] []
          refine k_iload G (dc d_Mo_runs 18 rfl) 5 rfl ?_
          refine k_iload_n G (dc d_Mo_runs 19 rfl) 1 rfl rfl ?_
          refine k_icmp_ge G (dc d_Mo_runs 20 rfl) (tgt := 51) rfl (fun c10 => ?_) (fun c10 => ?_)
          · replace h := kOk_p c10 h
            refine k_sub [0, 1, 2, 3, 4] rfl ?_
            have h9 := kOk_s h
            exact h9
          · replace h := kOk_n c10 h
            refine k_lload G (dc d_Mo_runs 21 rfl) 4 rfl ?_
            refine k_ldc2 G (dc d_Mo_runs 22 rfl) ld_RX11_237 ?_
            refine k_ldiv G (dc d_Mo_runs 23 rfl) czL_10000 ?_
            refine k_lstore G (dc d_Mo_runs 24 rfl) (ls' := [(6, .long (v6_8 / 10000)), (0, .ref (B.1 + u)), (1, .int p0), (2, .long p1), (5, .int v5_4), (8, .int v8_9)]) rfl rfl ?_
            refine k_iinc G (dc d_Mo_runs 25 rfl) (ls' := [(8, .int (v8_9 + 1)), (6, .long (v6_8 / 10000)), (0, .ref (B.1 + u)), (1, .int p0), (2, .long p1), (5, .int v5_4)]) 5 rfl cI_1 rfl rfl ?_
            refine k_goto G (dc d_Mo_runs 26 rfl) (tgt := 31) rfl ?_
            refine k_sub [2, 3, 4, 5, 1, 0] rfl ?_
            have h9 := kOk_s h
            exact h9
theorem c_Mo_runs {l : Launch} {B : KB} {L : KLay} {M : KMem} {u : Nat} {p0 : Int32} {p1 : Int64} (hst : l.stackTraces = false) (hu : okL L u moT) {r : Int32} {M' : KMem} (e : m_Mo_runs u p0 p1 M = some (r, M')) : CtrN l B yX11_runs cX11_runs 9 (some .int) rm_Mo_runs [.ref (B.1 + u), .int p0, .long p1] L M (some (.int r)) L M' :=
  mk_I rfl hst rfl (fun X hl G _ R => b_Mo_runs G hu ⟨_, e, R⟩)
def I_Mo_runScript : List (Nat × Instr × Nat) := [(0, .iload_n 1, 1), (1, .iconst 1, 1), (2, .if_icmp .ne 9, 3), (5, .ldc2_w 237, 3), (8, .goto 28, 3), (11, .iload_n 1, 1), (12, .iconst 2, 1), (13, .if_icmp .ne 9, 3), (16, .ldc2_w 245, 3), (19, .goto 17, 3), (22, .iload_n 1, 1), (23, .iconst 3, 1), (24, .if_icmp .ne 9, 3), (27, .ldc2_w 247, 3), (30, .goto 6, 3), (33, .ldc2_w 249, 3), (36, .lstore 4, 2), (38, .aload_n 0, 1), (39, .iload_n 1, 1), (40, .iconst 1, 1), (41, .iconst 4, 1), (42, .invokestatic 41, 3), (45, .ifCond .eq 20, 3), (48, .lload_n 2, 1), (49, .lconst 0, 1), (50, .lcmp, 1), (51, .ifCond .lt 14, 3), (54, .lload_n 2, 1), (55, .lload 4, 2), (57, .lcmp, 1), (58, .ifCond .ge 7, 3), (61, .iconst 0, 1), (62, .goto 4, 3), (65, .iconst 1, 1), (66, .invokevirtual 164, 3), (69, .ifCond .eq 12, 3), (72, .aload_n 0, 1), (73, .iload_n 1, 1), (74, .lload_n 2, 1), (75, .invokevirtual 251, 3), (78, .goto 4, 3), (81, .iconst 0, 1), (82, .ireturn, 1)]
set_option maxRecDepth 100000 in
theorem d_Mo_runScript : decA cX11_runScript I_Mo_runScript = true := by decide +kernel
abbrev rm_Mo_runScript : Room := ({ frames := 11, cells := 0, slots := 0, locals := 258 } : Room)
def m_Mo_runScript (u : Nat) (p0 : Int32) (p1 : Int64) (M : KMem) : Option (Int32 × KMem) :=
 Option.bind (α := Int64) (if p0 = 1 then
 (some 10000)
 else
 (if p0 = 2 then
 (some 100000000)
 else
 (if p0 = 3 then
 (some 1000000000000)
 else
 (some 10000000000000000)))) fun t1 =>
 Option.bind (m_Mo_in p0 1 4) fun x4 =>
 Option.bind (α := Int32) (if x4 = 0 then
 (some 1)
 else
 (if (lg_cmp p1 0) < 0 then
 (some 1)
 else
 (if 0 ≤ (lg_cmp p1 t1) then
 (some 1)
 else
 (some 0)))) fun t5 =>
 Option.bind (m_Mo_holds u t5 M) fun (x8, M9) =>
 Option.bind (α := Int32 × KMem) (if x8 = 0 then
 (some (0, M9))
 else
 (Option.bind (m_Mo_runs u p0 p1 M9) fun (x15, M16) =>
 some (x15, M16))) fun (t10, M11) =>
 some (t10, M11)
set_option maxHeartbeats 4000000 in
set_option maxRecDepth 100000 in
theorem b_Mo_runScript {X : KX} {B : KB} {L : KLay} {M : KMem} {u : Nat} {p0 : Int32} {p1 : Int64} (G : Good X B RX11 cX11_runScript 6 rm_Mo_runScript) (hu : okL L u moT) (h : kOk (m_Mo_runScript u p0 p1 M) (fun r => RI X B L 6 cX11_runScript .int rm_Mo_runScript r.1 r.2)) : KK X B L 6 0 0 M 0 [(0, .ref (B.1 + u)), (1, .int p0), (2, .long p1)] [] := by
  unfold m_Mo_runScript at h
  refine k_iload_n G (dc d_Mo_runScript 0 rfl) 1 rfl rfl ?_
  refine k_iconst G (dc d_Mo_runScript 1 rfl) cI_1 ?_
  refine kJ h (fun r2 => KK X B L 6 0 0 M 36 [(0, .ref (B.1 + u)), (1, .int p0), (2, .long p1)] [.long r2]) (fun r2 h => ?_) (fun h => ?_)
  · obtain ⟨t1, rfl⟩ : ∃ z, z = r2 := ⟨_, rfl⟩
    show KK X B L 6 0 0 M 36 [(0, .ref (B.1 + u)), (1, .int p0), (2, .long p1)] [.long t1]
    refine k_lstore G (dc d_Mo_runScript 16 rfl) (ls' := [(4, .long t1), (0, .ref (B.1 + u)), (1, .int p0), (2, .long p1)]) rfl rfl ?_
    refine k_aload_n G (dc d_Mo_runScript 17 rfl) 1 rfl rfl ?_
    refine k_iload_n G (dc d_Mo_runScript 18 rfl) 2 rfl rfl ?_
    refine k_iconst G (dc d_Mo_runScript 19 rfl) cI_1 ?_
    refine k_iconst G (dc d_Mo_runScript 20 rfl) cI_4 ?_
    obtain ⟨x4, e3, h⟩ := kOk_b h
    refine k_cSI G (dc d_Mo_runScript 21 rfl) mi_Mo_in ms_Mo_in ml_RX11_41 (c_Mo_in (gst G)  e3) rfl rfl ⟨rfl, rfl⟩ rfl ⟨rfl, rfl⟩ ⟨rfl, rfl⟩ ?_
    refine kJ h (fun r6 => KK X B L 6 0 0 M 66 [(0, .ref (B.1 + u)), (1, .int p0), (2, .long p1)] [.int r6, .ref (B.1 + u)]) (fun r6 h => ?_) (fun h => ?_)
    · obtain ⟨t5, rfl⟩ : ∃ z, z = r6 := ⟨_, rfl⟩
      show KK X B L 6 0 0 M 66 [(0, .ref (B.1 + u)), (1, .int p0), (2, .long p1)] [.int t5, .ref (B.1 + u)]
      obtain ⟨⟨x8, M9⟩, e7, h⟩ := kOk_b h
      refine k_cVI G (dc d_Mo_runScript 34 rfl) kc8 (okL_lt hu (o := 0) 0 rfl) (okL_k hu (o := 0) 0 rfl) mi_Mo_holds mv_Mo_holds rfl ml_RX11_164 (c_Mo_holds (gst G) hu e7) rfl rfl ⟨rfl, rfl⟩ rfl ⟨rfl, rfl⟩ ⟨rfl, rfl⟩ ?_
      refine kJ h (fun r12 => KK X B L 6 0 0 r12.2 82 [] [.int r12.1]) (fun r12 h => ?_) (fun h => ?_)
      · obtain ⟨t10, M11⟩ := r12
        show KK X B L 6 0 0 M11 82 [] [.int t10]
        exact (kOk_s h) _ _ _ _ rfl rfl rfl (dc d_Mo_runScript 42 rfl)
      · refine k_if_eq G (dc d_Mo_runScript 35 rfl) (tgt := 81) rfl (fun c13 => ?_) (fun c13 => ?_)
        · replace h := kOk_p c13 h
          refine k_iconst G (dc d_Mo_runScript 41 rfl) cI_0 ?_
          refine k_sub [] rfl ?_
          have h9 := kOk_s h
          exact h9
        · replace h := kOk_n c13 h
          refine k_aload_n G (dc d_Mo_runScript 36 rfl) 0 rfl rfl ?_
          refine k_iload_n G (dc d_Mo_runScript 37 rfl) 1 rfl rfl ?_
          refine k_lload_n G (dc d_Mo_runScript 38 rfl) 2 rfl rfl ?_
          obtain ⟨⟨x15, M16⟩, e14, h⟩ := kOk_b h
          refine k_cVI G (dc d_Mo_runScript 39 rfl) kc8 (okL_lt hu (o := 0) 0 rfl) (okL_k hu (o := 0) 0 rfl) mi_Mo_runs mv_Mo_runs rfl ml_RX11_251 (c_Mo_runs (gst G) hu e14) rfl rfl ⟨rfl, rfl⟩ rfl ⟨rfl, rfl⟩ ⟨rfl, rfl⟩ ?_
          refine k_goto G (dc d_Mo_runScript 40 rfl) (tgt := 82) rfl ?_
          refine k_sub [] rfl ?_
          have h9 := kOk_s h
          exact h9
    · refine k_if_eq G (dc d_Mo_runScript 22 rfl) (tgt := 65) rfl (fun c17 => ?_) (fun c17 => ?_)
      · replace h := kOk_p c17 h
        refine k_iconst G (dc d_Mo_runScript 33 rfl) cI_1 ?_
        refine k_sub [1, 2, 3] rfl ?_
        have h9 := kOk_s h
        exact h9
      · replace h := kOk_n c17 h
        refine k_lload_n G (dc d_Mo_runScript 23 rfl) 3 rfl rfl ?_
        refine k_lconst G (dc d_Mo_runScript 24 rfl) (v := 0) rfl ?_
        refine k_lcmp G (dc d_Mo_runScript 25 rfl) ?_
        refine k_if_lt G (dc d_Mo_runScript 26 rfl) (tgt := 65) rfl (fun c18 => ?_) (fun c18 => ?_)
        · replace h := kOk_p c18 h
          refine k_iconst G (dc d_Mo_runScript 33 rfl) cI_1 ?_
          refine k_sub [1, 2, 3] rfl ?_
          have h9 := kOk_s h
          exact h9
        · replace h := kOk_n c18 h
          refine k_lload_n G (dc d_Mo_runScript 27 rfl) 3 rfl rfl ?_
          refine k_lload G (dc d_Mo_runScript 28 rfl) 0 rfl ?_
          refine k_lcmp G (dc d_Mo_runScript 29 rfl) ?_
          refine k_if_ge G (dc d_Mo_runScript 30 rfl) (tgt := 65) rfl (fun c19 => ?_) (fun c19 => ?_)
          · replace h := kOk_p c19 h
            refine k_iconst G (dc d_Mo_runScript 33 rfl) cI_1 ?_
            refine k_sub [1, 2, 3] rfl ?_
            have h9 := kOk_s h
            exact h9
          · replace h := kOk_n c19 h
            refine k_iconst G (dc d_Mo_runScript 31 rfl) cI_0 ?_
            refine k_goto G (dc d_Mo_runScript 32 rfl) (tgt := 66) rfl ?_
            refine k_sub [1, 2, 3] rfl ?_
            have h9 := kOk_s h
            exact h9
  · refine k_icmp_ne G (dc d_Mo_runScript 2 rfl) (tgt := 11) rfl (fun c20 => ?_) (fun c20 => ?_)
    · replace h := kOk_n c20 h
      refine k_iload_n G (dc d_Mo_runScript 5 rfl) 1 rfl rfl ?_
      refine k_iconst G (dc d_Mo_runScript 6 rfl) cI_2 ?_
      refine k_icmp_ne G (dc d_Mo_runScript 7 rfl) (tgt := 22) rfl (fun c21 => ?_) (fun c21 => ?_)
      · replace h := kOk_n c21 h
        refine k_iload_n G (dc d_Mo_runScript 10 rfl) 1 rfl rfl ?_
        refine k_iconst G (dc d_Mo_runScript 11 rfl) cI_3 ?_
        refine k_icmp_ne G (dc d_Mo_runScript 12 rfl) (tgt := 33) rfl (fun c22 => ?_) (fun c22 => ?_)
        · replace h := kOk_n c22 h
          refine k_ldc2 G (dc d_Mo_runScript 15 rfl) ld_RX11_249 ?_
          have h9 := kOk_s h
          exact h9
        · replace h := kOk_p c22 h
          refine k_ldc2 G (dc d_Mo_runScript 13 rfl) ld_RX11_247 ?_
          refine k_goto G (dc d_Mo_runScript 14 rfl) (tgt := 36) rfl ?_
          have h9 := kOk_s h
          exact h9
      · replace h := kOk_p c21 h
        refine k_ldc2 G (dc d_Mo_runScript 8 rfl) ld_RX11_245 ?_
        refine k_goto G (dc d_Mo_runScript 9 rfl) (tgt := 36) rfl ?_
        have h9 := kOk_s h
        exact h9
    · replace h := kOk_p c20 h
      refine k_ldc2 G (dc d_Mo_runScript 3 rfl) ld_RX11_237 ?_
      refine k_goto G (dc d_Mo_runScript 4 rfl) (tgt := 36) rfl ?_
      have h9 := kOk_s h
      exact h9
theorem c_Mo_runScript {l : Launch} {B : KB} {L : KLay} {M : KMem} {u : Nat} {p0 : Int32} {p1 : Int64} (hst : l.stackTraces = false) (hu : okL L u moT) {r : Int32} {M' : KMem} (e : m_Mo_runScript u p0 p1 M = some (r, M')) : CtrN l B yX11_runScript cX11_runScript 6 (some .int) rm_Mo_runScript [.ref (B.1 + u), .int p0, .long p1] L M (some (.int r)) L M' :=
  mk_I rfl hst rfl (fun X hl G _ R => b_Mo_runScript G hu ⟨_, e, R⟩)
def I_Mo_wordBy : List (Nat × Instr × Nat) := [(0, .iconst 1, 1), (1, .iload_n 0, 1), (2, .iconst 4, 1), (3, .idiv, 1), (4, .bipush 8, 2), (6, .irem, 1), (7, .iadd, 1), (8, .istore_n 1, 1), (9, .iconst 1, 1), (10, .iload_n 0, 1), (11, .bipush 32, 2), (13, .idiv, 1), (14, .bipush 6, 2), (16, .irem, 1), (17, .iadd, 1), (18, .istore_n 2, 1), (19, .iload_n 2, 1), (20, .istore_n 3, 1), (21, .iconst 1, 1), (22, .istore 4, 2), (24, .iload 4, 2), (26, .iload_n 1, 1), (27, .if_icmp .ge 27, 3), (30, .iconst 1, 1), (31, .iload_n 2, 1), (32, .iload_n 0, 1), (33, .iconst 5, 1), (34, .irem, 1), (35, .iadd, 1), (36, .bipush 6, 2), (38, .irem, 1), (39, .iadd, 1), (40, .istore_n 2, 1), (41, .bipush 10, 2), (43, .iload_n 3, 1), (44, .imul, 1), (45, .iload_n 2, 1), (46, .iadd, 1), (47, .istore_n 3, 1), (48, .iinc 4 1, 3), (51, .goto (-27), 3), (54, .iload_n 3, 1), (55, .ireturn, 1)]
set_option maxRecDepth 100000 in
theorem d_Mo_wordBy : decA cX11_wordBy I_Mo_wordBy = true := by decide +kernel
abbrev rm_Mo_wordBy : Room := ({ frames := 0, cells := 0, slots := 0, locals := 0 } : Room)
def m_Mo_wordBy_l24 (p0 : Int32) : (Int32 × Int32 × Int32) → Option ((Int32 × Int32 × Int32) ⊕ Int32) := fun (v2_1, v3_2, v4_3) =>
 if (1 + (jrem (p0 / 4) 8)) ≤ v4_3 then
 (some (.inr v3_2))
 else
 (some (.inl (1 + (jrem (v2_1 + (jrem p0 5)) 6), (10 * v3_2) + (1 + (jrem (v2_1 + (jrem p0 5)) 6)), v4_3 + 1)))
def m_Mo_wordBy (p0 : Int32) : Option Int32 :=
 Option.bind (α := Int32) (kLp (m_Mo_wordBy_l24 p0) kFU (1 + (jrem (p0 / 32) 6), 1 + (jrem (p0 / 32) 6), 1)) fun v3_5 =>
 some v3_5
set_option maxHeartbeats 4000000 in
set_option maxRecDepth 100000 in
theorem b_Mo_wordBy {X : KX} {B : KB} {L : KLay} {M : KMem} {p0 : Int32} (G : Good X B RX11 cX11_wordBy 5 rm_Mo_wordBy)  (h : kOk (m_Mo_wordBy p0) (fun r => RI X B L 5 cX11_wordBy .int rm_Mo_wordBy r M)) : KK X B L 5 0 0 M 0 [(0, .int p0)] [] := by
  unfold m_Mo_wordBy at h
  refine k_iconst G (dc d_Mo_wordBy 0 rfl) cI_1 ?_
  refine k_iload_n G (dc d_Mo_wordBy 1 rfl) 0 rfl rfl ?_
  refine k_iconst G (dc d_Mo_wordBy 2 rfl) cI_4 ?_
  refine k_idiv G (dc d_Mo_wordBy 3 rfl) czI_4 ?_
  refine k_bipush G (dc d_Mo_wordBy 4 rfl) cB_8 ?_
  refine k_irem G (dc d_Mo_wordBy 5 rfl) czI_8 ?_
  refine k_iadd G (dc d_Mo_wordBy 6 rfl) ?_
  refine k_istore_n G (dc d_Mo_wordBy 7 rfl) (ls' := [(1, .int (1 + (jrem (p0 / 4) 8))), (0, .int p0)]) rfl rfl rfl ?_
  refine k_iconst G (dc d_Mo_wordBy 8 rfl) cI_1 ?_
  refine k_iload_n G (dc d_Mo_wordBy 9 rfl) 1 rfl rfl ?_
  refine k_bipush G (dc d_Mo_wordBy 10 rfl) cB_32 ?_
  refine k_idiv G (dc d_Mo_wordBy 11 rfl) czI_32 ?_
  refine k_bipush G (dc d_Mo_wordBy 12 rfl) cB_6 ?_
  refine k_irem G (dc d_Mo_wordBy 13 rfl) czI_6 ?_
  refine k_iadd G (dc d_Mo_wordBy 14 rfl) ?_
  refine k_istore_n G (dc d_Mo_wordBy 15 rfl) (ls' := [(2, .int (1 + (jrem (p0 / 32) 6))), (1, .int (1 + (jrem (p0 / 4) 8))), (0, .int p0)]) rfl rfl rfl ?_
  refine k_iload_n G (dc d_Mo_wordBy 16 rfl) 0 rfl rfl ?_
  refine k_istore_n G (dc d_Mo_wordBy 17 rfl) (ls' := [(3, .int (1 + (jrem (p0 / 32) 6))), (2, .int (1 + (jrem (p0 / 32) 6))), (1, .int (1 + (jrem (p0 / 4) 8))), (0, .int p0)]) rfl rfl rfl ?_
  refine k_iconst G (dc d_Mo_wordBy 18 rfl) cI_1 ?_
  refine k_istore G (dc d_Mo_wordBy 19 rfl) (ls' := [(4, .int 1), (3, .int (1 + (jrem (p0 / 32) 6))), (2, .int (1 + (jrem (p0 / 32) 6))), (1, .int (1 + (jrem (p0 / 4) 8))), (0, .int p0)]) rfl rfl ?_
  refine kJ h (fun r6 => KK X B L 5 0 0 M 54 [(3, .int r6)] []) (fun r6 h => ?_) (fun h => ?_)
  · obtain ⟨v3_5, rfl⟩ : ∃ z, z = r6 := ⟨_, rfl⟩
    show KK X B L 5 0 0 M 54 [(3, .int v3_5)] []
    refine k_iload_n G (dc d_Mo_wordBy 41 rfl) 0 rfl rfl ?_
    exact (kOk_s h) _ _ _ _ rfl rfl rfl (dc d_Mo_wordBy 42 rfl)
  · refine k_sub [4, 3, 2, 1, 0] rfl ?_
    refine kLp_ok (P := fun s7 => KK X B L 5 0 0 M 24 [(0, .int p0), (1, .int (1 + (jrem (p0 / 4) 8))), (2, .int s7.1), (3, .int s7.2.1), (4, .int s7.2.2)] []) (fun s7 h => ?_) kFU _ h
    obtain ⟨v2_1, v3_2, v4_3⟩ := s7
    unfold m_Mo_wordBy_l24 at h
    show KK X B L 5 0 0 M 24 [(0, .int p0), (1, .int (1 + (jrem (p0 / 4) 8))), (2, .int v2_1), (3, .int v3_2), (4, .int v4_3)] []
    refine k_iload G (dc d_Mo_wordBy 20 rfl) 4 rfl ?_
    refine k_iload_n G (dc d_Mo_wordBy 21 rfl) 1 rfl rfl ?_
    refine k_icmp_ge G (dc d_Mo_wordBy 22 rfl) (tgt := 54) rfl (fun c4 => ?_) (fun c4 => ?_)
    · replace h := kOk_p c4 h
      refine k_sub [3] rfl ?_
      have h9 := kOk_s h
      exact h9
    · replace h := kOk_n c4 h
      refine k_iconst G (dc d_Mo_wordBy 23 rfl) cI_1 ?_
      refine k_iload_n G (dc d_Mo_wordBy 24 rfl) 2 rfl rfl ?_
      refine k_iload_n G (dc d_Mo_wordBy 25 rfl) 0 rfl rfl ?_
      refine k_iconst G (dc d_Mo_wordBy 26 rfl) cI_5 ?_
      refine k_irem G (dc d_Mo_wordBy 27 rfl) czI_5 ?_
      refine k_iadd G (dc d_Mo_wordBy 28 rfl) ?_
      refine k_bipush G (dc d_Mo_wordBy 29 rfl) cB_6 ?_
      refine k_irem G (dc d_Mo_wordBy 30 rfl) czI_6 ?_
      refine k_iadd G (dc d_Mo_wordBy 31 rfl) ?_
      refine k_istore_n G (dc d_Mo_wordBy 32 rfl) (ls' := [(2, .int (1 + (jrem (v2_1 + (jrem p0 5)) 6))), (0, .int p0), (1, .int (1 + (jrem (p0 / 4) 8))), (3, .int v3_2), (4, .int v4_3)]) rfl rfl rfl ?_
      refine k_bipush G (dc d_Mo_wordBy 33 rfl) cB_10 ?_
      refine k_iload_n G (dc d_Mo_wordBy 34 rfl) 3 rfl rfl ?_
      refine k_imul G (dc d_Mo_wordBy 35 rfl) ?_
      refine k_iload_n G (dc d_Mo_wordBy 36 rfl) 0 rfl rfl ?_
      refine k_iadd G (dc d_Mo_wordBy 37 rfl) ?_
      refine k_istore_n G (dc d_Mo_wordBy 38 rfl) (ls' := [(3, .int ((10 * v3_2) + (1 + (jrem (v2_1 + (jrem p0 5)) 6)))), (2, .int (1 + (jrem (v2_1 + (jrem p0 5)) 6))), (0, .int p0), (1, .int (1 + (jrem (p0 / 4) 8))), (4, .int v4_3)]) rfl rfl rfl ?_
      refine k_iinc G (dc d_Mo_wordBy 39 rfl) (ls' := [(4, .int (v4_3 + 1)), (3, .int ((10 * v3_2) + (1 + (jrem (v2_1 + (jrem p0 5)) 6)))), (2, .int (1 + (jrem (v2_1 + (jrem p0 5)) 6))), (0, .int p0), (1, .int (1 + (jrem (p0 / 4) 8)))]) 4 rfl cI_1 rfl rfl ?_
      refine k_goto G (dc d_Mo_wordBy 40 rfl) (tgt := 24) rfl ?_
      refine k_sub [3, 4, 2, 1, 0] rfl ?_
      have h9 := kOk_s h
      exact h9
theorem c_Mo_wordBy {l : Launch} {B : KB} {L : KLay} {M : KMem} {p0 : Int32} (hst : l.stackTraces = false)  {r : Int32} (e : m_Mo_wordBy p0 = some r) : CtrN l B yX11_wordBy cX11_wordBy 5 (some .int) rm_Mo_wordBy [.int p0] L M (some (.int r)) L M :=
  mk_I rfl hst rfl (fun X hl G _ R => b_Mo_wordBy G  ⟨_, e, R⟩)
