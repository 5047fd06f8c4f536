/-! laid by wip/whole/lay.py: Mo_begins, Mo_thrown, Mo_in, Mo_holds, Mo_of, Mo_ofDecree, Mo_isSign, Mo_isDecree, Mo_isLetter, Mo_isWord, Mo_remember, Mo_putAside, Mo_putBack, Mo_lettersOf, Mo_letterAt, Mo_made, Mo_spelled, Mo_rightOf -/
def I_Mo_begins : List (Nat × Instr × Nat) := [(0, .iconst 0, 1), (1, .istore_n 1, 1), (2, .iload_n 1, 1), (3, .bipush 108, 2), (5, .if_icmp .ge 16, 3), (8, .aload_n 0, 1), (9, .getfield 7, 3), (12, .iload_n 1, 1), (13, .iconst 0, 1), (14, .iastore, 1), (15, .iinc 1 1, 3), (18, .goto (-16), 3), (21, .aload_n 0, 1), (22, .getfield 7, 3), (25, .bipush 94, 2), (27, .iconst (-1), 1), (28, .iastore, 1), (29, .aload_n 0, 1), (30, .getfield 7, 3), (33, .bipush 106, 2), (35, .iconst 4, 1), (36, .iastore, 1), (37, .aload_n 0, 1), (38, .getfield 7, 3), (41, .bipush 107, 2), (43, .iconst 3, 1), (44, .iastore, 1), (45, .return_, 1)]
set_option maxRecDepth 100000 in
theorem d_Mo_begins : decA cX11_begins I_Mo_begins = true := by decide +kernel
abbrev rm_Mo_begins : Room := ({ frames := 0, cells := 0, slots := 0, locals := 0 } : Room)
def m_Mo_begins_l2 (u : Nat) : (Int32 × KMem) → Option ((Int32 × KMem) ⊕ KMem) := fun (v1_1, M2) =>
 if 108 ≤ v1_1 then
 (some (.inr M2))
 else
 (Option.bind (wrI M2 (u + 1) 108 v1_1 0) fun M5 =>
 some (.inl (v1_1 + 1, M5)))
def m_Mo_begins (u : Nat) (M : KMem) : Option KMem :=
 Option.bind (α := KMem) (kLp (m_Mo_begins_l2 u) kFU (0, M)) fun M6 =>
 Option.bind (wrI M6 (u + 1) 108 94 (-1)) fun M8 =>
 Option.bind (wrI M8 (u + 1) 108 106 4) fun M10 =>
 Option.bind (wrI M10 (u + 1) 108 107 3) fun M12 =>
 some M12
set_option maxHeartbeats 4000000 in
set_option maxRecDepth 100000 in
theorem b_Mo_begins {X : KX} {B : KB} {L : KLay} {M : KMem} {u : Nat} (G : Good X B RX11 cX11_begins 2 rm_Mo_begins) (hu : okL L u moT) (h : kOk (m_Mo_begins u M) (fun r => RV X B L 2 cX11_begins rm_Mo_begins r)) : KK X B L 2 0 0 M 0 [(0, .ref (B.1 + u))] [] := by
  unfold m_Mo_begins at h
  refine k_iconst G (dc d_Mo_begins 0 rfl) cI_0 ?_
  refine k_istore_n G (dc d_Mo_begins 1 rfl) (ls' := [(1, .int 0), (0, .ref (B.1 + u))]) rfl rfl rfl ?_
  refine kJ h (fun r13 => KK X B L 2 0 0 r13 21 [(0, .ref (B.1 + u))] []) (fun r13 h => ?_) (fun h => ?_)
  · obtain ⟨M6, rfl⟩ : ∃ z, z = r13 := ⟨_, rfl⟩
    show KK X B L 2 0 0 M6 21 [(0, .ref (B.1 + u))] []
    refine k_aload_n G (dc d_Mo_begins 12 rfl) 0 rfl rfl ?_
    refine k_getR G kc8 (dc d_Mo_begins 13 rfl) (okL_lt hu (o := 0) 0 rfl) (okL_k hu (o := 0) 0 rfl) 1 (by decide) rfl fl_RX11_7 (u + 1) (okL_r hu (o := 0) (c := 1) 0 rfl 0 rfl) ?_
    refine k_bipush G (dc d_Mo_begins 14 rfl) cB_94 ?_
    refine k_iconst G (dc d_Mo_begins 15 rfl) cI_m1 ?_
    obtain ⟨M8, e7, h⟩ := kOk_b h
    refine k_ist G (dc d_Mo_begins 16 rfl) (okL_lt hu (o := 1) 1 rfl) (okL_k hu (o := 1) 1 rfl) (okL_n hu (o := 1) 1 rfl) e7 ?_
    refine k_aload_n G (dc d_Mo_begins 17 rfl) 0 rfl rfl ?_
    refine k_getR G kc8 (dc d_Mo_begins 18 rfl) (okL_lt hu (o := 0) 0 rfl) (okL_k hu (o := 0) 0 rfl) 1 (by decide) rfl fl_RX11_7 (u + 1) (okL_r hu (o := 0) (c := 1) 0 rfl 0 rfl) ?_
    refine k_bipush G (dc d_Mo_begins 19 rfl) cB_106 ?_
    refine k_iconst G (dc d_Mo_begins 20 rfl) cI_4 ?_
    obtain ⟨M10, e9, h⟩ := kOk_b h
    refine k_ist G (dc d_Mo_begins 21 rfl) (okL_lt hu (o := 1) 1 rfl) (okL_k hu (o := 1) 1 rfl) (okL_n hu (o := 1) 1 rfl) e9 ?_
    refine k_aload_n G (dc d_Mo_begins 22 rfl) 0 rfl rfl ?_
    refine k_getR G kc8 (dc d_Mo_begins 23 rfl) (okL_lt hu (o := 0) 0 rfl) (okL_k hu (o := 0) 0 rfl) 1 (by decide) rfl fl_RX11_7 (u + 1) (okL_r hu (o := 0) (c := 1) 0 rfl 0 rfl) ?_
    refine k_bipush G (dc d_Mo_begins 24 rfl) cB_107 ?_
    refine k_iconst G (dc d_Mo_begins 25 rfl) cI_3 ?_
    obtain ⟨M12, e11, h⟩ := kOk_b h
    refine k_ist G (dc d_Mo_begins 26 rfl) (okL_lt hu (o := 1) 1 rfl) (okL_k hu (o := 1) 1 rfl) (okL_n hu (o := 1) 1 rfl) e11 ?_
    exact (kOk_s h) _ _ _ _ rfl rfl (dc d_Mo_begins 27 rfl)
  · refine k_sub [1, 0] rfl ?_
    refine kLp_ok (P := fun s14 => KK X B L 2 0 0 s14.2 2 [(0, .ref (B.1 + u)), (1, .int s14.1)] []) (fun s14 h => ?_) kFU _ h
    obtain ⟨v1_1, M2⟩ := s14
    unfold m_Mo_begins_l2 at h
    show KK X B L 2 0 0 M2 2 [(0, .ref (B.1 + u)), (1, .int v1_1)] []
    refine k_iload_n G (dc d_Mo_begins 2 rfl) 1 rfl rfl ?_
    refine k_bipush G (dc d_Mo_begins 3 rfl) cB_108 ?_
    refine k_icmp_ge G (dc d_Mo_begins 4 rfl) (tgt := 21) rfl (fun c3 => ?_) (fun c3 => ?_)
    · replace h := kOk_p c3 h
      refine k_sub [0] rfl ?_
      have h9 := kOk_s h
      exact h9
    · replace h := kOk_n c3 h
      refine k_aload_n G (dc d_Mo_begins 5 rfl) 0 rfl rfl ?_
      refine k_getR G kc8 (dc d_Mo_begins 6 rfl) (okL_lt hu (o := 0) 0 rfl) (okL_k hu (o := 0) 0 rfl) 1 (by decide) rfl fl_RX11_7 (u + 1) (okL_r hu (o := 0) (c := 1) 0 rfl 0 rfl) ?_
      refine k_iload_n G (dc d_Mo_begins 7 rfl) 1 rfl rfl ?_
      refine k_iconst G (dc d_Mo_begins 8 rfl) cI_0 ?_
      obtain ⟨M5, e4, h⟩ := kOk_b h
      refine k_ist G (dc d_Mo_begins 9 rfl) (okL_lt hu (o := 1) 1 rfl) (okL_k hu (o := 1) 1 rfl) (okL_n hu (o := 1) 1 rfl) e4 ?_
      refine k_iinc G (dc d_Mo_begins 10 rfl) (ls' := [(1, .int (v1_1 + 1)), (0, .ref (B.1 + u))]) 1 rfl cI_1 rfl rfl ?_
      refine k_goto G (dc d_Mo_begins 11 rfl) (tgt := 2) rfl ?_
      refine k_sub [1, 0] rfl ?_
      have h9 := kOk_s h
      exact h9
theorem c_Mo_begins {l : Launch} {B : KB} {L : KLay} {M : KMem} {u : Nat} (hst : l.stackTraces = false) (hu : okL L u moT) {M' : KMem} (e : m_Mo_begins u M = some M') : CtrN l B yX11_begins cX11_begins 2 none rm_Mo_begins [.ref (B.1 + u)] L M none L M' :=
  mk_V rfl hst rfl (fun X hl G _ R => b_Mo_begins G hu ⟨_, e, R⟩)
def I_Mo_thrown : List (Nat × Instr × Nat) := [(0, .aload_n 0, 1), (1, .getfield 37, 3), (4, .ireturn, 1)]
set_option maxRecDepth 100000 in
theorem d_Mo_thrown : decA cX11_thrown I_Mo_thrown = true := by decide +kernel
abbrev rm_Mo_thrown : Room := ({ frames := 0, cells := 0, slots := 0, locals := 0 } : Room)
def m_Mo_thrown (u : Nat) (M : KMem) : Option Int32 :=
 some (M u 0)
set_option maxHeartbeats 4000000 in
set_option maxRecDepth 100000 in
theorem b_Mo_thrown {X : KX} {B : KB} {L : KLay} {M : KMem} {u : Nat} (G : Good X B RX11 cX11_thrown 1 rm_Mo_thrown) (hu : okL L u moT) (h : kOk (m_Mo_thrown u M) (fun r => RI X B L 1 cX11_thrown .int rm_Mo_thrown r M)) : KK X B L 1 0 0 M 0 [(0, .ref (B.1 + u))] [] := by
  unfold m_Mo_thrown at h
  refine k_aload_n G (dc d_Mo_thrown 0 rfl) 0 rfl rfl ?_
  refine k_getI G kc8 (dc d_Mo_thrown 1 rfl) (okL_lt hu (o := 0) 0 rfl) (okL_k hu (o := 0) 0 rfl) 0 (by decide) rfl fl_RX11_37 ?_
  exact (kOk_s h) _ _ _ _ rfl rfl rfl (dc d_Mo_thrown 2 rfl)
theorem c_Mo_thrown {l : Launch} {B : KB} {L : KLay} {M : KMem} {u : Nat} (hst : l.stackTraces = false) (hu : okL L u moT) {r : Int32} (e : m_Mo_thrown u M = some r) : CtrN l B yX11_thrown cX11_thrown 1 (some .int) rm_Mo_thrown [.ref (B.1 + u)] L M (some (.int r)) L M :=
  mk_I rfl hst rfl (fun X hl G _ R => b_Mo_thrown G hu ⟨_, e, R⟩)
def I_Mo_in : List (Nat × Instr × Nat) := [(0, .iload_n 0, 1), (1, .iload_n 1, 1), (2, .if_icmp .lt 12, 3), (5, .iload_n 0, 1), (6, .iload_n 2, 1), (7, .if_icmp .gt 7, 3), (10, .iconst 1, 1), (11, .goto 4, 3), (14, .iconst 0, 1), (15, .ireturn, 1)]
set_option maxRecDepth 100000 in
theorem d_Mo_in : decA cX11_in I_Mo_in = true := by decide +kernel
abbrev rm_Mo_in : Room := ({ frames := 0, cells := 0, slots := 0, locals := 0 } : Room)
def m_Mo_in (p0 : Int32) (p1 : Int32) (p2 : Int32) : Option Int32 :=
 Option.bind (α := Int32) (if p0 < p1 then
 (some 0)
 else
 (if p2 < p0 then
 (some 0)
 else
 (some 1))) fun t1 =>
 Option.bind (kz t1) fun z3 =>
 some z3
set_option maxHeartbeats 4000000 in
set_option maxRecDepth 100000 in
theorem b_Mo_in {X : KX} {B : KB} {L : KLay} {M : KMem} {p0 : Int32} {p1 : Int32} {p2 : Int32} (G : Good X B RX11 cX11_in 3 rm_Mo_in)  (h : kOk (m_Mo_in p0 p1 p2) (fun r => RI X B L 3 cX11_in .boolean rm_Mo_in r M)) : KK X B L 3 0 0 M 0 [(0, .int p0), (1, .int p1), (2, .int p2)] [] := by
  unfold m_Mo_in at h
  refine k_iload_n G (dc d_Mo_in 0 rfl) 0 rfl rfl ?_
  refine k_iload_n G (dc d_Mo_in 1 rfl) 1 rfl rfl ?_
  refine kJ h (fun r2 => KK X B L 3 0 0 M 15 [] [.int r2]) (fun r2 h => ?_) (fun h => ?_)
  · obtain ⟨t1, rfl⟩ : ∃ z, z = r2 := ⟨_, rfl⟩
    show KK X B L 3 0 0 M 15 [] [.int t1]
    obtain ⟨z3, e4, h⟩ := kOk_b h
    obtain ⟨e4, nz3, -⟩ := kz_ok e4
    rw [e4]
    exact (kOk_s h) _ _ _ _ rfl rfl nz3 (dc d_Mo_in 9 rfl)
  · refine k_icmp_lt G (dc d_Mo_in 2 rfl) (tgt := 14) rfl (fun c5 => ?_) (fun c5 => ?_)
    · replace h := kOk_p c5 h
      refine k_iconst G (dc d_Mo_in 8 rfl) cI_0 ?_
      refine k_sub [] rfl ?_
      have h9 := kOk_s h
      exact h9
    · replace h := kOk_n c5 h
      refine k_iload_n G (dc d_Mo_in 3 rfl) 0 rfl rfl ?_
      refine k_iload_n G (dc d_Mo_in 4 rfl) 2 rfl rfl ?_
      refine k_icmp_gt G (dc d_Mo_in 5 rfl) (tgt := 14) rfl (fun c6 => ?_) (fun c6 => ?_)
      · replace h := kOk_p c6 h
        refine k_iconst G (dc d_Mo_in 8 rfl) cI_0 ?_
        refine k_sub [] rfl ?_
        have h9 := kOk_s h
        exact h9
      · replace h := kOk_n c6 h
        refine k_iconst G (dc d_Mo_in 6 rfl) cI_1 ?_
        refine k_goto G (dc d_Mo_in 7 rfl) (tgt := 15) rfl ?_
        refine k_sub [] rfl ?_
        have h9 := kOk_s h
        exact h9
theorem c_Mo_in {l : Launch} {B : KB} {L : KLay} {M : KMem} {p0 : Int32} {p1 : Int32} {p2 : Int32} (hst : l.stackTraces = false)  {r : Int32} (e : m_Mo_in p0 p1 p2 = some r) : CtrN l B yX11_in cX11_in 3 (some .boolean) rm_Mo_in [.int p0, .int p1, .int p2] L M (some (.int r)) L M :=
  mk_I rfl hst rfl (fun X hl G _ R => b_Mo_in G  ⟨_, e, R⟩)
def I_Mo_holds : List (Nat × Instr × Nat) := [(0, .aload_n 0, 1), (1, .iload_n 1, 1), (2, .putfield 37, 3), (5, .iload_n 1, 1), (6, .ifCond .ne 7, 3), (9, .iconst 1, 1), (10, .goto 4, 3), (13, .iconst 0, 1), (14, .ireturn, 1)]
set_option maxRecDepth 100000 in
theorem d_Mo_holds : decA cX11_holds I_Mo_holds = true := by decide +kernel
abbrev rm_Mo_holds : Room := ({ frames := 0, cells := 0, slots := 0, locals := 0 } : Room)
def m_Mo_holds (u : Nat) (p0 : Int32) (M : KMem) : Option (Int32 × KMem) :=
 Option.bind (some (kup M u 0 p0)) fun M2 =>
 Option.bind (α := Int32) (if p0 = 0 then
 (some 1)
 else
 (some 0)) fun t3 =>
 Option.bind (kz t3) fun z5 =>
 some (z5, M2)
set_option maxHeartbeats 4000000 in
set_option maxRecDepth 100000 in
theorem b_Mo_holds {X : KX} {B : KB} {L : KLay} {M : KMem} {u : Nat} {p0 : Int32} (G : Good X B RX11 cX11_holds 2 rm_Mo_holds) (hu : okL L u moT) (h : kOk (m_Mo_holds u p0 M) (fun r => RI X B L 2 cX11_holds .boolean rm_Mo_holds r.1 r.2)) : KK X B L 2 0 0 M 0 [(0, .ref (B.1 + u)), (1, .int p0)] [] := by
  unfold m_Mo_holds at h
  refine k_aload_n G (dc d_Mo_holds 0 rfl) 0 rfl rfl ?_
  refine k_iload_n G (dc d_Mo_holds 1 rfl) 1 rfl rfl ?_
  obtain ⟨M2, e1, h⟩ := kOk_b h
  refine k_putI G kc8 (dc d_Mo_holds 2 rfl) (okL_lt hu (o := 0) 0 rfl) (okL_k hu (o := 0) 0 rfl) 0 (by decide) rfl rfl fl_RX11_37 rfl rfl e1 ?_
  refine k_iload_n G (dc d_Mo_holds 3 rfl) 1 rfl rfl ?_
  refine kJ h (fun r4 => KK X B L 2 0 0 M2 14 [] [.int r4]) (fun r4 h => ?_) (fun h => ?_)
  · obtain ⟨t3, rfl⟩ : ∃ z, z = r4 := ⟨_, rfl⟩
    show KK X B L 2 0 0 M2 14 [] [.int t3]
    obtain ⟨z5, e6, h⟩ := kOk_b h
    obtain ⟨e6, nz5, -⟩ := kz_ok e6
    rw [e6]
    exact (kOk_s h) _ _ _ _ rfl rfl nz5 (dc d_Mo_holds 8 rfl)
  · refine k_if_ne G (dc d_Mo_holds 4 rfl) (tgt := 13) rfl (fun c7 => ?_) (fun c7 => ?_)
    · replace h := kOk_n c7 h
      refine k_iconst G (dc d_Mo_holds 7 rfl) cI_0 ?_
      refine k_sub [] rfl ?_
      have h9 := kOk_s h
      exact h9
    · replace h := kOk_p c7 h
      refine k_iconst G (dc d_Mo_holds 5 rfl) cI_1 ?_
      refine k_goto G (dc d_Mo_holds 6 rfl) (tgt := 14) rfl ?_
      refine k_sub [] rfl ?_
      have h9 := kOk_s h
      exact h9
theorem c_Mo_holds {l : Launch} {B : KB} {L : KLay} {M : KMem} {u : Nat} {p0 : Int32} (hst : l.stackTraces = false) (hu : okL L u moT) {r : Int32} {M' : KMem} (e : m_Mo_holds u p0 M = some (r, M')) : CtrN l B yX11_holds cX11_holds 2 (some .boolean) rm_Mo_holds [.ref (B.1 + u), .int p0] L M (some (.int r)) L M' :=
  mk_I rfl hst rfl (fun X hl G _ R => b_Mo_holds G hu ⟨_, e, R⟩)
def I_Mo_of : List (Nat × Instr × Nat) := [(0, .iconst 1, 1), (1, .iconst 5, 1), (2, .iload_n 0, 1), (3, .imul, 1), (4, .iadd, 1), (5, .iload_n 1, 1), (6, .iadd, 1), (7, .ireturn, 1)]
set_option maxRecDepth 100000 in
theorem d_Mo_of : decA cX11_of I_Mo_of = true := by decide +kernel
abbrev rm_Mo_of : Room := ({ frames := 0, cells := 0, slots := 0, locals := 0 } : Room)
def m_Mo_of (p0 : Int32) (p1 : Int32) : Option Int32 :=
 some ((1 + (5 * p0)) + p1)
set_option maxHeartbeats 4000000 in
set_option maxRecDepth 100000 in
theorem b_Mo_of {X : KX} {B : KB} {L : KLay} {M : KMem} {p0 : Int32} {p1 : Int32} (G : Good X B RX11 cX11_of 2 rm_Mo_of)  (h : kOk (m_Mo_of p0 p1) (fun r => RI X B L 2 cX11_of .int rm_Mo_of r M)) : KK X B L 2 0 0 M 0 [(0, .int p0), (1, .int p1)] [] := by
  unfold m_Mo_of at h
  refine k_iconst G (dc d_Mo_of 0 rfl) cI_1 ?_
  refine k_iconst G (dc d_Mo_of 1 rfl) cI_5 ?_
  refine k_iload_n G (dc d_Mo_of 2 rfl) 0 rfl rfl ?_
  refine k_imul G (dc d_Mo_of 3 rfl) ?_
  refine k_iadd G (dc d_Mo_of 4 rfl) ?_
  refine k_iload_n G (dc d_Mo_of 5 rfl) 1 rfl rfl ?_
  refine k_iadd G (dc d_Mo_of 6 rfl) ?_
  exact (kOk_s h) _ _ _ _ rfl rfl rfl (dc d_Mo_of 7 rfl)
theorem c_Mo_of {l : Launch} {B : KB} {L : KLay} {M : KMem} {p0 : Int32} {p1 : Int32} (hst : l.stackTraces = false)  {r : Int32} (e : m_Mo_of p0 p1 = some r) : CtrN l B yX11_of cX11_of 2 (some .int) rm_Mo_of [.int p0, .int p1] L M (some (.int r)) L M :=
  mk_I rfl hst rfl (fun X hl G _ R => b_Mo_of G  ⟨_, e, R⟩)
def I_Mo_ofDecree : List (Nat × Instr × Nat) := [(0, .bipush 42, 2), (2, .iconst 5, 1), (3, .iload_n 0, 1), (4, .imul, 1), (5, .iadd, 1), (6, .iload_n 1, 1), (7, .iadd, 1), (8, .ireturn, 1)]
set_option maxRecDepth 100000 in
theorem d_Mo_ofDecree : decA cX11_ofDecree I_Mo_ofDecree = true := by decide +kernel
abbrev rm_Mo_ofDecree : Room := ({ frames := 0, cells := 0, slots := 0, locals := 0 } : Room)
def m_Mo_ofDecree (p0 : Int32) (p1 : Int32) : Option Int32 :=
 some ((42 + (5 * p0)) + p1)
set_option maxHeartbeats 4000000 in
set_option maxRecDepth 100000 in
theorem b_Mo_ofDecree {X : KX} {B : KB} {L : KLay} {M : KMem} {p0 : Int32} {p1 : Int32} (G : Good X B RX11 cX11_ofDecree 2 rm_Mo_ofDecree)  (h : kOk (m_Mo_ofDecree p0 p1) (fun r => RI X B L 2 cX11_ofDecree .int rm_Mo_ofDecree r M)) : KK X B L 2 0 0 M 0 [(0, .int p0), (1, .int p1)] [] := by
  unfold m_Mo_ofDecree at h
  refine k_bipush G (dc d_Mo_ofDecree 0 rfl) cB_42 ?_
  refine k_iconst G (dc d_Mo_ofDecree 1 rfl) cI_5 ?_
  refine k_iload_n G (dc d_Mo_ofDecree 2 rfl) 0 rfl rfl ?_
  refine k_imul G (dc d_Mo_ofDecree 3 rfl) ?_
  refine k_iadd G (dc d_Mo_ofDecree 4 rfl) ?_
  refine k_iload_n G (dc d_Mo_ofDecree 5 rfl) 1 rfl rfl ?_
  refine k_iadd G (dc d_Mo_ofDecree 6 rfl) ?_
  exact (kOk_s h) _ _ _ _ rfl rfl rfl (dc d_Mo_ofDecree 7 rfl)
theorem c_Mo_ofDecree {l : Launch} {B : KB} {L : KLay} {M : KMem} {p0 : Int32} {p1 : Int32} (hst : l.stackTraces = false)  {r : Int32} (e : m_Mo_ofDecree p0 p1 = some r) : CtrN l B yX11_ofDecree cX11_ofDecree 2 (some .int) rm_Mo_ofDecree [.int p0, .int p1] L M (some (.int r)) L M :=
  mk_I rfl hst rfl (fun X hl G _ R => b_Mo_ofDecree G  ⟨_, e, R⟩)
def I_Mo_isSign : List (Nat × Instr × Nat) := [(0, .iload_n 1, 1), (1, .iconst 0, 1), (2, .aload_n 0, 1), (3, .getfield 7, 3), (6, .iconst 0, 1), (7, .iaload, 1), (8, .iconst 1, 1), (9, .isub, 1), (10, .invokestatic 41, 3), (13, .ireturn, 1)]
set_option maxRecDepth 100000 in
theorem d_Mo_isSign : decA cX11_isSign I_Mo_isSign = true := by decide +kernel
abbrev rm_Mo_isSign : Room := ({ frames := 1, cells := 0, slots := 0, locals := 22 } : Room)
def m_Mo_isSign (u : Nat) (p0 : Int32) (M : KMem) : Option Int32 :=
 Option.bind (rdI M (u + 1) 108 0) fun x2 =>
 Option.bind (m_Mo_in p0 0 (x2 - 1)) fun x4 =>
 Option.bind (kz x4) fun z5 =>
 some z5
set_option maxHeartbeats 4000000 in
set_option maxRecDepth 100000 in
theorem b_Mo_isSign {X : KX} {B : KB} {L : KLay} {M : KMem} {u : Nat} {p0 : Int32} (G : Good X B RX11 cX11_isSign 2 rm_Mo_isSign) (hu : okL L u moT) (h : kOk (m_Mo_isSign u p0 M) (fun r => RI X B L 2 cX11_isSign .boolean rm_Mo_isSign r M)) : KK X B L 2 0 0 M 0 [(0, .ref (B.1 + u)), (1, .int p0)] [] := by
  unfold m_Mo_isSign at h
  refine k_iload_n G (dc d_Mo_isSign 0 rfl) 1 rfl rfl ?_
  refine k_iconst G (dc d_Mo_isSign 1 rfl) cI_0 ?_
  refine k_aload_n G (dc d_Mo_isSign 2 rfl) 0 rfl rfl ?_
  refine k_getR G kc8 (dc d_Mo_isSign 3 rfl) (okL_lt hu (o := 0) 0 rfl) (okL_k hu (o := 0) 0 rfl) 1 (by decide) rfl fl_RX11_7 (u + 1) (okL_r hu (o := 0) (c := 1) 0 rfl 0 rfl) ?_
  refine k_iconst G (dc d_Mo_isSign 4 rfl) cI_0 ?_
  obtain ⟨x2, e1, h⟩ := kOk_b h
  refine k_ild G (dc d_Mo_isSign 5 rfl) (okL_lt hu (o := 1) 1 rfl) (okL_k hu (o := 1) 1 rfl) (okL_n hu (o := 1) 1 rfl) e1 ?_
  refine k_iconst G (dc d_Mo_isSign 6 rfl) cI_1 ?_
  refine k_isub G (dc d_Mo_isSign 7 rfl) ?_
  obtain ⟨x4, e3, h⟩ := kOk_b h
  refine k_cSI G (dc d_Mo_isSign 8 rfl) mi_Mo_in ms_Mo_in ml_RX11_41 (c_Mo_in (gst G)  e3) rfl rfl ⟨rfl, rfl⟩ rfl ⟨rfl, rfl⟩ ⟨rfl, rfl⟩ ?_
  obtain ⟨z5, e6, h⟩ := kOk_b h
  obtain ⟨e6, nz5, -⟩ := kz_ok e6
  rw [e6]
  exact (kOk_s h) _ _ _ _ rfl rfl nz5 (dc d_Mo_isSign 9 rfl)
theorem c_Mo_isSign {l : Launch} {B : KB} {L : KLay} {M : KMem} {u : Nat} {p0 : Int32} (hst : l.stackTraces = false) (hu : okL L u moT) {r : Int32} (e : m_Mo_isSign u p0 M = some r) : CtrN l B yX11_isSign cX11_isSign 2 (some .boolean) rm_Mo_isSign [.ref (B.1 + u), .int p0] L M (some (.int r)) L M :=
  mk_I rfl hst rfl (fun X hl G _ R => b_Mo_isSign G hu ⟨_, e, R⟩)
def I_Mo_isDecree : List (Nat × Instr × Nat) := [(0, .iload_n 1, 1), (1, .iconst 0, 1), (2, .aload_n 0, 1), (3, .getfield 7, 3), (6, .bipush 41, 2), (8, .iaload, 1), (9, .iconst 1, 1), (10, .isub, 1), (11, .invokestatic 41, 3), (14, .ireturn, 1)]
set_option maxRecDepth 100000 in
theorem d_Mo_isDecree : decA cX11_isDecree I_Mo_isDecree = true := by decide +kernel
abbrev rm_Mo_isDecree : Room := ({ frames := 1, cells := 0, slots := 0, locals := 22 } : Room)
def m_Mo_isDecree (u : Nat) (p0 : Int32) (M : KMem) : Option Int32 :=
 Option.bind (rdI M (u + 1) 108 41) fun x2 =>
 Option.bind (m_Mo_in p0 0 (x2 - 1)) fun x4 =>
 Option.bind (kz x4) fun z5 =>
 some z5
set_option maxHeartbeats 4000000 in
set_option maxRecDepth 100000 in
theorem b_Mo_isDecree {X : KX} {B : KB} {L : KLay} {M : KMem} {u : Nat} {p0 : Int32} (G : Good X B RX11 cX11_isDecree 2 rm_Mo_isDecree) (hu : okL L u moT) (h : kOk (m_Mo_isDecree u p0 M) (fun r => RI X B L 2 cX11_isDecree .boolean rm_Mo_isDecree r M)) : KK X B L 2 0 0 M 0 [(0, .ref (B.1 + u)), (1, .int p0)] [] := by
  unfold m_Mo_isDecree at h
  refine k_iload_n G (dc d_Mo_isDecree 0 rfl) 1 rfl rfl ?_
  refine k_iconst G (dc d_Mo_isDecree 1 rfl) cI_0 ?_
  refine k_aload_n G (dc d_Mo_isDecree 2 rfl) 0 rfl rfl ?_
  refine k_getR G kc8 (dc d_Mo_isDecree 3 rfl) (okL_lt hu (o := 0) 0 rfl) (okL_k hu (o := 0) 0 rfl) 1 (by decide) rfl fl_RX11_7 (u + 1) (okL_r hu (o := 0) (c := 1) 0 rfl 0 rfl) ?_
  refine k_bipush G (dc d_Mo_isDecree 4 rfl) cB_41 ?_
  obtain ⟨x2, e1, h⟩ := kOk_b h
  refine k_ild G (dc d_Mo_isDecree 5 rfl) (okL_lt hu (o := 1) 1 rfl) (okL_k hu (o := 1) 1 rfl) (okL_n hu (o := 1) 1 rfl) e1 ?_
  refine k_iconst G (dc d_Mo_isDecree 6 rfl) cI_1 ?_
  refine k_isub G (dc d_Mo_isDecree 7 rfl) ?_
  obtain ⟨x4, e3, h⟩ := kOk_b h
  refine k_cSI G (dc d_Mo_isDecree 8 rfl) mi_Mo_in ms_Mo_in ml_RX11_41 (c_Mo_in (gst G)  e3) rfl rfl ⟨rfl, rfl⟩ rfl ⟨rfl, rfl⟩ ⟨rfl, rfl⟩ ?_
  obtain ⟨z5, e6, h⟩ := kOk_b h
  obtain ⟨e6, nz5, -⟩ := kz_ok e6
  rw [e6]
  exact (kOk_s h) _ _ _ _ rfl rfl nz5 (dc d_Mo_isDecree 9 rfl)
theorem c_Mo_isDecree {l : Launch} {B : KB} {L : KLay} {M : KMem} {u : Nat} {p0 : Int32} (hst : l.stackTraces = false) (hu : okL L u moT) {r : Int32} (e : m_Mo_isDecree u p0 M = some r) : CtrN l B yX11_isDecree cX11_isDecree 2 (some .boolean) rm_Mo_isDecree [.ref (B.1 + u), .int p0] L M (some (.int r)) L M :=
  mk_I rfl hst rfl (fun X hl G _ R => b_Mo_isDecree G hu ⟨_, e, R⟩)
def I_Mo_isLetter : List (Nat × Instr × Nat) := [(0, .iload_n 0, 1), (1, .iconst 1, 1), (2, .bipush 6, 2), (4, .invokestatic 41, 3), (7, .ireturn, 1)]
set_option maxRecDepth 100000 in
theorem d_Mo_isLetter : decA cX11_isLetter I_Mo_isLetter = true := by decide +kernel
abbrev rm_Mo_isLetter : Room := ({ frames := 1, cells := 0, slots := 0, locals := 22 } : Room)
def m_Mo_isLetter (p0 : Int32) : Option Int32 :=
 Option.bind (m_Mo_in p0 1 6) fun x2 =>
 Option.bind (kz x2) fun z3 =>
 some z3
set_option maxHeartbeats 4000000 in
set_option maxRecDepth 100000 in
theorem b_Mo_isLetter {X : KX} {B : KB} {L : KLay} {M : KMem} {p0 : Int32} (G : Good X B RX11 cX11_isLetter 1 rm_Mo_isLetter)  (h : kOk (m_Mo_isLetter p0) (fun r => RI X B L 1 cX11_isLetter .boolean rm_Mo_isLetter r M)) : KK X B L 1 0 0 M 0 [(0, .int p0)] [] := by
  unfold m_Mo_isLetter at h
  refine k_iload_n G (dc d_Mo_isLetter 0 rfl) 0 rfl rfl ?_
  refine k_iconst G (dc d_Mo_isLetter 1 rfl) cI_1 ?_
  refine k_bipush G (dc d_Mo_isLetter 2 rfl) cB_6 ?_
  obtain ⟨x2, e1, h⟩ := kOk_b h
  refine k_cSI G (dc d_Mo_isLetter 3 rfl) mi_Mo_in ms_Mo_in ml_RX11_41 (c_Mo_in (gst G)  e1) rfl rfl ⟨rfl, rfl⟩ rfl ⟨rfl, rfl⟩ ⟨rfl, rfl⟩ ?_
  obtain ⟨z3, e4, h⟩ := kOk_b h
  obtain ⟨e4, nz3, -⟩ := kz_ok e4
  rw [e4]
  exact (kOk_s h) _ _ _ _ rfl rfl nz3 (dc d_Mo_isLetter 4 rfl)
theorem c_Mo_isLetter {l : Launch} {B : KB} {L : KLay} {M : KMem} {p0 : Int32} (hst : l.stackTraces = false)  {r : Int32} (e : m_Mo_isLetter p0 = some r) : CtrN l B yX11_isLetter cX11_isLetter 1 (some .boolean) rm_Mo_isLetter [.int p0] L M (some (.int r)) L M :=
  mk_I rfl hst rfl (fun X hl G _ R => b_Mo_isLetter G  ⟨_, e, R⟩)
def I_Mo_isWord : List (Nat × Instr × Nat) := [(0, .iload_n 0, 1), (1, .iconst 1, 1), (2, .ldc 45, 2), (4, .invokestatic 41, 3), (7, .istore_n 1, 1), (8, .iload_n 0, 1), (9, .istore_n 2, 1), (10, .iload_n 2, 1), (11, .ifCond .le 23, 3), (14, .iload_n 1, 1), (15, .ifCond .eq 19, 3), (18, .iload_n 2, 1), (19, .bipush 10, 2), (21, .irem, 1), (22, .invokestatic 46, 3), (25, .istore_n 1, 1), (26, .iload_n 2, 1), (27, .bipush 10, 2), (29, .idiv, 1), (30, .istore_n 2, 1), (31, .goto (-21), 3), (34, .iload_n 1, 1), (35, .ireturn, 1)]
set_option maxRecDepth 100000 in
theorem d_Mo_isWord : decA cX11_isWord I_Mo_isWord = true := by decide +kernel
abbrev rm_Mo_isWord : Room := ({ frames := 2, cells := 0, slots := 0, locals := 42 } : Room)
def m_Mo_isWord_l10  : (Int32 × Int32) → Option ((Int32 × Int32) ⊕ Int32) := fun (v1_3, v2_4) =>
 if v2_4 ≤ 0 then
 (some (.inr v1_3))
 else
 (if v1_3 = 0 then
 (some (.inr v1_3))
 else
 (Option.bind (m_Mo_isLetter (jrem v2_4 10)) fun x8 =>
 some (.inl (x8, v2_4 / 10))))
def m_Mo_isWord (p0 : Int32) : Option Int32 :=
 Option.bind (m_Mo_in p0 1 66666666) fun x2 =>
 Option.bind (α := Int32) (kLp m_Mo_isWord_l10 kFU (x2, p0)) fun v1_9 =>
 Option.bind (kz v1_9) fun z10 =>
 some z10
set_option maxHeartbeats 4000000 in
set_option maxRecDepth 100000 in
theorem b_Mo_isWord {X : KX} {B : KB} {L : KLay} {M : KMem} {p0 : Int32} (G : Good X B RX11 cX11_isWord 3 rm_Mo_isWord)  (h : kOk (m_Mo_isWord p0) (fun r => RI X B L 3 cX11_isWord .boolean rm_Mo_isWord r M)) : KK X B L 3 0 0 M 0 [(0, .int p0)] [] := by
  unfold m_Mo_isWord at h
  refine k_iload_n G (dc d_Mo_isWord 0 rfl) 0 rfl rfl ?_
  refine k_iconst G (dc d_Mo_isWord 1 rfl) cI_1 ?_
  refine k_ldc G (dc d_Mo_isWord 2 rfl) ld_RX11_45 ?_
  obtain ⟨x2, e1, h⟩ := kOk_b h
  refine k_cSI G (dc d_Mo_isWord 3 rfl) mi_Mo_in ms_Mo_in ml_RX11_41 (c_Mo_in (gst G)  e1) rfl rfl ⟨rfl, rfl⟩ rfl ⟨rfl, rfl⟩ ⟨rfl, rfl⟩ ?_
  refine k_istore_n G (dc d_Mo_isWord 4 rfl) (ls' := [(1, .int x2), (0, .int p0)]) rfl rfl rfl ?_
  refine k_iload_n G (dc d_Mo_isWord 5 rfl) 1 rfl rfl ?_
  refine k_istore_n G (dc d_Mo_isWord 6 rfl) (ls' := [(2, .int p0), (1, .int x2), (0, .int p0)]) rfl rfl rfl ?_
  refine kJ h (fun r12 => KK X B L 3 0 0 M 34 [(1, .int r12)] []) (fun r12 h => ?_) (fun h => ?_)
  · obtain ⟨v1_9, rfl⟩ : ∃ z, z = r12 := ⟨_, rfl⟩
    show KK X B L 3 0 0 M 34 [(1, .int v1_9)] []
    refine k_iload_n G (dc d_Mo_isWord 21 rfl) 0 rfl rfl ?_
    obtain ⟨z10, e11, h⟩ := kOk_b h
    obtain ⟨e11, nz10, -⟩ := kz_ok e11
    rw [e11]
    exact (kOk_s h) _ _ _ _ rfl rfl nz10 (dc d_Mo_isWord 22 rfl)
  · refine k_sub [1, 0] rfl ?_
    refine kLp_ok (P := fun s13 => KK X B L 3 0 0 M 10 [(1, .int s13.1), (2, .int s13.2)] []) (fun s13 h => ?_) kFU _ h
    obtain ⟨v1_3, v2_4⟩ := s13
    unfold m_Mo_isWord_l10 at h
    show KK X B L 3 0 0 M 10 [(1, .int v1_3), (2, .int v2_4)] []
    refine k_iload_n G (dc d_Mo_isWord 7 rfl) 1 rfl rfl ?_
    refine k_if_le G (dc d_Mo_isWord 8 rfl) (tgt := 34) rfl (fun c5 => ?_) (fun c5 => ?_)
    · replace h := kOk_p c5 h
      refine k_sub [0] rfl ?_
      have h9 := kOk_s h
      exact h9
    · replace h := kOk_n c5 h
      refine k_iload_n G (dc d_Mo_isWord 9 rfl) 0 rfl rfl ?_
      refine k_if_eq G (dc d_Mo_isWord 10 rfl) (tgt := 34) rfl (fun c6 => ?_) (fun c6 => ?_)
      · replace h := kOk_p c6 h
        refine k_sub [0] rfl ?_
        have h9 := kOk_s h
        exact h9
      · replace h := kOk_n c6 h
        refine k_iload_n G (dc d_Mo_isWord 11 rfl) 1 rfl rfl ?_
        refine k_bipush G (dc d_Mo_isWord 12 rfl) cB_10 ?_
        refine k_irem G (dc d_Mo_isWord 13 rfl) czI_10 ?_
        obtain ⟨x8, e7, h⟩ := kOk_b h
        refine k_cSI G (dc d_Mo_isWord 14 rfl) mi_Mo_isLetter ms_Mo_isLetter ml_RX11_46 (c_Mo_isLetter (gst G)  e7) rfl rfl ⟨rfl, rfl⟩ rfl ⟨rfl, rfl⟩ ⟨rfl, rfl⟩ ?_
        refine k_istore_n G (dc d_Mo_isWord 15 rfl) (ls' := [(1, .int x8), (2, .int v2_4)]) rfl rfl rfl ?_
        refine k_iload_n G (dc d_Mo_isWord 16 rfl) 1 rfl rfl ?_
        refine k_bipush G (dc d_Mo_isWord 17 rfl) cB_10 ?_
        refine k_idiv G (dc d_Mo_isWord 18 rfl) czI_10 ?_
        refine k_istore_n G (dc d_Mo_isWord 19 rfl) (ls' := [(2, .int (v2_4 / 10)), (1, .int x8)]) rfl rfl rfl ?_
        refine k_goto G (dc d_Mo_isWord 20 rfl) (tgt := 10) rfl ?_
        refine k_sub [1, 0] rfl ?_
        have h9 := kOk_s h
        exact h9
theorem c_Mo_isWord {l : Launch} {B : KB} {L : KLay} {M : KMem} {p0 : Int32} (hst : l.stackTraces = false)  {r : Int32} (e : m_Mo_isWord p0 = some r) : CtrN l B yX11_isWord cX11_isWord 3 (some .boolean) rm_Mo_isWord [.int p0] L M (some (.int r)) L M :=
  mk_I rfl hst rfl (fun X hl G _ R => b_Mo_isWord G  ⟨_, e, R⟩)
def I_Mo_remember : List (Nat × Instr × Nat) := [(0, .aload_n 0, 1), (1, .getfield 50, 3), (4, .bipush 14, 2), (6, .if_icmp .ne 43, 3), (9, .iconst 0, 1), (10, .istore_n 1, 1), (11, .iload_n 1, 1), (12, .sipush 1404, 3), (15, .if_icmp .ge 24, 3), (18, .aload_n 0, 1), (19, .getfield 16, 3), (22, .iload_n 1, 1), (23, .aload_n 0, 1), (24, .getfield 16, 3), (27, .iload_n 1, 1), (28, .bipush 108, 2), (30, .iadd, 1), (31, .iaload, 1), (32, .iastore, 1), (33, .iinc 1 1, 3), (36, .goto (-25), 3), (39, .aload_n 0, 1), (40, .dup, 1), (41, .getfield 50, 3), (44, .iconst 1, 1), (45, .isub, 1), (46, .putfield 50, 3), (49, .iconst 0, 1), (50, .istore_n 1, 1), (51, .iload_n 1, 1), (52, .bipush 108, 2), (54, .if_icmp .ge 29, 3), (57, .aload_n 0, 1), (58, .getfield 16, 3), (61, .bipush 108, 2), (63, .aload_n 0, 1), (64, .getfield 50, 3), (67, .imul, 1), (68, .iload_n 1, 1), (69, .iadd, 1), (70, .aload_n 0, 1), (71, .getfield 7, 3), (74, .iload_n 1, 1), (75, .iaload, 1), (76, .iastore, 1), (77, .iinc 1 1, 3), (80, .goto (-29), 3), (83, .aload_n 0, 1), (84, .dup, 1), (85, .getfield 50, 3), (88, .iconst 1, 1), (89, .iadd, 1), (90, .putfield 50, 3), (93, .return_, 1)]
set_option maxRecDepth 100000 in
theorem d_Mo_remember : decA cX11_remember I_Mo_remember = true := by decide +kernel
abbrev rm_Mo_remember : Room := ({ frames := 0, cells := 0, slots := 0, locals := 0 } : Room)
def m_Mo_remember_l51 (u : Nat) : (Int32 × KMem) → Option ((Int32 × KMem) ⊕ KMem) := fun (v1_3, M4) =>
 if 108 ≤ v1_3 then
 (some (.inr M4))
 else
 (Option.bind (rdI M4 (u + 1) 108 v1_3) fun x7 =>
 Option.bind (wrI M4 (u + 3) 1512 ((108 * (M4 u 4)) + v1_3) x7) fun M9 =>
 some (.inl (v1_3 + 1, M9)))
def m_Mo_remember_l11 (u : Nat) : (Int32 × KMem) → Option ((Int32 × KMem) ⊕ KMem) := fun (v1_16, M17) =>
 if 1404 ≤ v1_16 then
 (some (.inr M17))
 else
 (Option.bind (rdI M17 (u + 3) 1512 (v1_16 + 108)) fun x20 =>
 Option.bind (wrI M17 (u + 3) 1512 v1_16 x20) fun M22 =>
 some (.inl (v1_16 + 1, M22)))
def m_Mo_remember (u : Nat) (M : KMem) : Option KMem :=
 Option.bind (α := KMem) (if (M u 4) = 14 then
 (Option.bind (α := KMem) (kLp (m_Mo_remember_l11 u) kFU (0, M)) fun M23 =>
 Option.bind (some (kup M23 u 4 ((M23 u 4) - 1))) fun M25 =>
 some M25)
 else
 (some M)) fun M1 =>
 Option.bind (α := KMem) (kLp (m_Mo_remember_l51 u) kFU (0, M1)) fun M10 =>
 Option.bind (some (kup M10 u 4 ((M10 u 4) + 1))) fun M12 =>
 some M12
set_option maxHeartbeats 4000000 in
set_option maxRecDepth 100000 in
theorem b_Mo_remember {X : KX} {B : KB} {L : KLay} {M : KMem} {u : Nat} (G : Good X B RX11 cX11_remember 2 rm_Mo_remember) (hu : okL L u moT) (h : kOk (m_Mo_remember u M) (fun r => RV X B L 2 cX11_remember rm_Mo_remember r)) : KK X B L 2 0 0 M 0 [(0, .ref (B.1 + u))] [] := by
  unfold m_Mo_remember at h
  refine k_aload_n G (dc d_Mo_remember 0 rfl) 0 rfl rfl ?_
  refine k_getI G kc8 (dc d_Mo_remember 1 rfl) (okL_lt hu (o := 0) 0 rfl) (okL_k hu (o := 0) 0 rfl) 4 (by decide) rfl fl_RX11_50 ?_
  refine k_bipush G (dc d_Mo_remember 2 rfl) cB_14 ?_
  refine kJ h (fun r2 => KK X B L 2 0 0 r2 49 [(0, .ref (B.1 + u))] []) (fun r2 h => ?_) (fun h => ?_)
  · obtain ⟨M1, rfl⟩ : ∃ z, z = r2 := ⟨_, rfl⟩
    show KK X B L 2 0 0 M1 49 [(0, .ref (B.1 + u))] []
    refine k_iconst G (dc d_Mo_remember 27 rfl) cI_0 ?_
    refine k_istore_n G (dc d_Mo_remember 28 rfl) (ls' := [(1, .int 0), (0, .ref (B.1 + u))]) rfl rfl rfl ?_
    refine kJ h (fun r13 => KK X B L 2 0 0 r13 83 [(0, .ref (B.1 + u))] []) (fun r13 h => ?_) (fun h => ?_)
    · obtain ⟨M10, rfl⟩ : ∃ z, z = r13 := ⟨_, rfl⟩
      show KK X B L 2 0 0 M10 83 [(0, .ref (B.1 + u))] []
      refine k_aload_n G (dc d_Mo_remember 47 rfl) 0 rfl rfl ?_
      refine k_dup G (dc d_Mo_remember 48 rfl) rfl ?_
      refine k_getI G kc8 (dc d_Mo_remember 49 rfl) (okL_lt hu (o := 0) 0 rfl) (okL_k hu (o := 0) 0 rfl) 4 (by decide) rfl fl_RX11_50 ?_
      refine k_iconst G (dc d_Mo_remember 50 rfl) cI_1 ?_
      refine k_iadd G (dc d_Mo_remember 51 rfl) ?_
      obtain ⟨M12, e11, h⟩ := kOk_b h
      refine k_putI G kc8 (dc d_Mo_remember 52 rfl) (okL_lt hu (o := 0) 0 rfl) (okL_k hu (o := 0) 0 rfl) 4 (by decide) rfl rfl fl_RX11_50 rfl rfl e11 ?_
      exact (kOk_s h) _ _ _ _ rfl rfl (dc d_Mo_remember 53 rfl)
    · refine k_sub [1, 0] rfl ?_
      refine kLp_ok (P := fun s14 => KK X B L 2 0 0 s14.2 51 [(0, .ref (B.1 + u)), (1, .int s14.1)] []) (fun s14 h => ?_) kFU _ h
      obtain ⟨v1_3, M4⟩ := s14
      unfold m_Mo_remember_l51 at h
      show KK X B L 2 0 0 M4 51 [(0, .ref (B.1 + u)), (1, .int v1_3)] []
      refine k_iload_n G (dc d_Mo_remember 29 rfl) 1 rfl rfl ?_
      refine k_bipush G (dc d_Mo_remember 30 rfl) cB_108 ?_
      refine k_icmp_ge G (dc d_Mo_remember 31 rfl) (tgt := 83) rfl (fun c5 => ?_) (fun c5 => ?_)
      · replace h := kOk_p c5 h
        refine k_sub [0] rfl ?_
        have h9 := kOk_s h
        exact h9
      · replace h := kOk_n c5 h
        refine k_aload_n G (dc d_Mo_remember 32 rfl) 0 rfl rfl ?_
        refine k_getR G kc8 (dc d_Mo_remember 33 rfl) (okL_lt hu (o := 0) 0 rfl) (okL_k hu (o := 0) 0 rfl) 3 (by decide) rfl fl_RX11_16 (u + 3) (okL_r hu (o := 0) (c := 3) 0 rfl 2 rfl) ?_
        refine k_bipush G (dc d_Mo_remember 34 rfl) cB_108 ?_
        refine k_aload_n G (dc d_Mo_remember 35 rfl) 0 rfl rfl ?_
        refine k_getI G kc8 (dc d_Mo_remember 36 rfl) (okL_lt hu (o := 0) 0 rfl) (okL_k hu (o := 0) 0 rfl) 4 (by decide) rfl fl_RX11_50 ?_
        refine k_imul G (dc d_Mo_remember 37 rfl) ?_
        refine k_iload_n G (dc d_Mo_remember 38 rfl) 1 rfl rfl ?_
        refine k_iadd G (dc d_Mo_remember 39 rfl) ?_
        refine k_aload_n G (dc d_Mo_remember 40 rfl) 0 rfl rfl ?_
        refine k_getR G kc8 (dc d_Mo_remember 41 rfl) (okL_lt hu (o := 0) 0 rfl) (okL_k hu (o := 0) 0 rfl) 1 (by decide) rfl fl_RX11_7 (u + 1) (okL_r hu (o := 0) (c := 1) 0 rfl 0 rfl) ?_
        refine k_iload_n G (dc d_Mo_remember 42 rfl) 1 rfl rfl ?_
        obtain ⟨x7, e6, h⟩ := kOk_b h
        refine k_ild G (dc d_Mo_remember 43 rfl) (okL_lt hu (o := 1) 1 rfl) (okL_k hu (o := 1) 1 rfl) (okL_n hu (o := 1) 1 rfl) e6 ?_
        obtain ⟨M9, e8, h⟩ := kOk_b h
        refine k_ist G (dc d_Mo_remember 44 rfl) (okL_lt hu (o := 3) 3 rfl) (okL_k hu (o := 3) 3 rfl) (okL_n hu (o := 3) 3 rfl) e8 ?_
        refine k_iinc G (dc d_Mo_remember 45 rfl) (ls' := [(1, .int (v1_3 + 1)), (0, .ref (B.1 + u))]) 1 rfl cI_1 rfl rfl ?_
        refine k_goto G (dc d_Mo_remember 46 rfl) (tgt := 51) rfl ?_
        refine k_sub [1, 0] rfl ?_
        have h9 := kOk_s h
        exact h9
  · refine k_icmp_ne G (dc d_Mo_remember 3 rfl) (tgt := 49) rfl (fun c15 => ?_) (fun c15 => ?_)
    · replace h := kOk_n c15 h
      have h9 := kOk_s h
      exact h9
    · replace h := kOk_p c15 h
      refine k_iconst G (dc d_Mo_remember 4 rfl) cI_0 ?_
      refine k_istore_n G (dc d_Mo_remember 5 rfl) (ls' := [(1, .int 0), (0, .ref (B.1 + u))]) rfl rfl rfl ?_
      refine kJ h (fun r26 => KK X B L 2 0 0 r26 39 [(0, .ref (B.1 + u))] []) (fun r26 h => ?_) (fun h => ?_)
      · obtain ⟨M23, rfl⟩ : ∃ z, z = r26 := ⟨_, rfl⟩
        show KK X B L 2 0 0 M23 39 [(0, .ref (B.1 + u))] []
        refine k_aload_n G (dc d_Mo_remember 21 rfl) 0 rfl rfl ?_
        refine k_dup G (dc d_Mo_remember 22 rfl) rfl ?_
        refine k_getI G kc8 (dc d_Mo_remember 23 rfl) (okL_lt hu (o := 0) 0 rfl) (okL_k hu (o := 0) 0 rfl) 4 (by decide) rfl fl_RX11_50 ?_
        refine k_iconst G (dc d_Mo_remember 24 rfl) cI_1 ?_
        refine k_isub G (dc d_Mo_remember 25 rfl) ?_
        obtain ⟨M25, e24, h⟩ := kOk_b h
        refine k_putI G kc8 (dc d_Mo_remember 26 rfl) (okL_lt hu (o := 0) 0 rfl) (okL_k hu (o := 0) 0 rfl) 4 (by decide) rfl rfl fl_RX11_50 rfl rfl e24 ?_
        have h9 := kOk_s h
        exact h9
      · refine k_sub [1, 0] rfl ?_
        refine kLp_ok (P := fun s27 => KK X B L 2 0 0 s27.2 11 [(0, .ref (B.1 + u)), (1, .int s27.1)] []) (fun s27 h => ?_) kFU _ h
        obtain ⟨v1_16, M17⟩ := s27
        unfold m_Mo_remember_l11 at h
        show KK X B L 2 0 0 M17 11 [(0, .ref (B.1 + u)), (1, .int v1_16)] []
        refine k_iload_n G (dc d_Mo_remember 6 rfl) 1 rfl rfl ?_
        refine k_sipush G (dc d_Mo_remember 7 rfl) cS_1404 ?_
        refine k_icmp_ge G (dc d_Mo_remember 8 rfl) (tgt := 39) rfl (fun c18 => ?_) (fun c18 => ?_)
        · replace h := kOk_p c18 h
          refine k_sub [0] rfl ?_
          have h9 := kOk_s h
          exact h9
        · replace h := kOk_n c18 h
          refine k_aload_n G (dc d_Mo_remember 9 rfl) 0 rfl rfl ?_
          refine k_getR G kc8 (dc d_Mo_remember 10 rfl) (okL_lt hu (o := 0) 0 rfl) (okL_k hu (o := 0) 0 rfl) 3 (by decide) rfl fl_RX11_16 (u + 3) (okL_r hu (o := 0) (c := 3) 0 rfl 2 rfl) ?_
          refine k_iload_n G (dc d_Mo_remember 11 rfl) 1 rfl rfl ?_
          refine k_aload_n G (dc d_Mo_remember 12 rfl) 0 rfl rfl ?_
          refine k_getR G kc8 (dc d_Mo_remember 13 rfl) (okL_lt hu (o := 0) 0 rfl) (okL_k hu (o := 0) 0 rfl) 3 (by decide) rfl fl_RX11_16 (u + 3) (okL_r hu (o := 0) (c := 3) 0 rfl 2 rfl) ?_
          refine k_iload_n G (dc d_Mo_remember 14 rfl) 1 rfl rfl ?_
          refine k_bipush G (dc d_Mo_remember 15 rfl) cB_108 ?_
          refine k_iadd G (dc d_Mo_remember 16 rfl) ?_
          obtain ⟨x20, e19, h⟩ := kOk_b h
          refine k_ild G (dc d_Mo_remember 17 rfl) (okL_lt hu (o := 3) 3 rfl) (okL_k hu (o := 3) 3 rfl) (okL_n hu (o := 3) 3 rfl) e19 ?_
          obtain ⟨M22, e21, h⟩ := kOk_b h
          refine k_ist G (dc d_Mo_remember 18 rfl) (okL_lt hu (o := 3) 3 rfl) (okL_k hu (o := 3) 3 rfl) (okL_n hu (o := 3) 3 rfl) e21 ?_
          refine k_iinc G (dc d_Mo_remember 19 rfl) (ls' := [(1, .int (v1_16 + 1)), (0, .ref (B.1 + u))]) 1 rfl cI_1 rfl rfl ?_
          refine k_goto G (dc d_Mo_remember 20 rfl) (tgt := 11) rfl ?_
          refine k_sub [1, 0] rfl ?_
          have h9 := kOk_s h
          exact h9
theorem c_Mo_remember {l : Launch} {B : KB} {L : KLay} {M : KMem} {u : Nat} (hst : l.stackTraces = false) (hu : okL L u moT) {M' : KMem} (e : m_Mo_remember u M = some M') : CtrN l B yX11_remember cX11_remember 2 none rm_Mo_remember [.ref (B.1 + u)] L M none L M' :=
  mk_V rfl hst rfl (fun X hl G _ R => b_Mo_remember G hu ⟨_, e, R⟩)
def I_Mo_putAside : List (Nat × Instr × Nat) := [(0, .iconst 0, 1), (1, .istore_n 1, 1), (2, .iload_n 1, 1), (3, .bipush 108, 2), (5, .if_icmp .ge 21, 3), (8, .aload_n 0, 1), (9, .getfield 13, 3), (12, .iload_n 1, 1), (13, .aload_n 0, 1), (14, .getfield 7, 3), (17, .iload_n 1, 1), (18, .iaload, 1), (19, .iastore, 1), (20, .iinc 1 1, 3), (23, .goto (-21), 3), (26, .return_, 1)]
set_option maxRecDepth 100000 in
theorem d_Mo_putAside : decA cX11_putAside I_Mo_putAside = true := by decide +kernel
abbrev rm_Mo_putAside : Room := ({ frames := 0, cells := 0, slots := 0, locals := 0 } : Room)
def m_Mo_putAside_l2 (u : Nat) : (Int32 × KMem) → Option ((Int32 × KMem) ⊕ KMem) := fun (v1_1, M2) =>
 if 108 ≤ v1_1 then
 (some (.inr M2))
 else
 (Option.bind (rdI M2 (u + 1) 108 v1_1) fun x5 =>
 Option.bind (wrI M2 (u + 2) 108 v1_1 x5) fun M7 =>
 some (.inl (v1_1 + 1, M7)))
def m_Mo_putAside (u : Nat) (M : KMem) : Option KMem :=
 Option.bind (α := KMem) (kLp (m_Mo_putAside_l2 u) kFU (0, M)) fun M8 =>
 some M8
set_option maxHeartbeats 4000000 in
set_option maxRecDepth 100000 in
theorem b_Mo_putAside {X : KX} {B : KB} {L : KLay} {M : KMem} {u : Nat} (G : Good X B RX11 cX11_putAside 2 rm_Mo_putAside) (hu : okL L u moT) (h : kOk (m_Mo_putAside u M) (fun r => RV X B L 2 cX11_putAside rm_Mo_putAside r)) : KK X B L 2 0 0 M 0 [(0, .ref (B.1 + u))] [] := by
  unfold m_Mo_putAside at h
  refine k_iconst G (dc d_Mo_putAside 0 rfl) cI_0 ?_
  refine k_istore_n G (dc d_Mo_putAside 1 rfl) (ls' := [(1, .int 0), (0, .ref (B.1 + u))]) rfl rfl rfl ?_
  refine kJ h (fun r9 => KK X B L 2 0 0 r9 26 [] []) (fun r9 h => ?_) (fun h => ?_)
  · obtain ⟨M8, rfl⟩ : ∃ z, z = r9 := ⟨_, rfl⟩
    show KK X B L 2 0 0 M8 26 [] []
    exact (kOk_s h) _ _ _ _ rfl rfl (dc d_Mo_putAside 15 rfl)
  · refine k_sub [1, 0] rfl ?_
    refine kLp_ok (P := fun s10 => KK X B L 2 0 0 s10.2 2 [(0, .ref (B.1 + u)), (1, .int s10.1)] []) (fun s10 h => ?_) kFU _ h
    obtain ⟨v1_1, M2⟩ := s10
    unfold m_Mo_putAside_l2 at h
    show KK X B L 2 0 0 M2 2 [(0, .ref (B.1 + u)), (1, .int v1_1)] []
    refine k_iload_n G (dc d_Mo_putAside 2 rfl) 1 rfl rfl ?_
    refine k_bipush G (dc d_Mo_putAside 3 rfl) cB_108 ?_
    refine k_icmp_ge G (dc d_Mo_putAside 4 rfl) (tgt := 26) rfl (fun c3 => ?_) (fun c3 => ?_)
    · replace h := kOk_p c3 h
      refine k_sub [] rfl ?_
      have h9 := kOk_s h
      exact h9
    · replace h := kOk_n c3 h
      refine k_aload_n G (dc d_Mo_putAside 5 rfl) 0 rfl rfl ?_
      refine k_getR G kc8 (dc d_Mo_putAside 6 rfl) (okL_lt hu (o := 0) 0 rfl) (okL_k hu (o := 0) 0 rfl) 2 (by decide) rfl fl_RX11_13 (u + 2) (okL_r hu (o := 0) (c := 2) 0 rfl 1 rfl) ?_
      refine k_iload_n G (dc d_Mo_putAside 7 rfl) 1 rfl rfl ?_
      refine k_aload_n G (dc d_Mo_putAside 8 rfl) 0 rfl rfl ?_
      refine k_getR G kc8 (dc d_Mo_putAside 9 rfl) (okL_lt hu (o := 0) 0 rfl) (okL_k hu (o := 0) 0 rfl) 1 (by decide) rfl fl_RX11_7 (u + 1) (okL_r hu (o := 0) (c := 1) 0 rfl 0 rfl) ?_
      refine k_iload_n G (dc d_Mo_putAside 10 rfl) 1 rfl rfl ?_
      obtain ⟨x5, e4, h⟩ := kOk_b h
      refine k_ild G (dc d_Mo_putAside 11 rfl) (okL_lt hu (o := 1) 1 rfl) (okL_k hu (o := 1) 1 rfl) (okL_n hu (o := 1) 1 rfl) e4 ?_
      obtain ⟨M7, e6, h⟩ := kOk_b h
      refine k_ist G (dc d_Mo_putAside 12 rfl) (okL_lt hu (o := 2) 2 rfl) (okL_k hu (o := 2) 2 rfl) (okL_n hu (o := 2) 2 rfl) e6 ?_
      refine k_iinc G (dc d_Mo_putAside 13 rfl) (ls' := [(1, .int (v1_1 + 1)), (0, .ref (B.1 + u))]) 1 rfl cI_1 rfl rfl ?_
      refine k_goto G (dc d_Mo_putAside 14 rfl) (tgt := 2) rfl ?_
      refine k_sub [1, 0] rfl ?_
      have h9 := kOk_s h
      exact h9
theorem c_Mo_putAside {l : Launch} {B : KB} {L : KLay} {M : KMem} {u : Nat} (hst : l.stackTraces = false) (hu : okL L u moT) {M' : KMem} (e : m_Mo_putAside u M = some M') : CtrN l B yX11_putAside cX11_putAside 2 none rm_Mo_putAside [.ref (B.1 + u)] L M none L M' :=
  mk_V rfl hst rfl (fun X hl G _ R => b_Mo_putAside G hu ⟨_, e, R⟩)
def I_Mo_putBack : List (Nat × Instr × Nat) := [(0, .iconst 0, 1), (1, .istore_n 1, 1), (2, .iload_n 1, 1), (3, .bipush 108, 2), (5, .if_icmp .ge 21, 3), (8, .aload_n 0, 1), (9, .getfield 7, 3), (12, .iload_n 1, 1), (13, .aload_n 0, 1), (14, .getfield 13, 3), (17, .iload_n 1, 1), (18, .iaload, 1), (19, .iastore, 1), (20, .iinc 1 1, 3), (23, .goto (-21), 3), (26, .return_, 1)]
set_option maxRecDepth 100000 in
theorem d_Mo_putBack : decA cX11_putBack I_Mo_putBack = true := by decide +kernel
abbrev rm_Mo_putBack : Room := ({ frames := 0, cells := 0, slots := 0, locals := 0 } : Room)
def m_Mo_putBack_l2 (u : Nat) : (Int32 × KMem) → Option ((Int32 × KMem) ⊕ KMem) := fun (v1_1, M2) =>
 if 108 ≤ v1_1 then
 (some (.inr M2))
 else
 (Option.bind (rdI M2 (u + 2) 108 v1_1) fun x5 =>
 Option.bind (wrI M2 (u + 1) 108 v1_1 x5) fun M7 =>
 some (.inl (v1_1 + 1, M7)))
def m_Mo_putBack (u : Nat) (M : KMem) : Option KMem :=
 Option.bind (α := KMem) (kLp (m_Mo_putBack_l2 u) kFU (0, M)) fun M8 =>
 some M8
set_option maxHeartbeats 4000000 in
set_option maxRecDepth 100000 in
theorem b_Mo_putBack {X : KX} {B : KB} {L : KLay} {M : KMem} {u : Nat} (G : Good X B RX11 cX11_putBack 2 rm_Mo_putBack) (hu : okL L u moT) (h : kOk (m_Mo_putBack u M) (fun r => RV X B L 2 cX11_putBack rm_Mo_putBack r)) : KK X B L 2 0 0 M 0 [(0, .ref (B.1 + u))] [] := by
  unfold m_Mo_putBack at h
  refine k_iconst G (dc d_Mo_putBack 0 rfl) cI_0 ?_
  refine k_istore_n G (dc d_Mo_putBack 1 rfl) (ls' := [(1, .int 0), (0, .ref (B.1 + u))]) rfl rfl rfl ?_
  refine kJ h (fun r9 => KK X B L 2 0 0 r9 26 [] []) (fun r9 h => ?_) (fun h => ?_)
  · obtain ⟨M8, rfl⟩ : ∃ z, z = r9 := ⟨_, rfl⟩
    show KK X B L 2 0 0 M8 26 [] []
    exact (kOk_s h) _ _ _ _ rfl rfl (dc d_Mo_putBack 15 rfl)
  · refine k_sub [1, 0] rfl ?_
    refine kLp_ok (P := fun s10 => KK X B L 2 0 0 s10.2 2 [(0, .ref (B.1 + u)), (1, .int s10.1)] []) (fun s10 h => ?_) kFU _ h
    obtain ⟨v1_1, M2⟩ := s10
    unfold m_Mo_putBack_l2 at h
    show KK X B L 2 0 0 M2 2 [(0, .ref (B.1 + u)), (1, .int v1_1)] []
    refine k_iload_n G (dc d_Mo_putBack 2 rfl) 1 rfl rfl ?_
    refine k_bipush G (dc d_Mo_putBack 3 rfl) cB_108 ?_
    refine k_icmp_ge G (dc d_Mo_putBack 4 rfl) (tgt := 26) rfl (fun c3 => ?_) (fun c3 => ?_)
    · replace h := kOk_p c3 h
      refine k_sub [] rfl ?_
      have h9 := kOk_s h
      exact h9
    · replace h := kOk_n c3 h
      refine k_aload_n G (dc d_Mo_putBack 5 rfl) 0 rfl rfl ?_
      refine k_getR G kc8 (dc d_Mo_putBack 6 rfl) (okL_lt hu (o := 0) 0 rfl) (okL_k hu (o := 0) 0 rfl) 1 (by decide) rfl fl_RX11_7 (u + 1) (okL_r hu (o := 0) (c := 1) 0 rfl 0 rfl) ?_
      refine k_iload_n G (dc d_Mo_putBack 7 rfl) 1 rfl rfl ?_
      refine k_aload_n G (dc d_Mo_putBack 8 rfl) 0 rfl rfl ?_
      refine k_getR G kc8 (dc d_Mo_putBack 9 rfl) (okL_lt hu (o := 0) 0 rfl) (okL_k hu (o := 0) 0 rfl) 2 (by decide) rfl fl_RX11_13 (u + 2) (okL_r hu (o := 0) (c := 2) 0 rfl 1 rfl) ?_
      refine k_iload_n G (dc d_Mo_putBack 10 rfl) 1 rfl rfl ?_
      obtain ⟨x5, e4, h⟩ := kOk_b h
      refine k_ild G (dc d_Mo_putBack 11 rfl) (okL_lt hu (o := 2) 2 rfl) (okL_k hu (o := 2) 2 rfl) (okL_n hu (o := 2) 2 rfl) e4 ?_
      obtain ⟨M7, e6, h⟩ := kOk_b h
      refine k_ist G (dc d_Mo_putBack 12 rfl) (okL_lt hu (o := 1) 1 rfl) (okL_k hu (o := 1) 1 rfl) (okL_n hu (o := 1) 1 rfl) e6 ?_
      refine k_iinc G (dc d_Mo_putBack 13 rfl) (ls' := [(1, .int (v1_1 + 1)), (0, .ref (B.1 + u))]) 1 rfl cI_1 rfl rfl ?_
      refine k_goto G (dc d_Mo_putBack 14 rfl) (tgt := 2) rfl ?_
      refine k_sub [1, 0] rfl ?_
      have h9 := kOk_s h
      exact h9
theorem c_Mo_putBack {l : Launch} {B : KB} {L : KLay} {M : KMem} {u : Nat} (hst : l.stackTraces = false) (hu : okL L u moT) {M' : KMem} (e : m_Mo_putBack u M = some M') : CtrN l B yX11_putBack cX11_putBack 2 none rm_Mo_putBack [.ref (B.1 + u)] L M none L M' :=
  mk_V rfl hst rfl (fun X hl G _ R => b_Mo_putBack G hu ⟨_, e, R⟩)
def I_Mo_lettersOf : List (Nat × Instr × Nat) := [(0, .iconst 0, 1), (1, .istore_n 1, 1), (2, .iload_n 0, 1), (3, .istore_n 2, 1), (4, .iload_n 2, 1), (5, .ifCond .le 14, 3), (8, .iinc 1 1, 3), (11, .iload_n 2, 1), (12, .bipush 10, 2), (14, .idiv, 1), (15, .istore_n 2, 1), (16, .goto (-12), 3), (19, .iload_n 1, 1), (20, .ireturn, 1)]
set_option maxRecDepth 100000 in
theorem d_Mo_lettersOf : decA cX11_lettersOf I_Mo_lettersOf = true := by decide +kernel
abbrev rm_Mo_lettersOf : Room := ({ frames := 0, cells := 0, slots := 0, locals := 0 } : Room)
def m_Mo_lettersOf_l4  : (Int32 × Int32) → Option ((Int32 × Int32) ⊕ Int32) := fun (v1_1, v2_2) =>
 if v2_2 ≤ 0 then
 (some (.inr v1_1))
 else
 (some (.inl (v1_1 + 1, v2_2 / 10)))
def m_Mo_lettersOf (p0 : Int32) : Option Int32 :=
 Option.bind (α := Int32) (kLp m_Mo_lettersOf_l4 kFU (0, p0)) fun v1_4 =>
 some v1_4
set_option maxHeartbeats 4000000 in
set_option maxRecDepth 100000 in
theorem b_Mo_lettersOf {X : KX} {B : KB} {L : KLay} {M : KMem} {p0 : Int32} (G : Good X B RX11 cX11_lettersOf 3 rm_Mo_lettersOf)  (h : kOk (m_Mo_lettersOf p0) (fun r => RI X B L 3 cX11_lettersOf .int rm_Mo_lettersOf r M)) : KK X B L 3 0 0 M 0 [(0, .int p0)] [] := by
  unfold m_Mo_lettersOf at h
  refine k_iconst G (dc d_Mo_lettersOf 0 rfl) cI_0 ?_
  refine k_istore_n G (dc d_Mo_lettersOf 1 rfl) (ls' := [(1, .int 0), (0, .int p0)]) rfl rfl rfl ?_
  refine k_iload_n G (dc d_Mo_lettersOf 2 rfl) 1 rfl rfl ?_
  refine k_istore_n G (dc d_Mo_lettersOf 3 rfl) (ls' := [(2, .int p0), (1, .int 0), (0, .int p0)]) rfl rfl rfl ?_
  refine kJ h (fun r5 => KK X B L 3 0 0 M 19 [(1, .int r5)] []) (fun r5 h => ?_) (fun h => ?_)
  · obtain ⟨v1_4, rfl⟩ : ∃ z, z = r5 := ⟨_, rfl⟩
    show KK X B L 3 0 0 M 19 [(1, .int v1_4)] []
    refine k_iload_n G (dc d_Mo_lettersOf 12 rfl) 0 rfl rfl ?_
    exact (kOk_s h) _ _ _ _ rfl rfl rfl (dc d_Mo_lettersOf 13 rfl)
  · refine k_sub [1, 0] rfl ?_
    refine kLp_ok (P := fun s6 => KK X B L 3 0 0 M 4 [(1, .int s6.1), (2, .int s6.2)] []) (fun s6 h => ?_) kFU _ h
    obtain ⟨v1_1, v2_2⟩ := s6
    unfold m_Mo_lettersOf_l4 at h
    show KK X B L 3 0 0 M 4 [(1, .int v1_1), (2, .int v2_2)] []
    refine k_iload_n G (dc d_Mo_lettersOf 4 rfl) 1 rfl rfl ?_
    refine k_if_le G (dc d_Mo_lettersOf 5 rfl) (tgt := 19) rfl (fun c3 => ?_) (fun c3 => ?_)
    · replace h := kOk_p c3 h
      refine k_sub [0] rfl ?_
      have h9 := kOk_s h
      exact h9
    · replace h := kOk_n c3 h
      refine k_iinc G (dc d_Mo_lettersOf 6 rfl) (ls' := [(1, .int (v1_1 + 1)), (2, .int v2_2)]) 0 rfl cI_1 rfl rfl ?_
      refine k_iload_n G (dc d_Mo_lettersOf 7 rfl) 1 rfl rfl ?_
      refine k_bipush G (dc d_Mo_lettersOf 8 rfl) cB_10 ?_
      refine k_idiv G (dc d_Mo_lettersOf 9 rfl) czI_10 ?_
      refine k_istore_n G (dc d_Mo_lettersOf 10 rfl) (ls' := [(2, .int (v2_2 / 10)), (1, .int (v1_1 + 1))]) rfl rfl rfl ?_
      refine k_goto G (dc d_Mo_lettersOf 11 rfl) (tgt := 4) rfl ?_
      refine k_sub [1, 0] rfl ?_
      have h9 := kOk_s h
      exact h9
theorem c_Mo_lettersOf {l : Launch} {B : KB} {L : KLay} {M : KMem} {p0 : Int32} (hst : l.stackTraces = false)  {r : Int32} (e : m_Mo_lettersOf p0 = some r) : CtrN l B yX11_lettersOf cX11_lettersOf 3 (some .int) rm_Mo_lettersOf [.int p0] L M (some (.int r)) L M :=
  mk_I rfl hst rfl (fun X hl G _ R => b_Mo_lettersOf G  ⟨_, e, R⟩)
def I_Mo_letterAt : List (Nat × Instr × Nat) := [(0, .iload_n 0, 1), (1, .istore_n 2, 1), (2, .iload_n 0, 1), (3, .invokestatic 53, 3), (6, .iconst 1, 1), (7, .isub, 1), (8, .istore_n 3, 1), (9, .iload_n 3, 1), (10, .iload_n 1, 1), (11, .if_icmp .le 14, 3), (14, .iload_n 2, 1), (15, .bipush 10, 2), (17, .idiv, 1), (18, .istore_n 2, 1), (19, .iinc 3 (-1), 3), (22, .goto (-13), 3), (25, .iload_n 1, 1), (26, .iload_n 0, 1), (27, .invokestatic 53, 3), (30, .if_icmp .ge 10, 3), (33, .iload_n 2, 1), (34, .bipush 10, 2), (36, .irem, 1), (37, .goto 4, 3), (40, .iconst 0, 1), (41, .ireturn, 1)]
set_option maxRecDepth 100000 in
theorem d_Mo_letterAt : decA cX11_letterAt I_Mo_letterAt = true := by decide +kernel
abbrev rm_Mo_letterAt : Room := ({ frames := 1, cells := 0, slots := 0, locals := 22 } : Room)
def m_Mo_letterAt_l9 (p1 : Int32) : (Int32 × Int32) → Option ((Int32 × Int32) ⊕ Int32) := fun (v2_3, v3_4) =>
 if v3_4 ≤ p1 then
 (some (.inr v2_3))
 else
 (some (.inl (v2_3 / 10, v3_4 + (-1))))
def m_Mo_letterAt (p0 : Int32) (p1 : Int32) : Option Int32 :=
 Option.bind (m_Mo_lettersOf p0) fun x2 =>
 Option.bind (α := Int32) (kLp (m_Mo_letterAt_l9 p1) kFU (p0, x2 - 1)) fun v2_6 =>
 Option.bind (m_Mo_lettersOf p0) fun x8 =>
 Option.bind (α := Int32) (if x8 ≤ p1 then
 (some 0)
 else
 (some (jrem v2_6 10))) fun t9 =>
 some t9
set_option maxHeartbeats 4000000 in
set_option maxRecDepth 100000 in
theorem b_Mo_letterAt {X : KX} {B : KB} {L : KLay} {M : KMem} {p0 : Int32} {p1 : Int32} (G : Good X B RX11 cX11_letterAt 4 rm_Mo_letterAt)  (h : kOk (m_Mo_letterAt p0 p1) (fun r => RI X B L 4 cX11_letterAt .int rm_Mo_letterAt r M)) : KK X B L 4 0 0 M 0 [(0, .int p0), (1, .int p1)] [] := by
  unfold m_Mo_letterAt at h
  refine k_iload_n G (dc d_Mo_letterAt 0 rfl) 0 rfl rfl ?_
  refine k_istore_n G (dc d_Mo_letterAt 1 rfl) (ls' := [(2, .int p0), (0, .int p0), (1, .int p1)]) rfl rfl rfl ?_
  refine k_iload_n G (dc d_Mo_letterAt 2 rfl) 1 rfl rfl ?_
  obtain ⟨x2, e1, h⟩ := kOk_b h
  refine k_cSI G (dc d_Mo_letterAt 3 rfl) mi_Mo_lettersOf ms_Mo_lettersOf ml_RX11_53 (c_Mo_lettersOf (gst G)  e1) rfl rfl ⟨rfl, rfl⟩ rfl ⟨rfl, rfl⟩ ⟨rfl, rfl⟩ ?_
  refine k_iconst G (dc d_Mo_letterAt 4 rfl) cI_1 ?_
  refine k_isub G (dc d_Mo_letterAt 5 rfl) ?_
  refine k_istore_n G (dc d_Mo_letterAt 6 rfl) (ls' := [(3, .int (x2 - 1)), (2, .int p0), (0, .int p0), (1, .int p1)]) rfl rfl rfl ?_
  refine kJ h (fun r12 => KK X B L 4 0 0 M 25 [(0, .int p0), (1, .int p1), (2, .int r12)] []) (fun r12 h => ?_) (fun h => ?_)
  · obtain ⟨v2_6, rfl⟩ : ∃ z, z = r12 := ⟨_, rfl⟩
    show KK X B L 4 0 0 M 25 [(0, .int p0), (1, .int p1), (2, .int v2_6)] []
    refine k_iload_n G (dc d_Mo_letterAt 16 rfl) 1 rfl rfl ?_
    refine k_iload_n G (dc d_Mo_letterAt 17 rfl) 0 rfl rfl ?_
    obtain ⟨x8, e7, h⟩ := kOk_b h
    refine k_cSI G (dc d_Mo_letterAt 18 rfl) mi_Mo_lettersOf ms_Mo_lettersOf ml_RX11_53 (c_Mo_lettersOf (gst G)  e7) rfl rfl ⟨rfl, rfl⟩ rfl ⟨rfl, rfl⟩ ⟨rfl, rfl⟩ ?_
    refine kJ h (fun r10 => KK X B L 4 0 0 M 41 [] [.int r10]) (fun r10 h => ?_) (fun h => ?_)
    · obtain ⟨t9, rfl⟩ : ∃ z, z = r10 := ⟨_, rfl⟩
      show KK X B L 4 0 0 M 41 [] [.int t9]
      exact (kOk_s h) _ _ _ _ rfl rfl rfl (dc d_Mo_letterAt 25 rfl)
    · refine k_icmp_ge G (dc d_Mo_letterAt 19 rfl) (tgt := 40) rfl (fun c11 => ?_) (fun c11 => ?_)
      · replace h := kOk_p c11 h
        refine k_iconst G (dc d_Mo_letterAt 24 rfl) cI_0 ?_
        refine k_sub [] rfl ?_
        have h9 := kOk_s h
        exact h9
      · replace h := kOk_n c11 h
        refine k_iload_n G (dc d_Mo_letterAt 20 rfl) 2 rfl rfl ?_
        refine k_bipush G (dc d_Mo_letterAt 21 rfl) cB_10 ?_
        refine k_irem G (dc d_Mo_letterAt 22 rfl) czI_10 ?_
        refine k_goto G (dc d_Mo_letterAt 23 rfl) (tgt := 41) rfl ?_
        refine k_sub [] rfl ?_
        have h9 := kOk_s h
        exact h9
  · refine k_sub [2, 3, 1, 0] rfl ?_
    refine kLp_ok (P := fun s13 => KK X B L 4 0 0 M 9 [(0, .int p0), (1, .int p1), (2, .int s13.1), (3, .int s13.2)] []) (fun s13 h => ?_) kFU _ h
    obtain ⟨v2_3, v3_4⟩ := s13
    unfold m_Mo_letterAt_l9 at h
    show KK X B L 4 0 0 M 9 [(0, .int p0), (1, .int p1), (2, .int v2_3), (3, .int v3_4)] []
    refine k_iload_n G (dc d_Mo_letterAt 7 rfl) 3 rfl rfl ?_
    refine k_iload_n G (dc d_Mo_letterAt 8 rfl) 1 rfl rfl ?_
    refine k_icmp_le G (dc d_Mo_letterAt 9 rfl) (tgt := 25) rfl (fun c5 => ?_) (fun c5 => ?_)
    · replace h := kOk_p c5 h
      refine k_sub [0, 1, 2] rfl ?_
      have h9 := kOk_s h
      exact h9
    · replace h := kOk_n c5 h
      refine k_iload_n G (dc d_Mo_letterAt 10 rfl) 2 rfl rfl ?_
      refine k_bipush G (dc d_Mo_letterAt 11 rfl) cB_10 ?_
      refine k_idiv G (dc d_Mo_letterAt 12 rfl) czI_10 ?_
      refine k_istore_n G (dc d_Mo_letterAt 13 rfl) (ls' := [(2, .int (v2_3 / 10)), (0, .int p0), (1, .int p1), (3, .int v3_4)]) rfl rfl rfl ?_
      refine k_iinc G (dc d_Mo_letterAt 14 rfl) (ls' := [(3, .int (v3_4 + (-1))), (2, .int (v2_3 / 10)), (0, .int p0), (1, .int p1)]) 3 rfl cI_m1 rfl rfl ?_
      refine k_goto G (dc d_Mo_letterAt 15 rfl) (tgt := 9) rfl ?_
      refine k_sub [2, 3, 1, 0] rfl ?_
      have h9 := kOk_s h
      exact h9
theorem c_Mo_letterAt {l : Launch} {B : KB} {L : KLay} {M : KMem} {p0 : Int32} {p1 : Int32} (hst : l.stackTraces = false)  {r : Int32} (e : m_Mo_letterAt p0 p1 = some r) : CtrN l B yX11_letterAt cX11_letterAt 4 (some .int) rm_Mo_letterAt [.int p0, .int p1] L M (some (.int r)) L M :=
  mk_I rfl hst rfl (fun X hl G _ R => b_Mo_letterAt G  ⟨_, e, R⟩)
def I_Mo_made : List (Nat × Instr × Nat) := [(0, .aload_n 0, 1), (1, .getfield 7, 3), (4, .iload_n 1, 1), (5, .iconst 0, 1), (6, .invokestatic 57, 3), (9, .iaload, 1), (10, .istore_n 3, 1), (11, .aload_n 0, 1), (12, .getfield 7, 3), (15, .iload_n 1, 1), (16, .iconst 1, 1), (17, .invokestatic 57, 3), (20, .iaload, 1), (21, .istore 4, 2), (23, .aload_n 0, 1), (24, .getfield 7, 3), (27, .iload_n 1, 1), (28, .iconst 2, 1), (29, .invokestatic 57, 3), (32, .iaload, 1), (33, .istore 5, 2), (35, .aload_n 0, 1), (36, .getfield 7, 3), (39, .iload_n 1, 1), (40, .iconst 3, 1), (41, .invokestatic 57, 3), (44, .iaload, 1), (45, .istore 6, 2), (47, .iload_n 2, 1), (48, .invokestatic 53, 3), (51, .istore 7, 2), (53, .iconst 0, 1), (54, .istore 8, 2), (56, .iconst 0, 1), (57, .istore 9, 2), (59, .iload 9, 2), (61, .iload 7, 2), (63, .if_icmp .ge 131, 3), (66, .iload_n 2, 1), (67, .iload 9, 2), (69, .invokestatic 61, 3), (72, .istore 10, 2), (74, .iload_n 2, 1), (75, .iload 9, 2), (77, .iconst 1, 1), (78, .iadd, 1), (79, .invokestatic 61, 3), (82, .istore 11, 2), (84, .iload_n 3, 1), (85, .iconst 1, 1), (86, .if_icmp .ne 21, 3), (89, .iload 10, 2), (91, .iload 4, 2), (93, .if_icmp .ne 14, 3), (96, .iload 11, 2), (98, .iload 5, 2), (100, .if_icmp .ne 7, 3), (103, .iconst 1, 1), (104, .goto 4, 3), (107, .iconst 0, 1), (108, .istore 12, 2), (110, .iload 10, 2), (112, .iload 4, 2), (114, .if_icmp .ne 23, 3), (117, .iload_n 3, 1), (118, .ifCond .eq 15, 3), (121, .iload_n 3, 1), (122, .iconst 2, 1), (123, .if_icmp .ne 14, 3), (126, .iload 11, 2), (128, .iload 4, 2), (130, .if_icmp .ne 7, 3), (133, .iconst 1, 1), (134, .goto 4, 3), (137, .iconst 0, 1), (138, .istore 13, 2), (140, .iload 12, 2), (142, .ifCond .eq 14, 3), (145, .bipush 10, 2), (147, .iload 8, 2), (149, .imul, 1), (150, .iload 6, 2), (152, .iadd, 1), (153, .goto 21, 3), (156, .iload 13, 2), (158, .ifCond .eq 8, 3), (161, .iload 8, 2), (163, .goto 11, 3), (166, .bipush 10, 2), (168, .iload 8, 2), (170, .imul, 1), (171, .iload 10, 2), (173, .iadd, 1), (174, .istore 8, 2), (176, .iload 9, 2), (178, .iload 12, 2), (180, .ifCond .eq 7, 3), (183, .iconst 2, 1), (184, .goto 4, 3), (187, .iconst 1, 1), (188, .iadd, 1), (189, .istore 9, 2), (191, .goto (-132), 3), (194, .iload 8, 2), (196, .ireturn, 1)]
set_option maxRecDepth 100000 in
theorem d_Mo_made : decA cX11_made I_Mo_made = true := by decide +kernel
abbrev rm_Mo_made : Room := ({ frames := 2, cells := 0, slots := 0, locals := 45 } : Room)
def m_Mo_made_l59 (p1 : Int32) (x4 : Int32) (x8 : Int32) (x12 : Int32) (x16 : Int32) (x18 : Int32) : (Int32 × Int32) → Option ((Int32 × Int32) ⊕ Int32) := fun (v8_19, v9_20) =>
 if x18 ≤ v9_20 then
 (some (.inr v8_19))
 else
 (Option.bind (m_Mo_letterAt p1 v9_20) fun x23 =>
 Option.bind (m_Mo_letterAt p1 (v9_20 + 1)) fun x25 =>
 Option.bind (α := Int32) (if x4 = 1 then
 (if x23 = x8 then
 (if x25 = x12 then
 (some 1)
 else
 (some 0))
 else
 (some 0))
 else
 (some 0)) fun t26 =>
 Option.bind (α := Int32) (if x23 = x8 then
 (if x4 = 0 then
 (some 1)
 else
 (if x4 = 2 then
 (if x25 = x8 then
 (some 1)
 else
 (some 0))
 else
 (some 0)))
 else
 (some 0)) fun t28 =>
 Option.bind (α := Int32) (if t26 = 0 then
 (if t28 = 0 then
 (some ((10 * v8_19) + x23))
 else
 (some v8_19))
 else
 (some ((10 * v8_19) + x16))) fun t30 =>
 Option.bind (α := Int32) (if t26 = 0 then
 (some 1)
 else
 (some 2)) fun t32 =>
 some (.inl (t30, v9_20 + t32)))
def m_Mo_made (u : Nat) (p0 : Int32) (p1 : Int32) (M : KMem) : Option Int32 :=
 Option.bind (m_Mo_ofDecree p0 0) fun x2 =>
 Option.bind (rdI M (u + 1) 108 x2) fun x4 =>
 Option.bind (m_Mo_ofDecree p0 1) fun x6 =>
 Option.bind (rdI M (u + 1) 108 x6) fun x8 =>
 Option.bind (m_Mo_ofDecree p0 2) fun x10 =>
 Option.bind (rdI M (u + 1) 108 x10) fun x12 =>
 Option.bind (m_Mo_ofDecree p0 3) fun x14 =>
 Option.bind (rdI M (u + 1) 108 x14) fun x16 =>
 Option.bind (m_Mo_lettersOf p1) fun x18 =>
 Option.bind (α := Int32) (kLp (m_Mo_made_l59 p1 x4 x8 x12 x16 x18) kFU (0, 0)) fun v8_44 =>
 some v8_44
set_option maxHeartbeats 4000000 in
set_option maxRecDepth 100000 in
theorem b_Mo_made {X : KX} {B : KB} {L : KLay} {M : KMem} {u : Nat} {p0 : Int32} {p1 : Int32} (G : Good X B RX11 cX11_made 14 rm_Mo_made) (hu : okL L u moT) (h : kOk (m_Mo_made u p0 p1 M) (fun r => RI X B L 14 cX11_made .int rm_Mo_made r M)) : KK X B L 14 0 0 M 0 [(0, .ref (B.1 + u)), (1, .int p0), (2, .int p1)] [] := by
  unfold m_Mo_made at h
  refine k_aload_n G (dc d_Mo_made 0 rfl) 0 rfl rfl ?_
  refine k_getR G kc8 (dc d_Mo_made 1 rfl) (okL_lt hu (o := 0) 0 rfl) (okL_k hu (o := 0) 0 rfl) 1 (by decide) rfl fl_RX11_7 (u + 1) (okL_r hu (o := 0) (c := 1) 0 rfl 0 rfl) ?_
  refine k_iload_n G (dc d_Mo_made 2 rfl) 1 rfl rfl ?_
  refine k_iconst G (dc d_Mo_made 3 rfl) cI_0 ?_
  obtain ⟨x2, e1, h⟩ := kOk_b h
  refine k_cSI G (dc d_Mo_made 4 rfl) mi_Mo_ofDecree ms_Mo_ofDecree ml_RX11_57 (c_Mo_ofDecree (gst G)  e1) rfl rfl ⟨rfl, rfl⟩ rfl ⟨rfl, rfl⟩ ⟨rfl, rfl⟩ ?_
  obtain ⟨x4, e3, h⟩ := kOk_b h
  refine k_ild G (dc d_Mo_made 5 rfl) (okL_lt hu (o := 1) 1 rfl) (okL_k hu (o := 1) 1 rfl) (okL_n hu (o := 1) 1 rfl) e3 ?_
  refine k_istore_n G (dc d_Mo_made 6 rfl) (ls' := [(3, .int x4), (0, .ref (B.1 + u)), (1, .int p0), (2, .int p1)]) rfl rfl rfl ?_
  refine k_aload_n G (dc d_Mo_made 7 rfl) 1 rfl rfl ?_
  refine k_getR G kc8 (dc d_Mo_made 8 rfl) (okL_lt hu (o := 0) 0 rfl) (okL_k hu (o := 0) 0 rfl) 1 (by decide) rfl fl_RX11_7 (u + 1) (okL_r hu (o := 0) (c := 1) 0 rfl 0 rfl) ?_
  refine k_iload_n G (dc d_Mo_made 9 rfl) 2 rfl rfl ?_
  refine k_iconst G (dc d_Mo_made 10 rfl) cI_1 ?_
  obtain ⟨x6, e5, h⟩ := kOk_b h
  refine k_cSI G (dc d_Mo_made 11 rfl) mi_Mo_ofDecree ms_Mo_ofDecree ml_RX11_57 (c_Mo_ofDecree (gst G)  e5) rfl rfl ⟨rfl, rfl⟩ rfl ⟨rfl, rfl⟩ ⟨rfl, rfl⟩ ?_
  obtain ⟨x8, e7, h⟩ := kOk_b h
  refine k_ild G (dc d_Mo_made 12 rfl) (okL_lt hu (o := 1) 1 rfl) (okL_k hu (o := 1) 1 rfl) (okL_n hu (o := 1) 1 rfl) e7 ?_
  refine k_istore G (dc d_Mo_made 13 rfl) (ls' := [(4, .int x8), (3, .int x4), (0, .ref (B.1 + u)), (1, .int p0), (2, .int p1)]) rfl rfl ?_
  refine k_aload_n G (dc d_Mo_made 14 rfl) 2 rfl rfl ?_
  refine k_getR G kc8 (dc d_Mo_made 15 rfl) (okL_lt hu (o := 0) 0 rfl) (okL_k hu (o := 0) 0 rfl) 1 (by decide) rfl fl_RX11_7 (u + 1) (okL_r hu (o := 0) (c := 1) 0 rfl 0 rfl) ?_
  refine k_iload_n G (dc d_Mo_made 16 rfl) 3 rfl rfl ?_
  refine k_iconst G (dc d_Mo_made 17 rfl) cI_2 ?_
  obtain ⟨x10, e9, h⟩ := kOk_b h
  refine k_cSI G (dc d_Mo_made 18 rfl) mi_Mo_ofDecree ms_Mo_ofDecree ml_RX11_57 (c_Mo_ofDecree (gst G)  e9) rfl rfl ⟨rfl, rfl⟩ rfl ⟨rfl, rfl⟩ ⟨rfl, rfl⟩ ?_
  obtain ⟨x12, e11, h⟩ := kOk_b h
  refine k_ild G (dc d_Mo_made 19 rfl) (okL_lt hu (o := 1) 1 rfl) (okL_k hu (o := 1) 1 rfl) (okL_n hu (o := 1) 1 rfl) e11 ?_
  refine k_istore G (dc d_Mo_made 20 rfl) (ls' := [(5, .int x12), (4, .int x8), (3, .int x4), (0, .ref (B.1 + u)), (1, .int p0), (2, .int p1)]) rfl rfl ?_
  refine k_aload_n G (dc d_Mo_made 21 rfl) 3 rfl rfl ?_
  refine k_getR G kc8 (dc d_Mo_made 22 rfl) (okL_lt hu (o := 0) 0 rfl) (okL_k hu (o := 0) 0 rfl) 1 (by decide) rfl fl_RX11_7 (u + 1) (okL_r hu (o := 0) (c := 1) 0 rfl 0 rfl) ?_
  refine k_iload_n G (dc d_Mo_made 23 rfl) 4 rfl rfl ?_
  refine k_iconst G (dc d_Mo_made 24 rfl) cI_3 ?_
  obtain ⟨x14, e13, h⟩ := kOk_b h
  refine k_cSI G (dc d_Mo_made 25 rfl) mi_Mo_ofDecree ms_Mo_ofDecree ml_RX11_57 (c_Mo_ofDecree (gst G)  e13) rfl rfl ⟨rfl, rfl⟩ rfl ⟨rfl, rfl⟩ ⟨rfl, rfl⟩ ?_
  obtain ⟨x16, e15, h⟩ := kOk_b h
  refine k_ild G (dc d_Mo_made 26 rfl) (okL_lt hu (o := 1) 1 rfl) (okL_k hu (o := 1) 1 rfl) (okL_n hu (o := 1) 1 rfl) e15 ?_
  refine k_istore G (dc d_Mo_made 27 rfl) (ls' := [(6, .int x16), (5, .int x12), (4, .int x8), (3, .int x4), (0, .ref (B.1 + u)), (1, .int p0), (2, .int p1)]) rfl rfl ?_
  refine k_iload_n G (dc d_Mo_made 28 rfl) 6 rfl rfl ?_
  obtain ⟨x18, e17, h⟩ := kOk_b h
  refine k_cSI G (dc d_Mo_made 29 rfl) mi_Mo_lettersOf ms_Mo_lettersOf ml_RX11_53 (c_Mo_lettersOf (gst G)  e17) rfl rfl ⟨rfl, rfl⟩ rfl ⟨rfl, rfl⟩ ⟨rfl, rfl⟩ ?_
  refine k_istore G (dc d_Mo_made 30 rfl) (ls' := [(7, .int x18), (6, .int x16), (5, .int x12), (4, .int x8), (3, .int x4), (0, .ref (B.1 + u)), (1, .int p0), (2, .int p1)]) rfl rfl ?_
  refine k_iconst G (dc d_Mo_made 31 rfl) cI_0 ?_
  refine k_istore G (dc d_Mo_made 32 rfl) (ls' := [(8, .int 0), (7, .int x18), (6, .int x16), (5, .int x12), (4, .int x8), (3, .int x4), (0, .ref (B.1 + u)), (1, .int p0), (2, .int p1)]) rfl rfl ?_
  refine k_iconst G (dc d_Mo_made 33 rfl) cI_0 ?_
  refine k_istore G (dc d_Mo_made 34 rfl) (ls' := [(9, .int 0), (8, .int 0), (7, .int x18), (6, .int x16), (5, .int x12), (4, .int x8), (3, .int x4), (0, .ref (B.1 + u)), (1, .int p0), (2, .int p1)]) rfl rfl ?_
  refine kJ h (fun r45 => KK X B L 14 0 0 M 194 [(8, .int r45)] []) (fun r45 h => ?_) (fun h => ?_)
  · obtain ⟨v8_44, rfl⟩ : ∃ z, z = r45 := ⟨_, rfl⟩
    show KK X B L 14 0 0 M 194 [(8, .int v8_44)] []
    refine k_iload G (dc d_Mo_made 103 rfl) 0 rfl ?_
    exact (kOk_s h) _ _ _ _ rfl rfl rfl (dc d_Mo_made 104 rfl)
  · refine k_sub [9, 6, 5, 4, 3, 2, 1, 0] rfl ?_
    refine kLp_ok (P := fun s46 => KK X B L 14 0 0 M 59 [(2, .int p1), (3, .int x4), (4, .int x8), (5, .int x12), (6, .int x16), (7, .int x18), (8, .int s46.1), (9, .int s46.2)] []) (fun s46 h => ?_) kFU _ h
    obtain ⟨v8_19, v9_20⟩ := s46
    unfold m_Mo_made_l59 at h
    show KK X B L 14 0 0 M 59 [(2, .int p1), (3, .int x4), (4, .int x8), (5, .int x12), (6, .int x16), (7, .int x18), (8, .int v8_19), (9, .int v9_20)] []
    refine k_iload G (dc d_Mo_made 35 rfl) 7 rfl ?_
    refine k_iload G (dc d_Mo_made 36 rfl) 5 rfl ?_
    refine k_icmp_ge G (dc d_Mo_made 37 rfl) (tgt := 194) rfl (fun c21 => ?_) (fun c21 => ?_)
    · replace h := kOk_p c21 h
      refine k_sub [6] rfl ?_
      have h9 := kOk_s h
      exact h9
    · replace h := kOk_n c21 h
      refine k_iload_n G (dc d_Mo_made 38 rfl) 0 rfl rfl ?_
      refine k_iload G (dc d_Mo_made 39 rfl) 7 rfl ?_
      obtain ⟨x23, e22, h⟩ := kOk_b h
      refine k_cSI G (dc d_Mo_made 40 rfl) mi_Mo_letterAt ms_Mo_letterAt ml_RX11_61 (c_Mo_letterAt (gst G)  e22) rfl rfl ⟨rfl, rfl⟩ rfl ⟨rfl, rfl⟩ ⟨rfl, rfl⟩ ?_
      refine k_istore G (dc d_Mo_made 41 rfl) (ls' := [(10, .int x23), (2, .int p1), (3, .int x4), (4, .int x8), (5, .int x12), (6, .int x16), (7, .int x18), (8, .int v8_19), (9, .int v9_20)]) rfl rfl ?_
      refine k_iload_n G (dc d_Mo_made 42 rfl) 1 rfl rfl ?_
      refine k_iload G (dc d_Mo_made 43 rfl) 8 rfl ?_
      refine k_iconst G (dc d_Mo_made 44 rfl) cI_1 ?_
      refine k_iadd G (dc d_Mo_made 45 rfl) ?_
      obtain ⟨x25, e24, h⟩ := kOk_b h
      refine k_cSI G (dc d_Mo_made 46 rfl) mi_Mo_letterAt ms_Mo_letterAt ml_RX11_61 (c_Mo_letterAt (gst G)  e24) rfl rfl ⟨rfl, rfl⟩ rfl ⟨rfl, rfl⟩ ⟨rfl, rfl⟩ ?_
      refine k_istore G (dc d_Mo_made 47 rfl) (ls' := [(11, .int x25), (10, .int x23), (2, .int p1), (3, .int x4), (4, .int x8), (5, .int x12), (6, .int x16), (7, .int x18), (8, .int v8_19), (9, .int v9_20)]) rfl rfl ?_
      refine k_iload_n G (dc d_Mo_made 48 rfl) 3 rfl rfl ?_
      refine k_iconst G (dc d_Mo_made 49 rfl) cI_1 ?_
      refine kJ h (fun r27 => KK X B L 14 0 0 M 108 [(2, .int p1), (3, .int x4), (4, .int x8), (5, .int x12), (6, .int x16), (7, .int x18), (8, .int v8_19), (9, .int v9_20), (10, .int x23), (11, .int x25)] [.int r27]) (fun r27 h => ?_) (fun h => ?_)
      · obtain ⟨t26, rfl⟩ : ∃ z, z = r27 := ⟨_, rfl⟩
        show KK X B L 14 0 0 M 108 [(2, .int p1), (3, .int x4), (4, .int x8), (5, .int x12), (6, .int x16), (7, .int x18), (8, .int v8_19), (9, .int v9_20), (10, .int x23), (11, .int x25)] [.int t26]
        refine k_istore G (dc d_Mo_made 60 rfl) (ls' := [(12, .int t26), (2, .int p1), (3, .int x4), (4, .int x8), (5, .int x12), (6, .int x16), (7, .int x18), (8, .int v8_19), (9, .int v9_20), (10, .int x23), (11, .int x25)]) rfl rfl ?_
        refine k_iload G (dc d_Mo_made 61 rfl) 9 rfl ?_
        refine k_iload G (dc d_Mo_made 62 rfl) 3 rfl ?_
        refine kJ h (fun r29 => KK X B L 14 0 0 M 138 [(2, .int p1), (3, .int x4), (4, .int x8), (5, .int x12), (6, .int x16), (7, .int x18), (8, .int v8_19), (9, .int v9_20), (10, .int x23), (12, .int t26)] [.int r29]) (fun r29 h => ?_) (fun h => ?_)
        · obtain ⟨t28, rfl⟩ : ∃ z, z = r29 := ⟨_, rfl⟩
          show KK X B L 14 0 0 M 138 [(2, .int p1), (3, .int x4), (4, .int x8), (5, .int x12), (6, .int x16), (7, .int x18), (8, .int v8_19), (9, .int v9_20), (10, .int x23), (12, .int t26)] [.int t28]
          refine k_istore G (dc d_Mo_made 75 rfl) (ls' := [(13, .int t28), (2, .int p1), (3, .int x4), (4, .int x8), (5, .int x12), (6, .int x16), (7, .int x18), (8, .int v8_19), (9, .int v9_20), (10, .int x23), (12, .int t26)]) rfl rfl ?_
          refine k_iload G (dc d_Mo_made 76 rfl) 10 rfl ?_
          refine kJ h (fun r31 => KK X B L 14 0 0 M 174 [(2, .int p1), (3, .int x4), (4, .int x8), (5, .int x12), (6, .int x16), (7, .int x18), (9, .int v9_20), (12, .int t26)] [.int r31]) (fun r31 h => ?_) (fun h => ?_)
          · obtain ⟨t30, rfl⟩ : ∃ z, z = r31 := ⟨_, rfl⟩
            show KK X B L 14 0 0 M 174 [(2, .int p1), (3, .int x4), (4, .int x8), (5, .int x12), (6, .int x16), (7, .int x18), (9, .int v9_20), (12, .int t26)] [.int t30]
            refine k_istore G (dc d_Mo_made 93 rfl) (ls' := [(8, .int t30), (2, .int p1), (3, .int x4), (4, .int x8), (5, .int x12), (6, .int x16), (7, .int x18), (9, .int v9_20), (12, .int t26)]) rfl rfl ?_
            refine k_iload G (dc d_Mo_made 94 rfl) 7 rfl ?_
            refine k_iload G (dc d_Mo_made 95 rfl) 8 rfl ?_
            refine kJ h (fun r33 => KK X B L 14 0 0 M 188 [(2, .int p1), (3, .int x4), (4, .int x8), (5, .int x12), (6, .int x16), (7, .int x18), (8, .int t30)] [.int r33, .int v9_20]) (fun r33 h => ?_) (fun h => ?_)
            · obtain ⟨t32, rfl⟩ : ∃ z, z = r33 := ⟨_, rfl⟩
              show KK X B L 14 0 0 M 188 [(2, .int p1), (3, .int x4), (4, .int x8), (5, .int x12), (6, .int x16), (7, .int x18), (8, .int t30)] [.int t32, .int v9_20]
              refine k_iadd G (dc d_Mo_made 100 rfl) ?_
              refine k_istore G (dc d_Mo_made 101 rfl) (ls' := [(9, .int (v9_20 + t32)), (2, .int p1), (3, .int x4), (4, .int x8), (5, .int x12), (6, .int x16), (7, .int x18), (8, .int t30)]) rfl rfl ?_
              refine k_goto G (dc d_Mo_made 102 rfl) (tgt := 59) rfl ?_
              refine k_sub [1, 2, 3, 4, 5, 6, 7, 0] rfl ?_
              have h9 := kOk_s h
              exact h9
            · refine k_if_eq G (dc d_Mo_made 96 rfl) (tgt := 187) rfl (fun c34 => ?_) (fun c34 => ?_)
              · replace h := kOk_p c34 h
                refine k_iconst G (dc d_Mo_made 99 rfl) cI_1 ?_
                refine k_sub [1, 2, 3, 4, 5, 6, 0] rfl ?_
                have h9 := kOk_s h
                exact h9
              · replace h := kOk_n c34 h
                refine k_iconst G (dc d_Mo_made 97 rfl) cI_2 ?_
                refine k_goto G (dc d_Mo_made 98 rfl) (tgt := 188) rfl ?_
                refine k_sub [1, 2, 3, 4, 5, 6, 0] rfl ?_
                have h9 := kOk_s h
                exact h9
          · refine k_if_eq G (dc d_Mo_made 77 rfl) (tgt := 156) rfl (fun c35 => ?_) (fun c35 => ?_)
            · replace h := kOk_p c35 h
              refine k_iload G (dc d_Mo_made 84 rfl) 0 rfl ?_
              refine k_if_eq G (dc d_Mo_made 85 rfl) (tgt := 166) rfl (fun c36 => ?_) (fun c36 => ?_)
              · replace h := kOk_p c36 h
                refine k_bipush G (dc d_Mo_made 88 rfl) cB_10 ?_
                refine k_iload G (dc d_Mo_made 89 rfl) 7 rfl ?_
                refine k_imul G (dc d_Mo_made 90 rfl) ?_
                refine k_iload G (dc d_Mo_made 91 rfl) 9 rfl ?_
                refine k_iadd G (dc d_Mo_made 92 rfl) ?_
                refine k_sub [1, 2, 3, 4, 5, 6, 8, 10] rfl ?_
                have h9 := kOk_s h
                exact h9
              · replace h := kOk_n c36 h
                refine k_iload G (dc d_Mo_made 86 rfl) 7 rfl ?_
                refine k_goto G (dc d_Mo_made 87 rfl) (tgt := 174) rfl ?_
                refine k_sub [1, 2, 3, 4, 5, 6, 8, 10] rfl ?_
                have h9 := kOk_s h
                exact h9
            · replace h := kOk_n c35 h
              refine k_bipush G (dc d_Mo_made 78 rfl) cB_10 ?_
              refine k_iload G (dc d_Mo_made 79 rfl) 7 rfl ?_
              refine k_imul G (dc d_Mo_made 80 rfl) ?_
              refine k_iload G (dc d_Mo_made 81 rfl) 5 rfl ?_
              refine k_iadd G (dc d_Mo_made 82 rfl) ?_
              refine k_goto G (dc d_Mo_made 83 rfl) (tgt := 174) rfl ?_
              refine k_sub [1, 2, 3, 4, 5, 6, 8, 10] rfl ?_
              have h9 := kOk_s h
              exact h9
        · refine k_icmp_ne G (dc d_Mo_made 63 rfl) (tgt := 137) rfl (fun c37 => ?_) (fun c37 => ?_)
          · replace h := kOk_n c37 h
            refine k_iconst G (dc d_Mo_made 74 rfl) cI_0 ?_
            refine k_sub [1, 2, 3, 4, 5, 6, 7, 8, 9, 0] rfl ?_
            have h9 := kOk_s h
            exact h9
          · replace h := kOk_p c37 h
            refine k_iload_n G (dc d_Mo_made 64 rfl) 2 rfl rfl ?_
            refine k_if_eq G (dc d_Mo_made 65 rfl) (tgt := 133) rfl (fun c38 => ?_) (fun c38 => ?_)
            · replace h := kOk_p c38 h
              refine k_iconst G (dc d_Mo_made 72 rfl) cI_1 ?_
              refine k_goto G (dc d_Mo_made 73 rfl) (tgt := 138) rfl ?_
              refine k_sub [1, 2, 3, 4, 5, 6, 7, 8, 9, 0] rfl ?_
              have h9 := kOk_s h
              exact h9
            · replace h := kOk_n c38 h
              refine k_iload_n G (dc d_Mo_made 66 rfl) 2 rfl rfl ?_
              refine k_iconst G (dc d_Mo_made 67 rfl) cI_2 ?_
              refine k_icmp_ne G (dc d_Mo_made 68 rfl) (tgt := 137) rfl (fun c39 => ?_) (fun c39 => ?_)
              · replace h := kOk_n c39 h
                refine k_iconst G (dc d_Mo_made 74 rfl) cI_0 ?_
                refine k_sub [1, 2, 3, 4, 5, 6, 7, 8, 9, 0] rfl ?_
                have h9 := kOk_s h
                exact h9
              · replace h := kOk_p c39 h
                refine k_iload G (dc d_Mo_made 69 rfl) 10 rfl ?_
                refine k_iload G (dc d_Mo_made 70 rfl) 3 rfl ?_
                refine k_icmp_ne G (dc d_Mo_made 71 rfl) (tgt := 137) rfl (fun c40 => ?_) (fun c40 => ?_)
                · replace h := kOk_n c40 h
                  refine k_iconst G (dc d_Mo_made 74 rfl) cI_0 ?_
                  refine k_sub [1, 2, 3, 4, 5, 6, 7, 8, 9, 0] rfl ?_
                  have h9 := kOk_s h
                  exact h9
                · replace h := kOk_p c40 h
                  refine k_iconst G (dc d_Mo_made 72 rfl) cI_1 ?_
                  refine k_goto G (dc d_Mo_made 73 rfl) (tgt := 138) rfl ?_
                  refine k_sub [1, 2, 3, 4, 5, 6, 7, 8, 9, 0] rfl ?_
                  have h9 := kOk_s h
                  exact h9
      · refine k_icmp_ne G (dc d_Mo_made 50 rfl) (tgt := 107) rfl (fun c41 => ?_) (fun c41 => ?_)
        · replace h := kOk_n c41 h
          refine k_iconst G (dc d_Mo_made 59 rfl) cI_0 ?_
          refine k_sub [2, 3, 4, 5, 6, 7, 8, 9, 1, 0] rfl ?_
          have h9 := kOk_s h
          exact h9
        · replace h := kOk_p c41 h
          refine k_iload G (dc d_Mo_made 51 rfl) 1 rfl ?_
          refine k_iload G (dc d_Mo_made 52 rfl) 4 rfl ?_
          refine k_icmp_ne G (dc d_Mo_made 53 rfl) (tgt := 107) rfl (fun c42 => ?_) (fun c42 => ?_)
          · replace h := kOk_n c42 h
            refine k_iconst G (dc d_Mo_made 59 rfl) cI_0 ?_
            refine k_sub [2, 3, 4, 5, 6, 7, 8, 9, 1, 0] rfl ?_
            have h9 := kOk_s h
            exact h9
          · replace h := kOk_p c42 h
            refine k_iload G (dc d_Mo_made 54 rfl) 0 rfl ?_
            refine k_iload G (dc d_Mo_made 55 rfl) 5 rfl ?_
            refine k_icmp_ne G (dc d_Mo_made 56 rfl) (tgt := 107) rfl (fun c43 => ?_) (fun c43 => ?_)
            · replace h := kOk_n c43 h
              refine k_iconst G (dc d_Mo_made 59 rfl) cI_0 ?_
              refine k_sub [2, 3, 4, 5, 6, 7, 8, 9, 1, 0] rfl ?_
              have h9 := kOk_s h
              exact h9
            · replace h := kOk_p c43 h
              refine k_iconst G (dc d_Mo_made 57 rfl) cI_1 ?_
              refine k_goto G (dc d_Mo_made 58 rfl) (tgt := 108) rfl ?_
              refine k_sub [2, 3, 4, 5, 6, 7, 8, 9, 1, 0] rfl ?_
              have h9 := kOk_s h
              exact h9
theorem c_Mo_made {l : Launch} {B : KB} {L : KLay} {M : KMem} {u : Nat} {p0 : Int32} {p1 : Int32} (hst : l.stackTraces = false) (hu : okL L u moT) {r : Int32} (e : m_Mo_made u p0 p1 M = some r) : CtrN l B yX11_made cX11_made 14 (some .int) rm_Mo_made [.ref (B.1 + u), .int p0, .int p1] L M (some (.int r)) L M :=
  mk_I rfl hst rfl (fun X hl G _ R => b_Mo_made G hu ⟨_, e, R⟩)
def I_Mo_spelled : List (Nat × Instr × Nat) := [(0, .iload_n 1, 1), (1, .istore_n 2, 1), (2, .iconst 0, 1), (3, .istore_n 3, 1), (4, .iload_n 3, 1), (5, .aload_n 0, 1), (6, .getfield 7, 3), (9, .bipush 41, 2), (11, .iaload, 1), (12, .if_icmp .ge 16, 3), (15, .aload_n 0, 1), (16, .iload_n 3, 1), (17, .iload_n 2, 1), (18, .invokevirtual 64, 3), (21, .istore_n 2, 1), (22, .iinc 3 1, 3), (25, .goto (-21), 3), (28, .iload_n 2, 1), (29, .ireturn, 1)]
set_option maxRecDepth 100000 in
theorem d_Mo_spelled : decA cX11_spelled I_Mo_spelled = true := by decide +kernel
abbrev rm_Mo_spelled : Room := ({ frames := 3, cells := 0, slots := 0, locals := 78 } : Room)
def m_Mo_spelled_l4 (u : Nat) (M : KMem) : (Int32 × Int32) → Option ((Int32 × Int32) ⊕ Int32) := fun (v2_1, v3_2) =>
 Option.bind (rdI M (u + 1) 108 41) fun x4 =>
 if x4 ≤ v3_2 then
 (some (.inr v2_1))
 else
 (Option.bind (m_Mo_made u v3_2 v2_1 M) fun x7 =>
 some (.inl (x7, v3_2 + 1)))
def m_Mo_spelled (u : Nat) (p0 : Int32) (M : KMem) : Option Int32 :=
 Option.bind (α := Int32) (kLp (m_Mo_spelled_l4 u M) kFU (p0, 0)) fun v2_8 =>
 some v2_8
set_option maxHeartbeats 4000000 in
set_option maxRecDepth 100000 in
theorem b_Mo_spelled {X : KX} {B : KB} {L : KLay} {M : KMem} {u : Nat} {p0 : Int32} (G : Good X B RX11 cX11_spelled 4 rm_Mo_spelled) (hu : okL L u moT) (h : kOk (m_Mo_spelled u p0 M) (fun r => RI X B L 4 cX11_spelled .int rm_Mo_spelled r M)) : KK X B L 4 0 0 M 0 [(0, .ref (B.1 + u)), (1, .int p0)] [] := by
  unfold m_Mo_spelled at h
  refine k_iload_n G (dc d_Mo_spelled 0 rfl) 1 rfl rfl ?_
  refine k_istore_n G (dc d_Mo_spelled 1 rfl) (ls' := [(2, .int p0), (0, .ref (B.1 + u)), (1, .int p0)]) rfl rfl rfl ?_
  refine k_iconst G (dc d_Mo_spelled 2 rfl) cI_0 ?_
  refine k_istore_n G (dc d_Mo_spelled 3 rfl) (ls' := [(3, .int 0), (2, .int p0), (0, .ref (B.1 + u)), (1, .int p0)]) rfl rfl rfl ?_
  refine kJ h (fun r9 => KK X B L 4 0 0 M 28 [(2, .int r9)] []) (fun r9 h => ?_) (fun h => ?_)
  · obtain ⟨v2_8, rfl⟩ : ∃ z, z = r9 := ⟨_, rfl⟩
    show KK X B L 4 0 0 M 28 [(2, .int v2_8)] []
    refine k_iload_n G (dc d_Mo_spelled 17 rfl) 0 rfl rfl ?_
    exact (kOk_s h) _ _ _ _ rfl rfl rfl (dc d_Mo_spelled 18 rfl)
  · refine k_sub [2, 1, 0] rfl ?_
    refine kLp_ok (P := fun s10 => KK X B L 4 0 0 M 4 [(0, .ref (B.1 + u)), (2, .int s10.1), (3, .int s10.2)] []) (fun s10 h => ?_) kFU _ h
    obtain ⟨v2_1, v3_2⟩ := s10
    unfold m_Mo_spelled_l4 at h
    show KK X B L 4 0 0 M 4 [(0, .ref (B.1 + u)), (2, .int v2_1), (3, .int v3_2)] []
    refine k_iload_n G (dc d_Mo_spelled 4 rfl) 2 rfl rfl ?_
    refine k_aload_n G (dc d_Mo_spelled 5 rfl) 0 rfl rfl ?_
    refine k_getR G kc8 (dc d_Mo_spelled 6 rfl) (okL_lt hu (o := 0) 0 rfl) (okL_k hu (o := 0) 0 rfl) 1 (by decide) rfl fl_RX11_7 (u + 1) (okL_r hu (o := 0) (c := 1) 0 rfl 0 rfl) ?_
    refine k_bipush G (dc d_Mo_spelled 7 rfl) cB_41 ?_
    obtain ⟨x4, e3, h⟩ := kOk_b h
    refine k_ild G (dc d_Mo_spelled 8 rfl) (okL_lt hu (o := 1) 1 rfl) (okL_k hu (o := 1) 1 rfl) (okL_n hu (o := 1) 1 rfl) e3 ?_
    refine k_icmp_ge G (dc d_Mo_spelled 9 rfl) (tgt := 28) rfl (fun c5 => ?_) (fun c5 => ?_)
    · replace h := kOk_p c5 h
      refine k_sub [1] rfl ?_
      have h9 := kOk_s h
      exact h9
    · replace h := kOk_n c5 h
      refine k_aload_n G (dc d_Mo_spelled 10 rfl) 0 rfl rfl ?_
      refine k_iload_n G (dc d_Mo_spelled 11 rfl) 2 rfl rfl ?_
      refine k_iload_n G (dc d_Mo_spelled 12 rfl) 1 rfl rfl ?_
      obtain ⟨x7, e6, h⟩ := kOk_b h
      refine k_cVI G (dc d_Mo_spelled 13 rfl) kc8 (okL_lt hu (o := 0) 0 rfl) (okL_k hu (o := 0) 0 rfl) mi_Mo_made mv_Mo_made rfl ml_RX11_64 (c_Mo_made (gst G) hu e6) rfl rfl ⟨rfl, rfl⟩ rfl ⟨rfl, rfl⟩ ⟨rfl, rfl⟩ ?_
      refine k_istore_n G (dc d_Mo_spelled 14 rfl) (ls' := [(2, .int x7), (0, .ref (B.1 + u)), (3, .int v3_2)]) rfl rfl rfl ?_
      refine k_iinc G (dc d_Mo_spelled 15 rfl) (ls' := [(3, .int (v3_2 + 1)), (2, .int x7), (0, .ref (B.1 + u))]) 2 rfl cI_1 rfl rfl ?_
      refine k_goto G (dc d_Mo_spelled 16 rfl) (tgt := 4) rfl ?_
      refine k_sub [2, 1, 0] rfl ?_
      have h9 := kOk_s h
      exact h9
theorem c_Mo_spelled {l : Launch} {B : KB} {L : KLay} {M : KMem} {u : Nat} {p0 : Int32} (hst : l.stackTraces = false) (hu : okL L u moT) {r : Int32} (e : m_Mo_spelled u p0 M = some r) : CtrN l B yX11_spelled cX11_spelled 4 (some .int) rm_Mo_spelled [.ref (B.1 + u), .int p0] L M (some (.int r)) L M :=
  mk_I rfl hst rfl (fun X hl G _ R => b_Mo_spelled G hu ⟨_, e, R⟩)
def I_Mo_rightOf : List (Nat × Instr × Nat) := [(0, .aload_n 0, 1), (1, .aload_n 0, 1), (2, .getfield 7, 3), (5, .iload_n 1, 1), (6, .iconst 1, 1), (7, .invokestatic 67, 3), (10, .iaload, 1), (11, .invokevirtual 70, 3), (14, .ireturn, 1)]
set_option maxRecDepth 100000 in
theorem d_Mo_rightOf : decA cX11_rightOf I_Mo_rightOf = true := by decide +kernel
abbrev rm_Mo_rightOf : Room := ({ frames := 4, cells := 0, slots := 0, locals := 101 } : Room)
def m_Mo_rightOf (u : Nat) (p0 : Int32) (M : KMem) : Option Int32 :=
 Option.bind (m_Mo_of p0 1) fun x2 =>
 Option.bind (rdI M (u + 1) 108 x2) fun x4 =>
 Option.bind (m_Mo_spelled u x4 M) fun x6 =>
 some x6
set_option maxHeartbeats 4000000 in
set_option maxRecDepth 100000 in
theorem b_Mo_rightOf {X : KX} {B : KB} {L : KLay} {M : KMem} {u : Nat} {p0 : Int32} (G : Good X B RX11 cX11_rightOf 2 rm_Mo_rightOf) (hu : okL L u moT) (h : kOk (m_Mo_rightOf u p0 M) (fun r => RI X B L 2 cX11_rightOf .int rm_Mo_rightOf r M)) : KK X B L 2 0 0 M 0 [(0, .ref (B.1 + u)), (1, .int p0)] [] := by
  unfold m_Mo_rightOf at h
  refine k_aload_n G (dc d_Mo_rightOf 0 rfl) 0 rfl rfl ?_
  refine k_aload_n G (dc d_Mo_rightOf 1 rfl) 0 rfl rfl ?_
  refine k_getR G kc8 (dc d_Mo_rightOf 2 rfl) (okL_lt hu (o := 0) 0 rfl) (okL_k hu (o := 0) 0 rfl) 1 (by decide) rfl fl_RX11_7 (u + 1) (okL_r hu (o := 0) (c := 1) 0 rfl 0 rfl) ?_
  refine k_iload_n G (dc d_Mo_rightOf 3 rfl) 1 rfl rfl ?_
  refine k_iconst G (dc d_Mo_rightOf 4 rfl) cI_1 ?_
  obtain ⟨x2, e1, h⟩ := kOk_b h
  refine k_cSI G (dc d_Mo_rightOf 5 rfl) mi_Mo_of ms_Mo_of ml_RX11_67 (c_Mo_of (gst G)  e1) rfl rfl ⟨rfl, rfl⟩ rfl ⟨rfl, rfl⟩ ⟨rfl, rfl⟩ ?_
  obtain ⟨x4, e3, h⟩ := kOk_b h
  refine k_ild G (dc d_Mo_rightOf 6 rfl) (okL_lt hu (o := 1) 1 rfl) (okL_k hu (o := 1) 1 rfl) (okL_n hu (o := 1) 1 rfl) e3 ?_
  obtain ⟨x6, e5, h⟩ := kOk_b h
  refine k_cVI G (dc d_Mo_rightOf 7 rfl) kc8 (okL_lt hu (o := 0) 0 rfl) (okL_k hu (o := 0) 0 rfl) mi_Mo_spelled mv_Mo_spelled rfl ml_RX11_70 (c_Mo_spelled (gst G) hu e5) rfl rfl ⟨rfl, rfl⟩ rfl ⟨rfl, rfl⟩ ⟨rfl, rfl⟩ ?_
  exact (kOk_s h) _ _ _ _ rfl rfl rfl (dc d_Mo_rightOf 8 rfl)
theorem c_Mo_rightOf {l : Launch} {B : KB} {L : KLay} {M : KMem} {u : Nat} {p0 : Int32} (hst : l.stackTraces = false) (hu : okL L u moT) {r : Int32} (e : m_Mo_rightOf u p0 M = some r) : CtrN l B yX11_rightOf cX11_rightOf 2 (some .int) rm_Mo_rightOf [.ref (B.1 + u), .int p0] L M (some (.int r)) L M :=
  mk_I rfl hst rfl (fun X hl G _ R => b_Mo_rightOf G hu ⟨_, e, R⟩)
