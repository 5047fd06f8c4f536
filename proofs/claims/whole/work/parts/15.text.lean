/-! laid by wip/whole/lay.py: Tx_put, Tx_hasMore, Tx_readMark, Tx_restart, Tx_readDigit, Tx_readLetter, Tx_readWord, Tx_readMonths, Tx_readCommand, Tx_firstError -/
def I_Tx_put : List (Nat × Instr × Nat) := [(0, .aload_n 0, 1), (1, .getfield 15, 3), (4, .bipush 120, 2), (6, .if_icmp .ge 23, 3), (9, .aload_n 0, 1), (10, .getfield 9, 3), (13, .aload_n 0, 1), (14, .getfield 15, 3), (17, .iload_n 1, 1), (18, .iastore, 1), (19, .aload_n 0, 1), (20, .dup, 1), (21, .getfield 15, 3), (24, .iconst 1, 1), (25, .iadd, 1), (26, .putfield 15, 3), (29, .return_, 1)]
set_option maxRecDepth 100000 in
theorem d_Tx_put : decA cX3_put I_Tx_put = true := by decide +kernel
abbrev rm_Tx_put : Room := ({ frames := 0, cells := 0, slots := 0, locals := 0 } : Room)
def m_Tx_put (u : Nat) (p0 : Int32) (M : KMem) : Option KMem :=
 Option.bind (α := KMem) (if 120 ≤ (M u 1) then
 (some M)
 else
 (Option.bind (wrI M (u + 1) 120 (M u 1) p0) fun M5 =>
 Option.bind (some (kup M5 u 1 ((M5 u 1) + 1))) fun M7 =>
 some M7)) fun M1 =>
 some M1
set_option maxHeartbeats 4000000 in
set_option maxRecDepth 100000 in
theorem b_Tx_put {X : KX} {B : KB} {L : KLay} {M : KMem} {u : Nat} {p0 : Int32} (G : Good X B RX3 cX3_put 2 rm_Tx_put) (hu : okL L u txT) (h : kOk (m_Tx_put u p0 M) (fun r => RV X B L 2 cX3_put rm_Tx_put r)) : KK X B L 2 0 0 M 0 [(0, .ref (B.1 + u)), (1, .int p0)] [] := by
  unfold m_Tx_put at h
  refine k_aload_n G (dc d_Tx_put 0 rfl) 0 rfl rfl ?_
  refine k_getI G kc3 (dc d_Tx_put 1 rfl) (okL_lt hu (o := 0) 0 rfl) (okL_k hu (o := 0) 0 rfl) 1 (by decide) rfl fl_RX3_15 ?_
  refine k_bipush G (dc d_Tx_put 2 rfl) cB_120 ?_
  refine kJ h (fun r2 => KK X B L 2 0 0 r2 29 [] []) (fun r2 h => ?_) (fun h => ?_)
  · obtain ⟨M1, rfl⟩ : ∃ z, z = r2 := ⟨_, rfl⟩
    show KK X B L 2 0 0 M1 29 [] []
    exact (kOk_s h) _ _ _ _ rfl rfl (dc d_Tx_put 16 rfl)
  · refine k_icmp_ge G (dc d_Tx_put 3 rfl) (tgt := 29) rfl (fun c3 => ?_) (fun c3 => ?_)
    · replace h := kOk_p c3 h
      refine k_sub [] rfl ?_
      have h9 := kOk_s h
      exact h9
    · replace h := kOk_n c3 h
      refine k_aload_n G (dc d_Tx_put 4 rfl) 0 rfl rfl ?_
      refine k_getR G kc3 (dc d_Tx_put 5 rfl) (okL_lt hu (o := 0) 0 rfl) (okL_k hu (o := 0) 0 rfl) 0 (by decide) rfl fl_RX3_9 (u + 1) (okL_r hu (o := 0) (c := 1) 0 rfl 0 rfl) ?_
      refine k_aload_n G (dc d_Tx_put 6 rfl) 0 rfl rfl ?_
      refine k_getI G kc3 (dc d_Tx_put 7 rfl) (okL_lt hu (o := 0) 0 rfl) (okL_k hu (o := 0) 0 rfl) 1 (by decide) rfl fl_RX3_15 ?_
      refine k_iload_n G (dc d_Tx_put 8 rfl) 1 rfl rfl ?_
      obtain ⟨M5, e4, h⟩ := kOk_b h
      refine k_ist G (dc d_Tx_put 9 rfl) (okL_lt hu (o := 1) 1 rfl) (okL_k hu (o := 1) 1 rfl) (okL_n hu (o := 1) 1 rfl) e4 ?_
      refine k_aload_n G (dc d_Tx_put 10 rfl) 0 rfl rfl ?_
      refine k_dup G (dc d_Tx_put 11 rfl) rfl ?_
      refine k_getI G kc3 (dc d_Tx_put 12 rfl) (okL_lt hu (o := 0) 0 rfl) (okL_k hu (o := 0) 0 rfl) 1 (by decide) rfl fl_RX3_15 ?_
      refine k_iconst G (dc d_Tx_put 13 rfl) cI_1 ?_
      refine k_iadd G (dc d_Tx_put 14 rfl) ?_
      obtain ⟨M7, e6, h⟩ := kOk_b h
      refine k_putI G kc3 (dc d_Tx_put 15 rfl) (okL_lt hu (o := 0) 0 rfl) (okL_k hu (o := 0) 0 rfl) 1 (by decide) rfl rfl fl_RX3_15 rfl rfl e6 ?_
      refine k_sub [] rfl ?_
      have h9 := kOk_s h
      exact h9
theorem c_Tx_put {l : Launch} {B : KB} {L : KLay} {M : KMem} {u : Nat} {p0 : Int32} (hst : l.stackTraces = false) (hu : okL L u txT) {M' : KMem} (e : m_Tx_put u p0 M = some M') : CtrN l B yX3_put cX3_put 2 none rm_Tx_put [.ref (B.1 + u), .int p0] L M none L M' :=
  mk_V rfl hst rfl (fun X hl G _ R => b_Tx_put G hu ⟨_, e, R⟩)
def I_Tx_hasMore : List (Nat × Instr × Nat) := [(0, .aload_n 0, 1), (1, .getfield 23, 3), (4, .aload_n 0, 1), (5, .getfield 15, 3), (8, .if_icmp .ge 16, 3), (11, .aload_n 0, 1), (12, .getfield 23, 3), (15, .bipush 120, 2), (17, .if_icmp .ge 7, 3), (20, .iconst 1, 1), (21, .goto 4, 3), (24, .iconst 0, 1), (25, .ireturn, 1)]
set_option maxRecDepth 100000 in
theorem d_Tx_hasMore : decA cX3_hasMore I_Tx_hasMore = true := by decide +kernel
abbrev rm_Tx_hasMore : Room := ({ frames := 0, cells := 0, slots := 0, locals := 0 } : Room)
def m_Tx_hasMore (u : Nat) (M : KMem) : Option Int32 :=
 Option.bind (α := Int32) (if (M u 1) ≤ (M u 2) then
 (some 0)
 else
 (if 120 ≤ (M u 2) then
 (some 0)
 else
 (some 1))) fun t1 =>
 Option.bind (kz t1) fun z3 =>
 some z3
set_option maxHeartbeats 4000000 in
set_option maxRecDepth 100000 in
theorem b_Tx_hasMore {X : KX} {B : KB} {L : KLay} {M : KMem} {u : Nat} (G : Good X B RX3 cX3_hasMore 1 rm_Tx_hasMore) (hu : okL L u txT) (h : kOk (m_Tx_hasMore u M) (fun r => RI X B L 1 cX3_hasMore .boolean rm_Tx_hasMore r M)) : KK X B L 1 0 0 M 0 [(0, .ref (B.1 + u))] [] := by
  unfold m_Tx_hasMore at h
  refine k_aload_n G (dc d_Tx_hasMore 0 rfl) 0 rfl rfl ?_
  refine k_getI G kc3 (dc d_Tx_hasMore 1 rfl) (okL_lt hu (o := 0) 0 rfl) (okL_k hu (o := 0) 0 rfl) 2 (by decide) rfl fl_RX3_23 ?_
  refine k_aload_n G (dc d_Tx_hasMore 2 rfl) 0 rfl rfl ?_
  refine k_getI G kc3 (dc d_Tx_hasMore 3 rfl) (okL_lt hu (o := 0) 0 rfl) (okL_k hu (o := 0) 0 rfl) 1 (by decide) rfl fl_RX3_15 ?_
  refine kJ h (fun r2 => KK X B L 1 0 0 M 25 [] [.int r2]) (fun r2 h => ?_) (fun h => ?_)
  · obtain ⟨t1, rfl⟩ : ∃ z, z = r2 := ⟨_, rfl⟩
    show KK X B L 1 0 0 M 25 [] [.int t1]
    obtain ⟨z3, e4, h⟩ := kOk_b h
    obtain ⟨e4, nz3, -⟩ := kz_ok e4
    rw [e4]
    exact (kOk_s h) _ _ _ _ rfl rfl nz3 (dc d_Tx_hasMore 12 rfl)
  · refine k_icmp_ge G (dc d_Tx_hasMore 4 rfl) (tgt := 24) rfl (fun c5 => ?_) (fun c5 => ?_)
    · replace h := kOk_p c5 h
      refine k_iconst G (dc d_Tx_hasMore 11 rfl) cI_0 ?_
      refine k_sub [] rfl ?_
      have h9 := kOk_s h
      exact h9
    · replace h := kOk_n c5 h
      refine k_aload_n G (dc d_Tx_hasMore 5 rfl) 0 rfl rfl ?_
      refine k_getI G kc3 (dc d_Tx_hasMore 6 rfl) (okL_lt hu (o := 0) 0 rfl) (okL_k hu (o := 0) 0 rfl) 2 (by decide) rfl fl_RX3_23 ?_
      refine k_bipush G (dc d_Tx_hasMore 7 rfl) cB_120 ?_
      refine k_icmp_ge G (dc d_Tx_hasMore 8 rfl) (tgt := 24) rfl (fun c6 => ?_) (fun c6 => ?_)
      · replace h := kOk_p c6 h
        refine k_iconst G (dc d_Tx_hasMore 11 rfl) cI_0 ?_
        refine k_sub [] rfl ?_
        have h9 := kOk_s h
        exact h9
      · replace h := kOk_n c6 h
        refine k_iconst G (dc d_Tx_hasMore 9 rfl) cI_1 ?_
        refine k_goto G (dc d_Tx_hasMore 10 rfl) (tgt := 25) rfl ?_
        refine k_sub [] rfl ?_
        have h9 := kOk_s h
        exact h9
theorem c_Tx_hasMore {l : Launch} {B : KB} {L : KLay} {M : KMem} {u : Nat} (hst : l.stackTraces = false) (hu : okL L u txT) {r : Int32} (e : m_Tx_hasMore u M = some r) : CtrN l B yX3_hasMore cX3_hasMore 1 (some .boolean) rm_Tx_hasMore [.ref (B.1 + u)] L M (some (.int r)) L M :=
  mk_I rfl hst rfl (fun X hl G _ R => b_Tx_hasMore G hu ⟨_, e, R⟩)
def I_Tx_readMark : List (Nat × Instr × Nat) := [(0, .aload_n 0, 1), (1, .invokevirtual 26, 3), (4, .ifCond .eq 16, 3), (7, .aload_n 0, 1), (8, .getfield 9, 3), (11, .aload_n 0, 1), (12, .getfield 23, 3), (15, .iaload, 1), (16, .iload_n 1, 1), (17, .if_icmp .eq 5, 3), (20, .iconst 0, 1), (21, .ireturn, 1), (22, .aload_n 0, 1), (23, .dup, 1), (24, .getfield 23, 3), (27, .iconst 1, 1), (28, .iadd, 1), (29, .putfield 23, 3), (32, .iconst 1, 1), (33, .ireturn, 1)]
set_option maxRecDepth 100000 in
theorem d_Tx_readMark : decA cX3_readMark I_Tx_readMark = true := by decide +kernel
abbrev rm_Tx_readMark : Room := ({ frames := 1, cells := 0, slots := 0, locals := 20 } : Room)
def m_Tx_readMark (u : Nat) (p0 : Int32) (M : KMem) : Option (Int32 × KMem) :=
 Option.bind (m_Tx_hasMore u M) fun x2 =>
 if x2 = 0 then
 (Option.bind (kz 0) fun z4 =>
 some (z4, M))
 else
 (Option.bind (rdI M (u + 1) 120 (M u 2)) fun x7 =>
 if x7 = p0 then
 (Option.bind (some (kup M u 2 ((M u 2) + 1))) fun M10 =>
 Option.bind (kz 1) fun z11 =>
 some (z11, M10))
 else
 (Option.bind (kz 0) fun z13 =>
 some (z13, M)))
set_option maxHeartbeats 4000000 in
set_option maxRecDepth 100000 in
theorem b_Tx_readMark {X : KX} {B : KB} {L : KLay} {M : KMem} {u : Nat} {p0 : Int32} (G : Good X B RX3 cX3_readMark 2 rm_Tx_readMark) (hu : okL L u txT) (h : kOk (m_Tx_readMark u p0 M) (fun r => RI X B L 2 cX3_readMark .boolean rm_Tx_readMark r.1 r.2)) : KK X B L 2 0 0 M 0 [(0, .ref (B.1 + u)), (1, .int p0)] [] := by
  unfold m_Tx_readMark at h
  refine k_aload_n G (dc d_Tx_readMark 0 rfl) 0 rfl rfl ?_
  obtain ⟨x2, e1, h⟩ := kOk_b h
  refine k_cVI G (dc d_Tx_readMark 1 rfl) kc3 (okL_lt hu (o := 0) 0 rfl) (okL_k hu (o := 0) 0 rfl) mi_Tx_hasMore mv_Tx_hasMore rfl ml_RX3_26 (c_Tx_hasMore (gst G) hu e1) rfl rfl ⟨rfl, rfl⟩ rfl ⟨rfl, rfl⟩ ⟨rfl, rfl⟩ ?_
  refine k_if_eq G (dc d_Tx_readMark 2 rfl) (tgt := 20) rfl (fun c3 => ?_) (fun c3 => ?_)
  · replace h := kOk_p c3 h
    refine k_iconst G (dc d_Tx_readMark 10 rfl) cI_0 ?_
    obtain ⟨z4, e5, h⟩ := kOk_b h
    obtain ⟨e5, nz4, -⟩ := kz_ok e5
    rw [e5]
    exact (kOk_s h) _ _ _ _ rfl rfl nz4 (dc d_Tx_readMark 11 rfl)
  · replace h := kOk_n c3 h
    refine k_aload_n G (dc d_Tx_readMark 3 rfl) 0 rfl rfl ?_
    refine k_getR G kc3 (dc d_Tx_readMark 4 rfl) (okL_lt hu (o := 0) 0 rfl) (okL_k hu (o := 0) 0 rfl) 0 (by decide) rfl fl_RX3_9 (u + 1) (okL_r hu (o := 0) (c := 1) 0 rfl 0 rfl) ?_
    refine k_aload_n G (dc d_Tx_readMark 5 rfl) 0 rfl rfl ?_
    refine k_getI G kc3 (dc d_Tx_readMark 6 rfl) (okL_lt hu (o := 0) 0 rfl) (okL_k hu (o := 0) 0 rfl) 2 (by decide) rfl fl_RX3_23 ?_
    obtain ⟨x7, e6, h⟩ := kOk_b h
    refine k_ild G (dc d_Tx_readMark 7 rfl) (okL_lt hu (o := 1) 1 rfl) (okL_k hu (o := 1) 1 rfl) (okL_n hu (o := 1) 1 rfl) e6 ?_
    refine k_iload_n G (dc d_Tx_readMark 8 rfl) 1 rfl rfl ?_
    refine k_icmp_eq G (dc d_Tx_readMark 9 rfl) (tgt := 22) rfl (fun c8 => ?_) (fun c8 => ?_)
    · replace h := kOk_p c8 h
      refine k_aload_n G (dc d_Tx_readMark 12 rfl) 0 rfl rfl ?_
      refine k_dup G (dc d_Tx_readMark 13 rfl) rfl ?_
      refine k_getI G kc3 (dc d_Tx_readMark 14 rfl) (okL_lt hu (o := 0) 0 rfl) (okL_k hu (o := 0) 0 rfl) 2 (by decide) rfl fl_RX3_23 ?_
      refine k_iconst G (dc d_Tx_readMark 15 rfl) cI_1 ?_
      refine k_iadd G (dc d_Tx_readMark 16 rfl) ?_
      obtain ⟨M10, e9, h⟩ := kOk_b h
      refine k_putI G kc3 (dc d_Tx_readMark 17 rfl) (okL_lt hu (o := 0) 0 rfl) (okL_k hu (o := 0) 0 rfl) 2 (by decide) rfl rfl fl_RX3_23 rfl rfl e9 ?_
      refine k_iconst G (dc d_Tx_readMark 18 rfl) cI_1 ?_
      obtain ⟨z11, e12, h⟩ := kOk_b h
      obtain ⟨e12, nz11, -⟩ := kz_ok e12
      rw [e12]
      exact (kOk_s h) _ _ _ _ rfl rfl nz11 (dc d_Tx_readMark 19 rfl)
    · replace h := kOk_n c8 h
      refine k_iconst G (dc d_Tx_readMark 10 rfl) cI_0 ?_
      obtain ⟨z13, e14, h⟩ := kOk_b h
      obtain ⟨e14, nz13, -⟩ := kz_ok e14
      rw [e14]
      exact (kOk_s h) _ _ _ _ rfl rfl nz13 (dc d_Tx_readMark 11 rfl)
theorem c_Tx_readMark {l : Launch} {B : KB} {L : KLay} {M : KMem} {u : Nat} {p0 : Int32} (hst : l.stackTraces = false) (hu : okL L u txT) {r : Int32} {M' : KMem} (e : m_Tx_readMark u p0 M = some (r, M')) : CtrN l B yX3_readMark cX3_readMark 2 (some .boolean) rm_Tx_readMark [.ref (B.1 + u), .int p0] L M (some (.int r)) L M' :=
  mk_I rfl hst rfl (fun X hl G _ R => b_Tx_readMark G hu ⟨_, e, R⟩)
def I_Tx_restart : List (Nat × Instr × Nat) := [(0, .aload_n 0, 1), (1, .iconst 0, 1), (2, .putfield 23, 3), (5, .aload_n 0, 1), (6, .bipush 82, 2), (8, .invokevirtual 32, 3), (11, .ireturn, 1)]
set_option maxRecDepth 100000 in
theorem d_Tx_restart : decA cX3_restart I_Tx_restart = true := by decide +kernel
abbrev rm_Tx_restart : Room := ({ frames := 2, cells := 0, slots := 0, locals := 41 } : Room)
def m_Tx_restart (u : Nat) (M : KMem) : Option (Int32 × KMem) :=
 Option.bind (some (kup M u 2 0)) fun M2 =>
 Option.bind (m_Tx_readMark u 82 M2) fun (x4, M5) =>
 Option.bind (kz x4) fun z6 =>
 some (z6, M5)
set_option maxHeartbeats 4000000 in
set_option maxRecDepth 100000 in
theorem b_Tx_restart {X : KX} {B : KB} {L : KLay} {M : KMem} {u : Nat} (G : Good X B RX3 cX3_restart 1 rm_Tx_restart) (hu : okL L u txT) (h : kOk (m_Tx_restart u M) (fun r => RI X B L 1 cX3_restart .boolean rm_Tx_restart r.1 r.2)) : KK X B L 1 0 0 M 0 [(0, .ref (B.1 + u))] [] := by
  unfold m_Tx_restart at h
  refine k_aload_n G (dc d_Tx_restart 0 rfl) 0 rfl rfl ?_
  refine k_iconst G (dc d_Tx_restart 1 rfl) cI_0 ?_
  obtain ⟨M2, e1, h⟩ := kOk_b h
  refine k_putI G kc3 (dc d_Tx_restart 2 rfl) (okL_lt hu (o := 0) 0 rfl) (okL_k hu (o := 0) 0 rfl) 2 (by decide) rfl rfl fl_RX3_23 rfl rfl e1 ?_
  refine k_aload_n G (dc d_Tx_restart 3 rfl) 0 rfl rfl ?_
  refine k_bipush G (dc d_Tx_restart 4 rfl) cB_82 ?_
  obtain ⟨⟨x4, M5⟩, e3, h⟩ := kOk_b h
  refine k_cVI G (dc d_Tx_restart 5 rfl) kc3 (okL_lt hu (o := 0) 0 rfl) (okL_k hu (o := 0) 0 rfl) mi_Tx_readMark mv_Tx_readMark rfl ml_RX3_32 (c_Tx_readMark (gst G) hu e3) rfl rfl ⟨rfl, rfl⟩ rfl ⟨rfl, rfl⟩ ⟨rfl, rfl⟩ ?_
  obtain ⟨z6, e7, h⟩ := kOk_b h
  obtain ⟨e7, nz6, -⟩ := kz_ok e7
  rw [e7]
  exact (kOk_s h) _ _ _ _ rfl rfl nz6 (dc d_Tx_restart 6 rfl)
theorem c_Tx_restart {l : Launch} {B : KB} {L : KLay} {M : KMem} {u : Nat} (hst : l.stackTraces = false) (hu : okL L u txT) {r : Int32} {M' : KMem} (e : m_Tx_restart u M = some (r, M')) : CtrN l B yX3_restart cX3_restart 1 (some .boolean) rm_Tx_restart [.ref (B.1 + u)] L M (some (.int r)) L M' :=
  mk_I rfl hst rfl (fun X hl G _ R => b_Tx_restart G hu ⟨_, e, R⟩)
def I_Tx_readDigit : List (Nat × Instr × Nat) := [(0, .aload_n 0, 1), (1, .invokevirtual 26, 3), (4, .ifCond .ne 5, 3), (7, .iconst 0, 1), (8, .ireturn, 1), (9, .aload_n 0, 1), (10, .getfield 9, 3), (13, .aload_n 0, 1), (14, .getfield 23, 3), (17, .iaload, 1), (18, .bipush 48, 2), (20, .isub, 1), (21, .istore_n 3, 1), (22, .iload_n 3, 1), (23, .iload_n 1, 1), (24, .if_icmp .lt 8, 3), (27, .iload_n 3, 1), (28, .iload_n 2, 1), (29, .if_icmp .le 5, 3), (32, .iconst 0, 1), (33, .ireturn, 1), (34, .aload_n 0, 1), (35, .aload_n 0, 1), (36, .getfield 36, 3), (39, .bipush 10, 2), (41, .imul, 1), (42, .iload_n 3, 1), (43, .iadd, 1), (44, .putfield 36, 3), (47, .aload_n 0, 1), (48, .dup, 1), (49, .getfield 23, 3), (52, .iconst 1, 1), (53, .iadd, 1), (54, .putfield 23, 3), (57, .iconst 1, 1), (58, .ireturn, 1)]
set_option maxRecDepth 100000 in
theorem d_Tx_readDigit : decA cX3_readDigit I_Tx_readDigit = true := by decide +kernel
abbrev rm_Tx_readDigit : Room := ({ frames := 1, cells := 0, slots := 0, locals := 20 } : Room)
def m_Tx_readDigit (u : Nat) (p0 : Int32) (p1 : Int32) (M : KMem) : Option (Int32 × KMem) :=
 Option.bind (m_Tx_hasMore u M) fun x2 =>
 if x2 = 0 then
 (Option.bind (kz 0) fun z18 =>
 some (z18, M))
 else
 (Option.bind (rdI M (u + 1) 120 (M u 2)) fun x5 =>
 if (x5 - 48) < p0 then
 (Option.bind (kz 0) fun z7 =>
 some (z7, M))
 else
 (if (x5 - 48) ≤ p1 then
 (Option.bind (some (kup M u 5 (((M u 5) * 10) + (x5 - 48)))) fun M11 =>
 Option.bind (some (kup M11 u 2 ((M11 u 2) + 1))) fun M13 =>
 Option.bind (kz 1) fun z14 =>
 some (z14, M13))
 else
 (Option.bind (kz 0) fun z16 =>
 some (z16, M))))
set_option maxHeartbeats 4000000 in
set_option maxRecDepth 100000 in
theorem b_Tx_readDigit {X : KX} {B : KB} {L : KLay} {M : KMem} {u : Nat} {p0 : Int32} {p1 : Int32} (G : Good X B RX3 cX3_readDigit 4 rm_Tx_readDigit) (hu : okL L u txT) (h : kOk (m_Tx_readDigit u p0 p1 M) (fun r => RI X B L 4 cX3_readDigit .boolean rm_Tx_readDigit r.1 r.2)) : KK X B L 4 0 0 M 0 [(0, .ref (B.1 + u)), (1, .int p0), (2, .int p1)] [] := by
  unfold m_Tx_readDigit at h
  refine k_aload_n G (dc d_Tx_readDigit 0 rfl) 0 rfl rfl ?_
  obtain ⟨x2, e1, h⟩ := kOk_b h
  refine k_cVI G (dc d_Tx_readDigit 1 rfl) kc3 (okL_lt hu (o := 0) 0 rfl) (okL_k hu (o := 0) 0 rfl) mi_Tx_hasMore mv_Tx_hasMore rfl ml_RX3_26 (c_Tx_hasMore (gst G) hu e1) rfl rfl ⟨rfl, rfl⟩ rfl ⟨rfl, rfl⟩ ⟨rfl, rfl⟩ ?_
  refine k_if_ne G (dc d_Tx_readDigit 2 rfl) (tgt := 9) rfl (fun c3 => ?_) (fun c3 => ?_)
  · replace h := kOk_n c3 h
    refine k_aload_n G (dc d_Tx_readDigit 5 rfl) 0 rfl rfl ?_
    refine k_getR G kc3 (dc d_Tx_readDigit 6 rfl) (okL_lt hu (o := 0) 0 rfl) (okL_k hu (o := 0) 0 rfl) 0 (by decide) rfl fl_RX3_9 (u + 1) (okL_r hu (o := 0) (c := 1) 0 rfl 0 rfl) ?_
    refine k_aload_n G (dc d_Tx_readDigit 7 rfl) 0 rfl rfl ?_
    refine k_getI G kc3 (dc d_Tx_readDigit 8 rfl) (okL_lt hu (o := 0) 0 rfl) (okL_k hu (o := 0) 0 rfl) 2 (by decide) rfl fl_RX3_23 ?_
    obtain ⟨x5, e4, h⟩ := kOk_b h
    refine k_ild G (dc d_Tx_readDigit 9 rfl) (okL_lt hu (o := 1) 1 rfl) (okL_k hu (o := 1) 1 rfl) (okL_n hu (o := 1) 1 rfl) e4 ?_
    refine k_bipush G (dc d_Tx_readDigit 10 rfl) cB_48 ?_
    refine k_isub G (dc d_Tx_readDigit 11 rfl) ?_
    refine k_istore_n G (dc d_Tx_readDigit 12 rfl) (ls' := [(3, .int (x5 - 48)), (0, .ref (B.1 + u)), (1, .int p0), (2, .int p1)]) rfl rfl rfl ?_
    refine k_iload_n G (dc d_Tx_readDigit 13 rfl) 0 rfl rfl ?_
    refine k_iload_n G (dc d_Tx_readDigit 14 rfl) 2 rfl rfl ?_
    refine k_icmp_lt G (dc d_Tx_readDigit 15 rfl) (tgt := 32) rfl (fun c6 => ?_) (fun c6 => ?_)
    · replace h := kOk_p c6 h
      refine k_iconst G (dc d_Tx_readDigit 19 rfl) cI_0 ?_
      obtain ⟨z7, e8, h⟩ := kOk_b h
      obtain ⟨e8, nz7, -⟩ := kz_ok e8
      rw [e8]
      exact (kOk_s h) _ _ _ _ rfl rfl nz7 (dc d_Tx_readDigit 20 rfl)
    · replace h := kOk_n c6 h
      refine k_iload_n G (dc d_Tx_readDigit 16 rfl) 0 rfl rfl ?_
      refine k_iload_n G (dc d_Tx_readDigit 17 rfl) 3 rfl rfl ?_
      refine k_icmp_le G (dc d_Tx_readDigit 18 rfl) (tgt := 34) rfl (fun c9 => ?_) (fun c9 => ?_)
      · replace h := kOk_p c9 h
        refine k_aload_n G (dc d_Tx_readDigit 21 rfl) 1 rfl rfl ?_
        refine k_aload_n G (dc d_Tx_readDigit 22 rfl) 1 rfl rfl ?_
        refine k_getI G kc3 (dc d_Tx_readDigit 23 rfl) (okL_lt hu (o := 0) 0 rfl) (okL_k hu (o := 0) 0 rfl) 5 (by decide) rfl fl_RX3_36 ?_
        refine k_bipush G (dc d_Tx_readDigit 24 rfl) cB_10 ?_
        refine k_imul G (dc d_Tx_readDigit 25 rfl) ?_
        refine k_iload_n G (dc d_Tx_readDigit 26 rfl) 0 rfl rfl ?_
        refine k_iadd G (dc d_Tx_readDigit 27 rfl) ?_
        obtain ⟨M11, e10, h⟩ := kOk_b h
        refine k_putI G kc3 (dc d_Tx_readDigit 28 rfl) (okL_lt hu (o := 0) 0 rfl) (okL_k hu (o := 0) 0 rfl) 5 (by decide) rfl rfl fl_RX3_36 rfl rfl e10 ?_
        refine k_aload_n G (dc d_Tx_readDigit 29 rfl) 1 rfl rfl ?_
        refine k_dup G (dc d_Tx_readDigit 30 rfl) rfl ?_
        refine k_getI G kc3 (dc d_Tx_readDigit 31 rfl) (okL_lt hu (o := 0) 0 rfl) (okL_k hu (o := 0) 0 rfl) 2 (by decide) rfl fl_RX3_23 ?_
        refine k_iconst G (dc d_Tx_readDigit 32 rfl) cI_1 ?_
        refine k_iadd G (dc d_Tx_readDigit 33 rfl) ?_
        obtain ⟨M13, e12, h⟩ := kOk_b h
        refine k_putI G kc3 (dc d_Tx_readDigit 34 rfl) (okL_lt hu (o := 0) 0 rfl) (okL_k hu (o := 0) 0 rfl) 2 (by decide) rfl rfl fl_RX3_23 rfl rfl e12 ?_
        refine k_iconst G (dc d_Tx_readDigit 35 rfl) cI_1 ?_
        obtain ⟨z14, e15, h⟩ := kOk_b h
        obtain ⟨e15, nz14, -⟩ := kz_ok e15
        rw [e15]
        exact (kOk_s h) _ _ _ _ rfl rfl nz14 (dc d_Tx_readDigit 36 rfl)
      · replace h := kOk_n c9 h
        refine k_iconst G (dc d_Tx_readDigit 19 rfl) cI_0 ?_
        obtain ⟨z16, e17, h⟩ := kOk_b h
        obtain ⟨e17, nz16, -⟩ := kz_ok e17
        rw [e17]
        exact (kOk_s h) _ _ _ _ rfl rfl nz16 (dc d_Tx_readDigit 20 rfl)
  · replace h := kOk_p c3 h
    refine k_iconst G (dc d_Tx_readDigit 3 rfl) cI_0 ?_
    obtain ⟨z18, e19, h⟩ := kOk_b h
    obtain ⟨e19, nz18, -⟩ := kz_ok e19
    rw [e19]
    exact (kOk_s h) _ _ _ _ rfl rfl nz18 (dc d_Tx_readDigit 4 rfl)
theorem c_Tx_readDigit {l : Launch} {B : KB} {L : KLay} {M : KMem} {u : Nat} {p0 : Int32} {p1 : Int32} (hst : l.stackTraces = false) (hu : okL L u txT) {r : Int32} {M' : KMem} (e : m_Tx_readDigit u p0 p1 M = some (r, M')) : CtrN l B yX3_readDigit cX3_readDigit 4 (some .boolean) rm_Tx_readDigit [.ref (B.1 + u), .int p0, .int p1] L M (some (.int r)) L M' :=
  mk_I rfl hst rfl (fun X hl G _ R => b_Tx_readDigit G hu ⟨_, e, R⟩)
def I_Tx_readLetter : List (Nat × Instr × Nat) := [(0, .aload_n 0, 1), (1, .iconst 1, 1), (2, .bipush 6, 2), (4, .invokevirtual 50, 3), (7, .ireturn, 1)]
set_option maxRecDepth 100000 in
theorem d_Tx_readLetter : decA cX3_readLetter I_Tx_readLetter = true := by decide +kernel
abbrev rm_Tx_readLetter : Room := ({ frames := 2, cells := 0, slots := 0, locals := 43 } : Room)
def m_Tx_readLetter (u : Nat) (M : KMem) : Option (Int32 × KMem) :=
 Option.bind (m_Tx_readDigit u 1 6 M) fun (x2, M3) =>
 Option.bind (kz x2) fun z4 =>
 some (z4, M3)
set_option maxHeartbeats 4000000 in
set_option maxRecDepth 100000 in
theorem b_Tx_readLetter {X : KX} {B : KB} {L : KLay} {M : KMem} {u : Nat} (G : Good X B RX3 cX3_readLetter 1 rm_Tx_readLetter) (hu : okL L u txT) (h : kOk (m_Tx_readLetter u M) (fun r => RI X B L 1 cX3_readLetter .boolean rm_Tx_readLetter r.1 r.2)) : KK X B L 1 0 0 M 0 [(0, .ref (B.1 + u))] [] := by
  unfold m_Tx_readLetter at h
  refine k_aload_n G (dc d_Tx_readLetter 0 rfl) 0 rfl rfl ?_
  refine k_iconst G (dc d_Tx_readLetter 1 rfl) cI_1 ?_
  refine k_bipush G (dc d_Tx_readLetter 2 rfl) cB_6 ?_
  obtain ⟨⟨x2, M3⟩, e1, h⟩ := kOk_b h
  refine k_cVI G (dc d_Tx_readLetter 3 rfl) kc3 (okL_lt hu (o := 0) 0 rfl) (okL_k hu (o := 0) 0 rfl) mi_Tx_readDigit mv_Tx_readDigit rfl ml_RX3_50 (c_Tx_readDigit (gst G) hu e1) rfl rfl ⟨rfl, rfl⟩ rfl ⟨rfl, rfl⟩ ⟨rfl, rfl⟩ ?_
  obtain ⟨z4, e5, h⟩ := kOk_b h
  obtain ⟨e5, nz4, -⟩ := kz_ok e5
  rw [e5]
  exact (kOk_s h) _ _ _ _ rfl rfl nz4 (dc d_Tx_readLetter 4 rfl)
theorem c_Tx_readLetter {l : Launch} {B : KB} {L : KLay} {M : KMem} {u : Nat} (hst : l.stackTraces = false) (hu : okL L u txT) {r : Int32} {M' : KMem} (e : m_Tx_readLetter u M = some (r, M')) : CtrN l B yX3_readLetter cX3_readLetter 1 (some .boolean) rm_Tx_readLetter [.ref (B.1 + u)] L M (some (.int r)) L M' :=
  mk_I rfl hst rfl (fun X hl G _ R => b_Tx_readLetter G hu ⟨_, e, R⟩)
def I_Tx_readWord : List (Nat × Instr × Nat) := [(0, .aload_n 0, 1), (1, .aload_n 0, 1), (2, .getfield 36, 3), (5, .putfield 63, 3), (8, .aload_n 0, 1), (9, .iconst 0, 1), (10, .putfield 36, 3), (13, .aload_n 0, 1), (14, .invokevirtual 57, 3), (17, .ifCond .ne 5, 3), (20, .iconst 0, 1), (21, .ireturn, 1), (22, .iconst 1, 1), (23, .istore_n 1, 1), (24, .iload_n 1, 1), (25, .bipush 8, 2), (27, .if_icmp .ge 39, 3), (30, .aload_n 0, 1), (31, .invokevirtual 26, 3), (34, .ifCond .eq 32, 3), (37, .aload_n 0, 1), (38, .getfield 9, 3), (41, .aload_n 0, 1), (42, .getfield 23, 3), (45, .iaload, 1), (46, .bipush 46, 2), (48, .if_icmp .eq 18, 3), (51, .aload_n 0, 1), (52, .invokevirtual 57, 3), (55, .ifCond .ne 5, 3), (58, .iconst 0, 1), (59, .ireturn, 1), (60, .iinc 1 1, 3), (63, .goto (-39), 3), (66, .aload_n 0, 1), (67, .bipush 46, 2), (69, .invokevirtual 32, 3), (72, .ireturn, 1)]
set_option maxRecDepth 100000 in
theorem d_Tx_readWord : decA cX3_readWord I_Tx_readWord = true := by decide +kernel
abbrev rm_Tx_readWord : Room := ({ frames := 3, cells := 0, slots := 0, locals := 63 } : Room)
def m_Tx_readWord_l24 (u : Nat) : (Int32 × KMem) → Option ((Int32 × KMem) ⊕ ((Int32 × KMem) ⊕ KMem)) := fun (v1_9, M10) =>
 if 8 ≤ v1_9 then
 (some (.inr (.inr M10)))
 else
 (Option.bind (m_Tx_hasMore u M10) fun x13 =>
 if x13 = 0 then
 (some (.inr (.inr M10)))
 else
 (Option.bind (rdI M10 (u + 1) 120 (M10 u 2)) fun x16 =>
 if x16 = 46 then
 (some (.inr (.inr M10)))
 else
 (Option.bind (m_Tx_readLetter u M10) fun (x19, M20) =>
 if x19 = 0 then
 (Option.bind (kz 0) fun z22 =>
 some (.inr (.inl (z22, M20))))
 else
 (some (.inl (v1_9 + 1, M20))))))
def m_Tx_readWord (u : Nat) (M : KMem) : Option (Int32 × KMem) :=
 Option.bind (some (kup M u 4 (M u 5))) fun M2 =>
 Option.bind (some (kup M2 u 5 0)) fun M4 =>
 Option.bind (m_Tx_readLetter u M4) fun (x6, M7) =>
 if x6 = 0 then
 (Option.bind (kz 0) fun z32 =>
 some (z32, M7))
 else
 (Option.bind (α := (Int32 × KMem) ⊕ KMem) (kLp (m_Tx_readWord_l24 u) kFU (1, M7)) fun r => match r with
 | .inl q => some q
 | .inr M24 =>
 (Option.bind (m_Tx_readMark u 46 M24) fun (x26, M27) =>
 Option.bind (kz x26) fun z28 =>
 some (z28, M27)))
set_option maxHeartbeats 4000000 in
set_option maxRecDepth 100000 in
theorem b_Tx_readWord {X : KX} {B : KB} {L : KLay} {M : KMem} {u : Nat} (G : Good X B RX3 cX3_readWord 2 rm_Tx_readWord) (hu : okL L u txT) (h : kOk (m_Tx_readWord u M) (fun r => RI X B L 2 cX3_readWord .boolean rm_Tx_readWord r.1 r.2)) : KK X B L 2 0 0 M 0 [(0, .ref (B.1 + u))] [] := by
  unfold m_Tx_readWord at h
  refine k_aload_n G (dc d_Tx_readWord 0 rfl) 0 rfl rfl ?_
  refine k_aload_n G (dc d_Tx_readWord 1 rfl) 0 rfl rfl ?_
  refine k_getI G kc3 (dc d_Tx_readWord 2 rfl) (okL_lt hu (o := 0) 0 rfl) (okL_k hu (o := 0) 0 rfl) 5 (by decide) rfl fl_RX3_36 ?_
  obtain ⟨M2, e1, h⟩ := kOk_b h
  refine k_putI G kc3 (dc d_Tx_readWord 3 rfl) (okL_lt hu (o := 0) 0 rfl) (okL_k hu (o := 0) 0 rfl) 4 (by decide) rfl rfl fl_RX3_63 rfl rfl e1 ?_
  refine k_aload_n G (dc d_Tx_readWord 4 rfl) 0 rfl rfl ?_
  refine k_iconst G (dc d_Tx_readWord 5 rfl) cI_0 ?_
  obtain ⟨M4, e3, h⟩ := kOk_b h
  refine k_putI G kc3 (dc d_Tx_readWord 6 rfl) (okL_lt hu (o := 0) 0 rfl) (okL_k hu (o := 0) 0 rfl) 5 (by decide) rfl rfl fl_RX3_36 rfl rfl e3 ?_
  refine k_aload_n G (dc d_Tx_readWord 7 rfl) 0 rfl rfl ?_
  obtain ⟨⟨x6, M7⟩, e5, h⟩ := kOk_b h
  refine k_cVI G (dc d_Tx_readWord 8 rfl) kc3 (okL_lt hu (o := 0) 0 rfl) (okL_k hu (o := 0) 0 rfl) mi_Tx_readLetter mv_Tx_readLetter rfl ml_RX3_57 (c_Tx_readLetter (gst G) hu e5) rfl rfl ⟨rfl, rfl⟩ rfl ⟨rfl, rfl⟩ ⟨rfl, rfl⟩ ?_
  refine k_if_ne G (dc d_Tx_readWord 9 rfl) (tgt := 22) rfl (fun c8 => ?_) (fun c8 => ?_)
  · replace h := kOk_n c8 h
    refine k_iconst G (dc d_Tx_readWord 12 rfl) cI_1 ?_
    refine k_istore_n G (dc d_Tx_readWord 13 rfl) (ls' := [(1, .int 1), (0, .ref (B.1 + u))]) rfl rfl rfl ?_
    refine kJ h (fun r30 => match r30 with | .inl q => RI X B L 2 cX3_readWord .boolean rm_Tx_readWord q.1 q.2 | .inr r30 => KK X B L 2 0 0 r30 66 [(0, .ref (B.1 + u))] []) (fun r30 h => ?_) (fun h => ?_)
    · rcases r30 with q | r30
      · have h9 := kOk_s h
        exact h9
      · obtain ⟨M24, rfl⟩ : ∃ z, z = r30 := ⟨_, rfl⟩
        show KK X B L 2 0 0 M24 66 [(0, .ref (B.1 + u))] []
        refine k_aload_n G (dc d_Tx_readWord 34 rfl) 0 rfl rfl ?_
        refine k_bipush G (dc d_Tx_readWord 35 rfl) cB_46 ?_
        obtain ⟨⟨x26, M27⟩, e25, h⟩ := kOk_b h
        refine k_cVI G (dc d_Tx_readWord 36 rfl) kc3 (okL_lt hu (o := 0) 0 rfl) (okL_k hu (o := 0) 0 rfl) mi_Tx_readMark mv_Tx_readMark rfl ml_RX3_32 (c_Tx_readMark (gst G) hu e25) rfl rfl ⟨rfl, rfl⟩ rfl ⟨rfl, rfl⟩ ⟨rfl, rfl⟩ ?_
        obtain ⟨z28, e29, h⟩ := kOk_b h
        obtain ⟨e29, nz28, -⟩ := kz_ok e29
        rw [e29]
        exact (kOk_s h) _ _ _ _ rfl rfl nz28 (dc d_Tx_readWord 37 rfl)
    · refine k_sub [1, 0] rfl ?_
      refine kLp_ok (P := fun s31 => KK X B L 2 0 0 s31.2 24 [(0, .ref (B.1 + u)), (1, .int s31.1)] []) (fun s31 h => ?_) kFU _ h
      obtain ⟨v1_9, M10⟩ := s31
      unfold m_Tx_readWord_l24 at h
      show KK X B L 2 0 0 M10 24 [(0, .ref (B.1 + u)), (1, .int v1_9)] []
      refine k_iload_n G (dc d_Tx_readWord 14 rfl) 1 rfl rfl ?_
      refine k_bipush G (dc d_Tx_readWord 15 rfl) cB_8 ?_
      refine k_icmp_ge G (dc d_Tx_readWord 16 rfl) (tgt := 66) rfl (fun c11 => ?_) (fun c11 => ?_)
      · replace h := kOk_p c11 h
        refine k_sub [0] rfl ?_
        have h9 := kOk_s h
        exact h9
      · replace h := kOk_n c11 h
        refine k_aload_n G (dc d_Tx_readWord 17 rfl) 0 rfl rfl ?_
        obtain ⟨x13, e12, h⟩ := kOk_b h
        refine k_cVI G (dc d_Tx_readWord 18 rfl) kc3 (okL_lt hu (o := 0) 0 rfl) (okL_k hu (o := 0) 0 rfl) mi_Tx_hasMore mv_Tx_hasMore rfl ml_RX3_26 (c_Tx_hasMore (gst G) hu e12) rfl rfl ⟨rfl, rfl⟩ rfl ⟨rfl, rfl⟩ ⟨rfl, rfl⟩ ?_
        refine k_if_eq G (dc d_Tx_readWord 19 rfl) (tgt := 66) rfl (fun c14 => ?_) (fun c14 => ?_)
        · replace h := kOk_p c14 h
          refine k_sub [0] rfl ?_
          have h9 := kOk_s h
          exact h9
        · replace h := kOk_n c14 h
          refine k_aload_n G (dc d_Tx_readWord 20 rfl) 0 rfl rfl ?_
          refine k_getR G kc3 (dc d_Tx_readWord 21 rfl) (okL_lt hu (o := 0) 0 rfl) (okL_k hu (o := 0) 0 rfl) 0 (by decide) rfl fl_RX3_9 (u + 1) (okL_r hu (o := 0) (c := 1) 0 rfl 0 rfl) ?_
          refine k_aload_n G (dc d_Tx_readWord 22 rfl) 0 rfl rfl ?_
          refine k_getI G kc3 (dc d_Tx_readWord 23 rfl) (okL_lt hu (o := 0) 0 rfl) (okL_k hu (o := 0) 0 rfl) 2 (by decide) rfl fl_RX3_23 ?_
          obtain ⟨x16, e15, h⟩ := kOk_b h
          refine k_ild G (dc d_Tx_readWord 24 rfl) (okL_lt hu (o := 1) 1 rfl) (okL_k hu (o := 1) 1 rfl) (okL_n hu (o := 1) 1 rfl) e15 ?_
          refine k_bipush G (dc d_Tx_readWord 25 rfl) cB_46 ?_
          refine k_icmp_eq G (dc d_Tx_readWord 26 rfl) (tgt := 66) rfl (fun c17 => ?_) (fun c17 => ?_)
          · replace h := kOk_p c17 h
            refine k_sub [0] rfl ?_
            have h9 := kOk_s h
            exact h9
          · replace h := kOk_n c17 h
            refine k_aload_n G (dc d_Tx_readWord 27 rfl) 0 rfl rfl ?_
            obtain ⟨⟨x19, M20⟩, e18, h⟩ := kOk_b h
            refine k_cVI G (dc d_Tx_readWord 28 rfl) kc3 (okL_lt hu (o := 0) 0 rfl) (okL_k hu (o := 0) 0 rfl) mi_Tx_readLetter mv_Tx_readLetter rfl ml_RX3_57 (c_Tx_readLetter (gst G) hu e18) rfl rfl ⟨rfl, rfl⟩ rfl ⟨rfl, rfl⟩ ⟨rfl, rfl⟩ ?_
            refine k_if_ne G (dc d_Tx_readWord 29 rfl) (tgt := 60) rfl (fun c21 => ?_) (fun c21 => ?_)
            · replace h := kOk_n c21 h
              refine k_iinc G (dc d_Tx_readWord 32 rfl) (ls' := [(1, .int (v1_9 + 1)), (0, .ref (B.1 + u))]) 1 rfl cI_1 rfl rfl ?_
              refine k_goto G (dc d_Tx_readWord 33 rfl) (tgt := 24) rfl ?_
              refine k_sub [1, 0] rfl ?_
              have h9 := kOk_s h
              exact h9
            · replace h := kOk_p c21 h
              refine k_iconst G (dc d_Tx_readWord 30 rfl) cI_0 ?_
              obtain ⟨z22, e23, h⟩ := kOk_b h
              obtain ⟨e23, nz22, -⟩ := kz_ok e23
              rw [e23]
              exact (kOk_s h) _ _ _ _ rfl rfl nz22 (dc d_Tx_readWord 31 rfl)
  · replace h := kOk_p c8 h
    refine k_iconst G (dc d_Tx_readWord 10 rfl) cI_0 ?_
    obtain ⟨z32, e33, h⟩ := kOk_b h
    obtain ⟨e33, nz32, -⟩ := kz_ok e33
    rw [e33]
    exact (kOk_s h) _ _ _ _ rfl rfl nz32 (dc d_Tx_readWord 11 rfl)
theorem c_Tx_readWord {l : Launch} {B : KB} {L : KLay} {M : KMem} {u : Nat} (hst : l.stackTraces = false) (hu : okL L u txT) {r : Int32} {M' : KMem} (e : m_Tx_readWord u M = some (r, M')) : CtrN l B yX3_readWord cX3_readWord 2 (some .boolean) rm_Tx_readWord [.ref (B.1 + u)] L M (some (.int r)) L M' :=
  mk_I rfl hst rfl (fun X hl G _ R => b_Tx_readWord G hu ⟨_, e, R⟩)
def I_Tx_readMonths : List (Nat × Instr × Nat) := [(0, .aload_n 0, 1), (1, .iconst 0, 1), (2, .bipush 6, 2), (4, .invokevirtual 50, 3), (7, .ifCond .ne 5, 3), (10, .iconst 0, 1), (11, .ireturn, 1), (12, .aload_n 0, 1), (13, .aload_n 0, 1), (14, .getfield 36, 3), (17, .ifCond .ne 7, 3), (20, .iconst 1, 1), (21, .goto 4, 3), (24, .iconst 0, 1), (25, .aload_n 0, 1), (26, .getfield 36, 3), (29, .bipush 6, 2), (31, .if_icmp .ne 7, 3), (34, .iconst 0, 1), (35, .goto 5, 3), (38, .bipush 9, 2), (40, .invokevirtual 50, 3), (43, .ireturn, 1)]
set_option maxRecDepth 100000 in
theorem d_Tx_readMonths : decA cX3_readMonths I_Tx_readMonths = true := by decide +kernel
abbrev rm_Tx_readMonths : Room := ({ frames := 2, cells := 0, slots := 0, locals := 43 } : Room)
def m_Tx_readMonths (u : Nat) (M : KMem) : Option (Int32 × KMem) :=
 Option.bind (m_Tx_readDigit u 0 6 M) fun (x2, M3) =>
 if x2 = 0 then
 (Option.bind (kz 0) fun z16 =>
 some (z16, M3))
 else
 (Option.bind (α := Int32) (if (M3 u 5) = 0 then
 (some 1)
 else
 (some 0)) fun t5 =>
 Option.bind (α := Int32) (if (M3 u 5) = 6 then
 (some 0)
 else
 (some 9)) fun t7 =>
 Option.bind (m_Tx_readDigit u t5 t7 M3) fun (x10, M11) =>
 Option.bind (kz x10) fun z12 =>
 some (z12, M11))
set_option maxHeartbeats 4000000 in
set_option maxRecDepth 100000 in
theorem b_Tx_readMonths {X : KX} {B : KB} {L : KLay} {M : KMem} {u : Nat} (G : Good X B RX3 cX3_readMonths 1 rm_Tx_readMonths) (hu : okL L u txT) (h : kOk (m_Tx_readMonths u M) (fun r => RI X B L 1 cX3_readMonths .boolean rm_Tx_readMonths r.1 r.2)) : KK X B L 1 0 0 M 0 [(0, .ref (B.1 + u))] [] := by
  unfold m_Tx_readMonths at h
  refine k_aload_n G (dc d_Tx_readMonths 0 rfl) 0 rfl rfl ?_
  refine k_iconst G (dc d_Tx_readMonths 1 rfl) cI_0 ?_
  refine k_bipush G (dc d_Tx_readMonths 2 rfl) cB_6 ?_
  obtain ⟨⟨x2, M3⟩, e1, h⟩ := kOk_b h
  refine k_cVI G (dc d_Tx_readMonths 3 rfl) kc3 (okL_lt hu (o := 0) 0 rfl) (okL_k hu (o := 0) 0 rfl) mi_Tx_readDigit mv_Tx_readDigit rfl ml_RX3_50 (c_Tx_readDigit (gst G) hu e1) rfl rfl ⟨rfl, rfl⟩ rfl ⟨rfl, rfl⟩ ⟨rfl, rfl⟩ ?_
  refine k_if_ne G (dc d_Tx_readMonths 4 rfl) (tgt := 12) rfl (fun c4 => ?_) (fun c4 => ?_)
  · replace h := kOk_n c4 h
    refine k_aload_n G (dc d_Tx_readMonths 7 rfl) 0 rfl rfl ?_
    refine k_aload_n G (dc d_Tx_readMonths 8 rfl) 0 rfl rfl ?_
    refine k_getI G kc3 (dc d_Tx_readMonths 9 rfl) (okL_lt hu (o := 0) 0 rfl) (okL_k hu (o := 0) 0 rfl) 5 (by decide) rfl fl_RX3_36 ?_
    refine kJ h (fun r6 => KK X B L 1 0 0 M3 25 [(0, .ref (B.1 + u))] [.int r6, .ref (B.1 + u)]) (fun r6 h => ?_) (fun h => ?_)
    · obtain ⟨t5, rfl⟩ : ∃ z, z = r6 := ⟨_, rfl⟩
      show KK X B L 1 0 0 M3 25 [(0, .ref (B.1 + u))] [.int t5, .ref (B.1 + u)]
      refine k_aload_n G (dc d_Tx_readMonths 14 rfl) 0 rfl rfl ?_
      refine k_getI G kc3 (dc d_Tx_readMonths 15 rfl) (okL_lt hu (o := 0) 0 rfl) (okL_k hu (o := 0) 0 rfl) 5 (by decide) rfl fl_RX3_36 ?_
      refine k_bipush G (dc d_Tx_readMonths 16 rfl) cB_6 ?_
      refine kJ h (fun r8 => KK X B L 1 0 0 M3 40 [] [.int r8, .int t5, .ref (B.1 + u)]) (fun r8 h => ?_) (fun h => ?_)
      · obtain ⟨t7, rfl⟩ : ∃ z, z = r8 := ⟨_, rfl⟩
        show KK X B L 1 0 0 M3 40 [] [.int t7, .int t5, .ref (B.1 + u)]
        obtain ⟨⟨x10, M11⟩, e9, h⟩ := kOk_b h
        refine k_cVI G (dc d_Tx_readMonths 21 rfl) kc3 (okL_lt hu (o := 0) 0 rfl) (okL_k hu (o := 0) 0 rfl) mi_Tx_readDigit mv_Tx_readDigit rfl ml_RX3_50 (c_Tx_readDigit (gst G) hu e9) rfl rfl ⟨rfl, rfl⟩ rfl ⟨rfl, rfl⟩ ⟨rfl, rfl⟩ ?_
        obtain ⟨z12, e13, h⟩ := kOk_b h
        obtain ⟨e13, nz12, -⟩ := kz_ok e13
        rw [e13]
        exact (kOk_s h) _ _ _ _ rfl rfl nz12 (dc d_Tx_readMonths 22 rfl)
      · refine k_icmp_ne G (dc d_Tx_readMonths 17 rfl) (tgt := 38) rfl (fun c14 => ?_) (fun c14 => ?_)
        · replace h := kOk_n c14 h
          refine k_bipush G (dc d_Tx_readMonths 20 rfl) cB_9 ?_
          refine k_sub [] rfl ?_
          have h9 := kOk_s h
          exact h9
        · replace h := kOk_p c14 h
          refine k_iconst G (dc d_Tx_readMonths 18 rfl) cI_0 ?_
          refine k_goto G (dc d_Tx_readMonths 19 rfl) (tgt := 40) rfl ?_
          refine k_sub [] rfl ?_
          have h9 := kOk_s h
          exact h9
    · refine k_if_ne G (dc d_Tx_readMonths 10 rfl) (tgt := 24) rfl (fun c15 => ?_) (fun c15 => ?_)
      · replace h := kOk_n c15 h
        refine k_iconst G (dc d_Tx_readMonths 13 rfl) cI_0 ?_
        have h9 := kOk_s h
        exact h9
      · replace h := kOk_p c15 h
        refine k_iconst G (dc d_Tx_readMonths 11 rfl) cI_1 ?_
        refine k_goto G (dc d_Tx_readMonths 12 rfl) (tgt := 25) rfl ?_
        have h9 := kOk_s h
        exact h9
  · replace h := kOk_p c4 h
    refine k_iconst G (dc d_Tx_readMonths 5 rfl) cI_0 ?_
    obtain ⟨z16, e17, h⟩ := kOk_b h
    obtain ⟨e17, nz16, -⟩ := kz_ok e17
    rw [e17]
    exact (kOk_s h) _ _ _ _ rfl rfl nz16 (dc d_Tx_readMonths 6 rfl)
theorem c_Tx_readMonths {l : Launch} {B : KB} {L : KLay} {M : KMem} {u : Nat} (hst : l.stackTraces = false) (hu : okL L u txT) {r : Int32} {M' : KMem} (e : m_Tx_readMonths u M = some (r, M')) : CtrN l B yX3_readMonths cX3_readMonths 1 (some .boolean) rm_Tx_readMonths [.ref (B.1 + u)] L M (some (.int r)) L M' :=
  mk_I rfl hst rfl (fun X hl G _ R => b_Tx_readMonths G hu ⟨_, e, R⟩)
def I_Tx_readCommand : List (Nat × Instr × Nat) := [(0, .aload_n 0, 1), (1, .iconst 0, 1), (2, .putfield 36, 3), (5, .aload_n 0, 1), (6, .invokevirtual 26, 3), (9, .ifCond .eq 21, 3), (12, .ldc 39, 2), (14, .aload_n 0, 1), (15, .getfield 9, 3), (18, .aload_n 0, 1), (19, .getfield 23, 3), (22, .iaload, 1), (23, .i2c, 1), (24, .invokevirtual 41, 3), (27, .ifCond .ge 5, 3), (30, .iconst 0, 1), (31, .ireturn, 1), (32, .aload_n 0, 1), (33, .aload_n 0, 1), (34, .getfield 9, 3), (37, .aload_n 0, 1), (38, .getfield 23, 3), (41, .iaload, 1), (42, .putfield 47, 3), (45, .aload_n 0, 1), (46, .dup, 1), (47, .getfield 23, 3), (50, .iconst 1, 1), (51, .iadd, 1), (52, .putfield 23, 3), (55, .aload_n 0, 1), (56, .getfield 47, 3), (59, .tableswitch 155 106 121 #[99, 155, 155, 142, 155, 155, 134, 155, 126, 77, 155, 155, 155, 155, 155, 147], 77), (136, .aload_n 0, 1), (137, .iconst 0, 1), (138, .iconst 3, 1), (139, .invokevirtual 50, 3), (142, .ifCond .eq 14, 3), (145, .aload_n 0, 1), (146, .invokevirtual 54, 3), (149, .ifCond .eq 7, 3), (152, .iconst 1, 1), (153, .goto 4, 3), (156, .iconst 0, 1), (157, .ireturn, 1), (158, .aload_n 0, 1), (159, .invokevirtual 57, 3), (162, .ifCond .eq 21, 3), (165, .aload_n 0, 1), (166, .invokevirtual 57, 3), (169, .ifCond .eq 14, 3), (172, .aload_n 0, 1), (173, .invokevirtual 57, 3), (176, .ifCond .eq 7, 3), (179, .iconst 1, 1), (180, .goto 4, 3), (183, .iconst 0, 1), (184, .ireturn, 1), (185, .aload_n 0, 1), (186, .iconst 0, 1), (187, .bipush 9, 2), (189, .invokevirtual 50, 3), (192, .ireturn, 1), (193, .aload_n 0, 1), (194, .iconst 0, 1), (195, .bipush 7, 2), (197, .invokevirtual 50, 3), (200, .ireturn, 1), (201, .aload_n 0, 1), (202, .invokevirtual 60, 3), (205, .ireturn, 1), (206, .aload_n 0, 1), (207, .iconst 1, 1), (208, .bipush 9, 2), (210, .invokevirtual 50, 3), (213, .ireturn, 1), (214, .aload_n 0, 1), (215, .invokevirtual 57, 3), (218, .ireturn, 1)]
set_option maxRecDepth 100000 in
theorem d_Tx_readCommand : decA cX3_readCommand I_Tx_readCommand = true := by decide +kernel
abbrev rm_Tx_readCommand : Room := ({ frames := 4, cells := 0, slots := 0, locals := 91 } : Room)
def m_Tx_readCommand (u : Nat) (M : KMem) : Option (Int32 × KMem) :=
 Option.bind (some (kup M u 5 0)) fun M2 =>
 Option.bind (m_Tx_hasMore u M2) fun x4 =>
 if x4 = 0 then
 (Option.bind (kz 0) fun z6 =>
 some (z6, M2))
 else
 (Option.bind (rdI M2 (u + 1) 120 (M2 u 2)) fun x9 =>
 Option.bind (m_Sg_indexOf (jchar x9) M2) fun x11 =>
 if 0 ≤ x11 then
 (Option.bind (rdI M2 (u + 1) 120 (M2 u 2)) fun x14 =>
 Option.bind (some (kup M2 u 3 x14)) fun M16 =>
 Option.bind (some (kup M16 u 2 ((M16 u 2) + 1))) fun M18 =>
 if (M18 u 3) = 106 then
 (Option.bind (m_Tx_readLetter u M18) fun (x26, M27) =>
 Option.bind (α := Int32 × KMem) (if x26 = 0 then
 (some (0, M27))
 else
 (Option.bind (m_Tx_readLetter u M27) fun (x35, M36) =>
 if x35 = 0 then
 (some (0, M36))
 else
 (Option.bind (m_Tx_readLetter u M36) fun (x39, M40) =>
 if x39 = 0 then
 (some (0, M40))
 else
 (some (1, M40))))) fun (t28, M29) =>
 Option.bind (kz t28) fun z31 =>
 some (z31, M29))
 else
 (if (M18 u 3) = 109 then
 (Option.bind (m_Tx_readMonths u M18) fun (x44, M45) =>
 Option.bind (kz x44) fun z46 =>
 some (z46, M45))
 else
 (if (M18 u 3) = 112 then
 (Option.bind (m_Tx_readDigit u 0 7 M18) fun (x50, M51) =>
 Option.bind (kz x50) fun z52 =>
 some (z52, M51))
 else
 (if (M18 u 3) = 114 then
 (Option.bind (m_Tx_readDigit u 0 9 M18) fun (x56, M57) =>
 Option.bind (kz x56) fun z58 =>
 some (z58, M57))
 else
 (if (M18 u 3) = 115 then
 (Option.bind (m_Tx_readDigit u 0 3 M18) fun (x62, M63) =>
 Option.bind (α := Int32 × KMem) (if x62 = 0 then
 (some (0, M63))
 else
 (Option.bind (m_Tx_readWord u M63) fun (x71, M72) =>
 if x71 = 0 then
 (some (0, M72))
 else
 (some (1, M72)))) fun (t64, M65) =>
 Option.bind (kz t64) fun z67 =>
 some (z67, M65))
 else
 (if (M18 u 3) = 121 then
 (Option.bind (m_Tx_readDigit u 1 9 M18) fun (x76, M77) =>
 Option.bind (kz x76) fun z78 =>
 some (z78, M77))
 else
 (Option.bind (m_Tx_readLetter u M18) fun (x82, M83) =>
 Option.bind (kz x82) fun z84 =>
 some (z84, M83))))))))
 else
 (Option.bind (kz 0) fun z87 =>
 some (z87, M2)))
set_option maxHeartbeats 4000000 in
set_option maxRecDepth 100000 in
theorem b_Tx_readCommand {X : KX} {B : KB} {L : KLay} {M : KMem} {u : Nat} (G : Good X B RX3 cX3_readCommand 1 rm_Tx_readCommand) (hu : okL L u txT) (h : kOk (m_Tx_readCommand u M) (fun r => RI X B L 1 cX3_readCommand .boolean rm_Tx_readCommand r.1 r.2)) : KK X B L 1 0 0 M 0 [(0, .ref (B.1 + u))] [] := by
  unfold m_Tx_readCommand at h
  refine k_aload_n G (dc d_Tx_readCommand 0 rfl) 0 rfl rfl ?_
  refine k_iconst G (dc d_Tx_readCommand 1 rfl) cI_0 ?_
  obtain ⟨M2, e1, h⟩ := kOk_b h
  refine k_putI G kc3 (dc d_Tx_readCommand 2 rfl) (okL_lt hu (o := 0) 0 rfl) (okL_k hu (o := 0) 0 rfl) 5 (by decide) rfl rfl fl_RX3_36 rfl rfl e1 ?_
  refine k_aload_n G (dc d_Tx_readCommand 3 rfl) 0 rfl rfl ?_
  obtain ⟨x4, e3, h⟩ := kOk_b h
  refine k_cVI G (dc d_Tx_readCommand 4 rfl) kc3 (okL_lt hu (o := 0) 0 rfl) (okL_k hu (o := 0) 0 rfl) mi_Tx_hasMore mv_Tx_hasMore rfl ml_RX3_26 (c_Tx_hasMore (gst G) hu e3) rfl rfl ⟨rfl, rfl⟩ rfl ⟨rfl, rfl⟩ ⟨rfl, rfl⟩ ?_
  refine k_if_eq G (dc d_Tx_readCommand 5 rfl) (tgt := 30) rfl (fun c5 => ?_) (fun c5 => ?_)
  · replace h := kOk_p c5 h
    refine k_iconst G (dc d_Tx_readCommand 15 rfl) cI_0 ?_
    obtain ⟨z6, e7, h⟩ := kOk_b h
    obtain ⟨e7, nz6, -⟩ := kz_ok e7
    rw [e7]
    exact (kOk_s h) _ _ _ _ rfl rfl nz6 (dc d_Tx_readCommand 16 rfl)
  · replace h := kOk_n c5 h
    refine k_ldcS G rfl (dc d_Tx_readCommand 6 rfl) ?_
    refine k_aload_n G (dc d_Tx_readCommand 7 rfl) 0 rfl rfl ?_
    refine k_getR G kc3 (dc d_Tx_readCommand 8 rfl) (okL_lt hu (o := 0) 0 rfl) (okL_k hu (o := 0) 0 rfl) 0 (by decide) rfl fl_RX3_9 (u + 1) (okL_r hu (o := 0) (c := 1) 0 rfl 0 rfl) ?_
    refine k_aload_n G (dc d_Tx_readCommand 9 rfl) 0 rfl rfl ?_
    refine k_getI G kc3 (dc d_Tx_readCommand 10 rfl) (okL_lt hu (o := 0) 0 rfl) (okL_k hu (o := 0) 0 rfl) 2 (by decide) rfl fl_RX3_23 ?_
    obtain ⟨x9, e8, h⟩ := kOk_b h
    refine k_ild G (dc d_Tx_readCommand 11 rfl) (okL_lt hu (o := 1) 1 rfl) (okL_k hu (o := 1) 1 rfl) (okL_n hu (o := 1) 1 rfl) e8 ?_
    refine k_i2c G (dc d_Tx_readCommand 12 rfl) ?_
    obtain ⟨x11, e10, h⟩ := kOk_b h
    refine k_cTI G (dc d_Tx_readCommand 13 rfl) mi_Sg_indexOf mv_Sg_indexOf rfl ml_RX3_41 (c_Sg_indexOf (gst G)  e10) rfl rfl ⟨rfl, rfl⟩ rfl ⟨rfl, rfl⟩ ⟨rfl, rfl⟩ ?_
    refine k_if_ge G (dc d_Tx_readCommand 14 rfl) (tgt := 32) rfl (fun c12 => ?_) (fun c12 => ?_)
    · replace h := kOk_p c12 h
      refine k_aload_n G (dc d_Tx_readCommand 17 rfl) 0 rfl rfl ?_
      refine k_aload_n G (dc d_Tx_readCommand 18 rfl) 0 rfl rfl ?_
      refine k_getR G kc3 (dc d_Tx_readCommand 19 rfl) (okL_lt hu (o := 0) 0 rfl) (okL_k hu (o := 0) 0 rfl) 0 (by decide) rfl fl_RX3_9 (u + 1) (okL_r hu (o := 0) (c := 1) 0 rfl 0 rfl) ?_
      refine k_aload_n G (dc d_Tx_readCommand 20 rfl) 0 rfl rfl ?_
      refine k_getI G kc3 (dc d_Tx_readCommand 21 rfl) (okL_lt hu (o := 0) 0 rfl) (okL_k hu (o := 0) 0 rfl) 2 (by decide) rfl fl_RX3_23 ?_
      obtain ⟨x14, e13, h⟩ := kOk_b h
      refine k_ild G (dc d_Tx_readCommand 22 rfl) (okL_lt hu (o := 1) 1 rfl) (okL_k hu (o := 1) 1 rfl) (okL_n hu (o := 1) 1 rfl) e13 ?_
      obtain ⟨M16, e15, h⟩ := kOk_b h
      refine k_putI G kc3 (dc d_Tx_readCommand 23 rfl) (okL_lt hu (o := 0) 0 rfl) (okL_k hu (o := 0) 0 rfl) 3 (by decide) rfl rfl fl_RX3_47 rfl rfl e15 ?_
      refine k_aload_n G (dc d_Tx_readCommand 24 rfl) 0 rfl rfl ?_
      refine k_dup G (dc d_Tx_readCommand 25 rfl) rfl ?_
      refine k_getI G kc3 (dc d_Tx_readCommand 26 rfl) (okL_lt hu (o := 0) 0 rfl) (okL_k hu (o := 0) 0 rfl) 2 (by decide) rfl fl_RX3_23 ?_
      refine k_iconst G (dc d_Tx_readCommand 27 rfl) cI_1 ?_
      refine k_iadd G (dc d_Tx_readCommand 28 rfl) ?_
      obtain ⟨M18, e17, h⟩ := kOk_b h
      refine k_putI G kc3 (dc d_Tx_readCommand 29 rfl) (okL_lt hu (o := 0) 0 rfl) (okL_k hu (o := 0) 0 rfl) 2 (by decide) rfl rfl fl_RX3_23 rfl rfl e17 ?_
      refine k_aload_n G (dc d_Tx_readCommand 30 rfl) 0 rfl rfl ?_
      refine k_getI G kc3 (dc d_Tx_readCommand 31 rfl) (okL_lt hu (o := 0) 0 rfl) (okL_k hu (o := 0) 0 rfl) 3 (by decide) rfl fl_RX3_47 ?_
      by_cases c19 : (M18 u 3) = 106
      · replace h := kOk_p c19 h
        refine k_tsI G (dc d_Tx_readCommand 32 rfl) (off := 99) (tgt := 158) c19 (by decide) (by decide) (by decide) (by decide) ?_
        refine k_aload_n G (dc d_Tx_readCommand 45 rfl) 0 rfl rfl ?_
        obtain ⟨⟨x26, M27⟩, e25, h⟩ := kOk_b h
        refine k_cVI G (dc d_Tx_readCommand 46 rfl) kc3 (okL_lt hu (o := 0) 0 rfl) (okL_k hu (o := 0) 0 rfl) mi_Tx_readLetter mv_Tx_readLetter rfl ml_RX3_57 (c_Tx_readLetter (gst G) hu e25) rfl rfl ⟨rfl, rfl⟩ rfl ⟨rfl, rfl⟩ ⟨rfl, rfl⟩ ?_
        refine kJ h (fun r30 => KK X B L 1 0 0 r30.2 184 [] [.int r30.1]) (fun r30 h => ?_) (fun h => ?_)
        · obtain ⟨t28, M29⟩ := r30
          show KK X B L 1 0 0 M29 184 [] [.int t28]
          obtain ⟨z31, e32, h⟩ := kOk_b h
          obtain ⟨e32, nz31, -⟩ := kz_ok e32
          rw [e32]
          exact (kOk_s h) _ _ _ _ rfl rfl nz31 (dc d_Tx_readCommand 57 rfl)
        · refine k_if_eq G (dc d_Tx_readCommand 47 rfl) (tgt := 183) rfl (fun c33 => ?_) (fun c33 => ?_)
          · replace h := kOk_p c33 h
            refine k_iconst G (dc d_Tx_readCommand 56 rfl) cI_0 ?_
            refine k_sub [] rfl ?_
            have h9 := kOk_s h
            exact h9
          · replace h := kOk_n c33 h
            refine k_aload_n G (dc d_Tx_readCommand 48 rfl) 0 rfl rfl ?_
            obtain ⟨⟨x35, M36⟩, e34, h⟩ := kOk_b h
            refine k_cVI G (dc d_Tx_readCommand 49 rfl) kc3 (okL_lt hu (o := 0) 0 rfl) (okL_k hu (o := 0) 0 rfl) mi_Tx_readLetter mv_Tx_readLetter rfl ml_RX3_57 (c_Tx_readLetter (gst G) hu e34) rfl rfl ⟨rfl, rfl⟩ rfl ⟨rfl, rfl⟩ ⟨rfl, rfl⟩ ?_
            refine k_if_eq G (dc d_Tx_readCommand 50 rfl) (tgt := 183) rfl (fun c37 => ?_) (fun c37 => ?_)
            · replace h := kOk_p c37 h
              refine k_iconst G (dc d_Tx_readCommand 56 rfl) cI_0 ?_
              refine k_sub [] rfl ?_
              have h9 := kOk_s h
              exact h9
            · replace h := kOk_n c37 h
              refine k_aload_n G (dc d_Tx_readCommand 51 rfl) 0 rfl rfl ?_
              obtain ⟨⟨x39, M40⟩, e38, h⟩ := kOk_b h
              refine k_cVI G (dc d_Tx_readCommand 52 rfl) kc3 (okL_lt hu (o := 0) 0 rfl) (okL_k hu (o := 0) 0 rfl) mi_Tx_readLetter mv_Tx_readLetter rfl ml_RX3_57 (c_Tx_readLetter (gst G) hu e38) rfl rfl ⟨rfl, rfl⟩ rfl ⟨rfl, rfl⟩ ⟨rfl, rfl⟩ ?_
              refine k_if_eq G (dc d_Tx_readCommand 53 rfl) (tgt := 183) rfl (fun c41 => ?_) (fun c41 => ?_)
              · replace h := kOk_p c41 h
                refine k_iconst G (dc d_Tx_readCommand 56 rfl) cI_0 ?_
                refine k_sub [] rfl ?_
                have h9 := kOk_s h
                exact h9
              · replace h := kOk_n c41 h
                refine k_iconst G (dc d_Tx_readCommand 54 rfl) cI_1 ?_
                refine k_goto G (dc d_Tx_readCommand 55 rfl) (tgt := 184) rfl ?_
                refine k_sub [] rfl ?_
                have h9 := kOk_s h
                exact h9
      · replace h := kOk_n c19 h
        by_cases c20 : (M18 u 3) = 109
        · replace h := kOk_p c20 h
          refine k_tsI G (dc d_Tx_readCommand 32 rfl) (off := 142) (tgt := 201) c20 (by decide) (by decide) (by decide) (by decide) ?_
          refine k_aload_n G (dc d_Tx_readCommand 68 rfl) 0 rfl rfl ?_
          obtain ⟨⟨x44, M45⟩, e43, h⟩ := kOk_b h
          refine k_cVI G (dc d_Tx_readCommand 69 rfl) kc3 (okL_lt hu (o := 0) 0 rfl) (okL_k hu (o := 0) 0 rfl) mi_Tx_readMonths mv_Tx_readMonths rfl ml_RX3_60 (c_Tx_readMonths (gst G) hu e43) rfl rfl ⟨rfl, rfl⟩ rfl ⟨rfl, rfl⟩ ⟨rfl, rfl⟩ ?_
          obtain ⟨z46, e47, h⟩ := kOk_b h
          obtain ⟨e47, nz46, -⟩ := kz_ok e47
          rw [e47]
          exact (kOk_s h) _ _ _ _ rfl rfl nz46 (dc d_Tx_readCommand 70 rfl)
        · replace h := kOk_n c20 h
          by_cases c21 : (M18 u 3) = 112
          · replace h := kOk_p c21 h
            refine k_tsI G (dc d_Tx_readCommand 32 rfl) (off := 134) (tgt := 193) c21 (by decide) (by decide) (by decide) (by decide) ?_
            refine k_aload_n G (dc d_Tx_readCommand 63 rfl) 0 rfl rfl ?_
            refine k_iconst G (dc d_Tx_readCommand 64 rfl) cI_0 ?_
            refine k_bipush G (dc d_Tx_readCommand 65 rfl) cB_7 ?_
            obtain ⟨⟨x50, M51⟩, e49, h⟩ := kOk_b h
            refine k_cVI G (dc d_Tx_readCommand 66 rfl) kc3 (okL_lt hu (o := 0) 0 rfl) (okL_k hu (o := 0) 0 rfl) mi_Tx_readDigit mv_Tx_readDigit rfl ml_RX3_50 (c_Tx_readDigit (gst G) hu e49) rfl rfl ⟨rfl, rfl⟩ rfl ⟨rfl, rfl⟩ ⟨rfl, rfl⟩ ?_
            obtain ⟨z52, e53, h⟩ := kOk_b h
            obtain ⟨e53, nz52, -⟩ := kz_ok e53
            rw [e53]
            exact (kOk_s h) _ _ _ _ rfl rfl nz52 (dc d_Tx_readCommand 67 rfl)
          · replace h := kOk_n c21 h
            by_cases c22 : (M18 u 3) = 114
            · replace h := kOk_p c22 h
              refine k_tsI G (dc d_Tx_readCommand 32 rfl) (off := 126) (tgt := 185) c22 (by decide) (by decide) (by decide) (by decide) ?_
              refine k_aload_n G (dc d_Tx_readCommand 58 rfl) 0 rfl rfl ?_
              refine k_iconst G (dc d_Tx_readCommand 59 rfl) cI_0 ?_
              refine k_bipush G (dc d_Tx_readCommand 60 rfl) cB_9 ?_
              obtain ⟨⟨x56, M57⟩, e55, h⟩ := kOk_b h
              refine k_cVI G (dc d_Tx_readCommand 61 rfl) kc3 (okL_lt hu (o := 0) 0 rfl) (okL_k hu (o := 0) 0 rfl) mi_Tx_readDigit mv_Tx_readDigit rfl ml_RX3_50 (c_Tx_readDigit (gst G) hu e55) rfl rfl ⟨rfl, rfl⟩ rfl ⟨rfl, rfl⟩ ⟨rfl, rfl⟩ ?_
              obtain ⟨z58, e59, h⟩ := kOk_b h
              obtain ⟨e59, nz58, -⟩ := kz_ok e59
              rw [e59]
              exact (kOk_s h) _ _ _ _ rfl rfl nz58 (dc d_Tx_readCommand 62 rfl)
            · replace h := kOk_n c22 h
              by_cases c23 : (M18 u 3) = 115
              · replace h := kOk_p c23 h
                refine k_tsI G (dc d_Tx_readCommand 32 rfl) (off := 77) (tgt := 136) c23 (by decide) (by decide) (by decide) (by decide) ?_
                refine k_aload_n G (dc d_Tx_readCommand 33 rfl) 0 rfl rfl ?_
                refine k_iconst G (dc d_Tx_readCommand 34 rfl) cI_0 ?_
                refine k_iconst G (dc d_Tx_readCommand 35 rfl) cI_3 ?_
                obtain ⟨⟨x62, M63⟩, e61, h⟩ := kOk_b h
                refine k_cVI G (dc d_Tx_readCommand 36 rfl) kc3 (okL_lt hu (o := 0) 0 rfl) (okL_k hu (o := 0) 0 rfl) mi_Tx_readDigit mv_Tx_readDigit rfl ml_RX3_50 (c_Tx_readDigit (gst G) hu e61) rfl rfl ⟨rfl, rfl⟩ rfl ⟨rfl, rfl⟩ ⟨rfl, rfl⟩ ?_
                refine kJ h (fun r66 => KK X B L 1 0 0 r66.2 157 [] [.int r66.1]) (fun r66 h => ?_) (fun h => ?_)
                · obtain ⟨t64, M65⟩ := r66
                  show KK X B L 1 0 0 M65 157 [] [.int t64]
                  obtain ⟨z67, e68, h⟩ := kOk_b h
                  obtain ⟨e68, nz67, -⟩ := kz_ok e68
                  rw [e68]
                  exact (kOk_s h) _ _ _ _ rfl rfl nz67 (dc d_Tx_readCommand 44 rfl)
                · refine k_if_eq G (dc d_Tx_readCommand 37 rfl) (tgt := 156) rfl (fun c69 => ?_) (fun c69 => ?_)
                  · replace h := kOk_p c69 h
                    refine k_iconst G (dc d_Tx_readCommand 43 rfl) cI_0 ?_
                    refine k_sub [] rfl ?_
                    have h9 := kOk_s h
                    exact h9
                  · replace h := kOk_n c69 h
                    refine k_aload_n G (dc d_Tx_readCommand 38 rfl) 0 rfl rfl ?_
                    obtain ⟨⟨x71, M72⟩, e70, h⟩ := kOk_b h
                    refine k_cVI G (dc d_Tx_readCommand 39 rfl) kc3 (okL_lt hu (o := 0) 0 rfl) (okL_k hu (o := 0) 0 rfl) mi_Tx_readWord mv_Tx_readWord rfl ml_RX3_54 (c_Tx_readWord (gst G) hu e70) rfl rfl ⟨rfl, rfl⟩ rfl ⟨rfl, rfl⟩ ⟨rfl, rfl⟩ ?_
                    refine k_if_eq G (dc d_Tx_readCommand 40 rfl) (tgt := 156) rfl (fun c73 => ?_) (fun c73 => ?_)
                    · replace h := kOk_p c73 h
                      refine k_iconst G (dc d_Tx_readCommand 43 rfl) cI_0 ?_
                      refine k_sub [] rfl ?_
                      have h9 := kOk_s h
                      exact h9
                    · replace h := kOk_n c73 h
                      refine k_iconst G (dc d_Tx_readCommand 41 rfl) cI_1 ?_
                      refine k_goto G (dc d_Tx_readCommand 42 rfl) (tgt := 157) rfl ?_
                      refine k_sub [] rfl ?_
                      have h9 := kOk_s h
                      exact h9
              · replace h := kOk_n c23 h
                by_cases c24 : (M18 u 3) = 121
                · replace h := kOk_p c24 h
                  refine k_tsI G (dc d_Tx_readCommand 32 rfl) (off := 147) (tgt := 206) c24 (by decide) (by decide) (by decide) (by decide) ?_
                  refine k_aload_n G (dc d_Tx_readCommand 71 rfl) 0 rfl rfl ?_
                  refine k_iconst G (dc d_Tx_readCommand 72 rfl) cI_1 ?_
                  refine k_bipush G (dc d_Tx_readCommand 73 rfl) cB_9 ?_
                  obtain ⟨⟨x76, M77⟩, e75, h⟩ := kOk_b h
                  refine k_cVI G (dc d_Tx_readCommand 74 rfl) kc3 (okL_lt hu (o := 0) 0 rfl) (okL_k hu (o := 0) 0 rfl) mi_Tx_readDigit mv_Tx_readDigit rfl ml_RX3_50 (c_Tx_readDigit (gst G) hu e75) rfl rfl ⟨rfl, rfl⟩ rfl ⟨rfl, rfl⟩ ⟨rfl, rfl⟩ ?_
                  obtain ⟨z78, e79, h⟩ := kOk_b h
                  obtain ⟨e79, nz78, -⟩ := kz_ok e79
                  rw [e79]
                  exact (kOk_s h) _ _ _ _ rfl rfl nz78 (dc d_Tx_readCommand 75 rfl)
                · replace h := kOk_n c24 h
                  have hD86 : KK X B L 1 0 0 M18 214 [(0, .ref (B.1 + u))] [] := by
                    refine k_aload_n G (dc d_Tx_readCommand 76 rfl) 0 rfl rfl ?_
                    obtain ⟨⟨x82, M83⟩, e81, h⟩ := kOk_b h
                    refine k_cVI G (dc d_Tx_readCommand 77 rfl) kc3 (okL_lt hu (o := 0) 0 rfl) (okL_k hu (o := 0) 0 rfl) mi_Tx_readLetter mv_Tx_readLetter rfl ml_RX3_57 (c_Tx_readLetter (gst G) hu e81) rfl rfl ⟨rfl, rfl⟩ rfl ⟨rfl, rfl⟩ ⟨rfl, rfl⟩ ?_
                    obtain ⟨z84, e85, h⟩ := kOk_b h
                    obtain ⟨e85, nz84, -⟩ := kz_ok e85
                    rw [e85]
                    exact (kOk_s h) _ _ _ _ rfl rfl nz84 (dc d_Tx_readCommand 78 rfl)
                  rcases ts_out (M18 u 3) 106 121 with ho | ⟨k9, h91, h92, h93⟩
                  · exact k_tableOut G (dc d_Tx_readCommand 32 rfl) (tgt := 214) ho rfl hD86
                  · have h94 : k9 = 106 ∨ k9 = 107 ∨ k9 = 108 ∨ k9 = 109 ∨ k9 = 110 ∨ k9 = 111 ∨ k9 = 112 ∨ k9 = 113 ∨ k9 = 114 ∨ k9 = 115 ∨ k9 = 116 ∨ k9 = 117 ∨ k9 = 118 ∨ k9 = 119 ∨ k9 = 120 ∨ k9 = 121 := by omega
                    rcases h94 with rfl | rfl | rfl | rfl | rfl | rfl | rfl | rfl | rfl | rfl | rfl | rfl | rfl | rfl | rfl | rfl
                    · exact absurd (h93.trans cI_106) c19
                    · exact k_tsI G (dc d_Tx_readCommand 32 rfl) (off := 155) (tgt := 214) (h93.trans cI_107) (by decide) (by decide) (by decide) (by decide) hD86
                    · exact k_tsI G (dc d_Tx_readCommand 32 rfl) (off := 155) (tgt := 214) (h93.trans cI_108) (by decide) (by decide) (by decide) (by decide) hD86
                    · exact absurd (h93.trans cI_109) c20
                    · exact k_tsI G (dc d_Tx_readCommand 32 rfl) (off := 155) (tgt := 214) (h93.trans cI_110) (by decide) (by decide) (by decide) (by decide) hD86
                    · exact k_tsI G (dc d_Tx_readCommand 32 rfl) (off := 155) (tgt := 214) (h93.trans cI_111) (by decide) (by decide) (by decide) (by decide) hD86
                    · exact absurd (h93.trans cI_112) c21
                    · exact k_tsI G (dc d_Tx_readCommand 32 rfl) (off := 155) (tgt := 214) (h93.trans cI_113) (by decide) (by decide) (by decide) (by decide) hD86
                    · exact absurd (h93.trans cI_114) c22
                    · exact absurd (h93.trans cI_115) c23
                    · exact k_tsI G (dc d_Tx_readCommand 32 rfl) (off := 155) (tgt := 214) (h93.trans cI_116) (by decide) (by decide) (by decide) (by decide) hD86
                    · exact k_tsI G (dc d_Tx_readCommand 32 rfl) (off := 155) (tgt := 214) (h93.trans cI_117) (by decide) (by decide) (by decide) (by decide) hD86
                    · exact k_tsI G (dc d_Tx_readCommand 32 rfl) (off := 155) (tgt := 214) (h93.trans cI_118) (by decide) (by decide) (by decide) (by decide) hD86
                    · exact k_tsI G (dc d_Tx_readCommand 32 rfl) (off := 155) (tgt := 214) (h93.trans cI_119) (by decide) (by decide) (by decide) (by decide) hD86
                    · exact k_tsI G (dc d_Tx_readCommand 32 rfl) (off := 155) (tgt := 214) (h93.trans cI_120) (by decide) (by decide) (by decide) (by decide) hD86
                    · exact absurd (h93.trans cI_121) c24
    · replace h := kOk_n c12 h
      refine k_iconst G (dc d_Tx_readCommand 15 rfl) cI_0 ?_
      obtain ⟨z87, e88, h⟩ := kOk_b h
      obtain ⟨e88, nz87, -⟩ := kz_ok e88
      rw [e88]
      exact (kOk_s h) _ _ _ _ rfl rfl nz87 (dc d_Tx_readCommand 16 rfl)
theorem c_Tx_readCommand {l : Launch} {B : KB} {L : KLay} {M : KMem} {u : Nat} (hst : l.stackTraces = false) (hu : okL L u txT) {r : Int32} {M' : KMem} (e : m_Tx_readCommand u M = some (r, M')) : CtrN l B yX3_readCommand cX3_readCommand 1 (some .boolean) rm_Tx_readCommand [.ref (B.1 + u)] L M (some (.int r)) L M' :=
  mk_I rfl hst rfl (fun X hl G _ R => b_Tx_readCommand G hu ⟨_, e, R⟩)
def I_Tx_firstError : List (Nat × Instr × Nat) := [(0, .aload_n 0, 1), (1, .invokevirtual 19, 3), (4, .ifCond .ne 8, 3), (7, .aload_n 0, 1), (8, .getfield 23, 3), (11, .ireturn, 1), (12, .iconst 0, 1), (13, .istore_n 1, 1), (14, .iload_n 1, 1), (15, .bipush 120, 2), (17, .if_icmp .ge 28, 3), (20, .aload_n 0, 1), (21, .invokevirtual 26, 3), (24, .ifCond .eq 21, 3), (27, .aload_n 0, 1), (28, .invokevirtual 29, 3), (31, .ifCond .ne 8, 3), (34, .aload_n 0, 1), (35, .getfield 23, 3), (38, .ireturn, 1), (39, .iinc 1 1, 3), (42, .goto (-28), 3), (45, .iconst (-1), 1), (46, .ireturn, 1)]
set_option maxRecDepth 100000 in
theorem d_Tx_firstError : decA cX3_firstError I_Tx_firstError = true := by decide +kernel
abbrev rm_Tx_firstError : Room := ({ frames := 5, cells := 0, slots := 0, locals := 111 } : Room)
def m_Tx_firstError_l14 (u : Nat) : (Int32 × KMem) → Option ((Int32 × KMem) ⊕ ((Int32 × KMem) ⊕ KMem)) := fun (v1_5, M6) =>
 if 120 ≤ v1_5 then
 (some (.inr (.inr M6)))
 else
 (Option.bind (m_Tx_hasMore u M6) fun x9 =>
 if x9 = 0 then
 (some (.inr (.inr M6)))
 else
 (Option.bind (m_Tx_readCommand u M6) fun (x12, M13) =>
 if x12 = 0 then
 (some (.inr (.inl (M13 u 2, M13))))
 else
 (some (.inl (v1_5 + 1, M13)))))
def m_Tx_firstError (u : Nat) (M : KMem) : Option (Int32 × KMem) :=
 Option.bind (m_Tx_restart u M) fun (x2, M3) =>
 if x2 = 0 then
 (some (M3 u 2, M3))
 else
 (Option.bind (α := (Int32 × KMem) ⊕ KMem) (kLp (m_Tx_firstError_l14 u) kFU (0, M3)) fun r => match r with
 | .inl q => some q
 | .inr M15 =>
 (some ((-1), M15)))
set_option maxHeartbeats 4000000 in
set_option maxRecDepth 100000 in
theorem b_Tx_firstError {X : KX} {B : KB} {L : KLay} {M : KMem} {u : Nat} (G : Good X B RX3 cX3_firstError 2 rm_Tx_firstError) (hu : okL L u txT) (h : kOk (m_Tx_firstError u M) (fun r => RI X B L 2 cX3_firstError .int rm_Tx_firstError r.1 r.2)) : KK X B L 2 0 0 M 0 [(0, .ref (B.1 + u))] [] := by
  unfold m_Tx_firstError at h
  refine k_aload_n G (dc d_Tx_firstError 0 rfl) 0 rfl rfl ?_
  obtain ⟨⟨x2, M3⟩, e1, h⟩ := kOk_b h
  refine k_cVI G (dc d_Tx_firstError 1 rfl) kc3 (okL_lt hu (o := 0) 0 rfl) (okL_k hu (o := 0) 0 rfl) mi_Tx_restart mv_Tx_restart rfl ml_RX3_19 (c_Tx_restart (gst G) hu e1) rfl rfl ⟨rfl, rfl⟩ rfl ⟨rfl, rfl⟩ ⟨rfl, rfl⟩ ?_
  refine k_if_ne G (dc d_Tx_firstError 2 rfl) (tgt := 12) rfl (fun c4 => ?_) (fun c4 => ?_)
  · replace h := kOk_n c4 h
    refine k_iconst G (dc d_Tx_firstError 6 rfl) cI_0 ?_
    refine k_istore_n G (dc d_Tx_firstError 7 rfl) (ls' := [(1, .int 0), (0, .ref (B.1 + u))]) rfl rfl rfl ?_
    refine kJ h (fun r16 => match r16 with | .inl q => RI X B L 2 cX3_firstError .int rm_Tx_firstError q.1 q.2 | .inr r16 => KK X B L 2 0 0 r16 45 [] []) (fun r16 h => ?_) (fun h => ?_)
    · rcases r16 with q | r16
      · have h9 := kOk_s h
        exact h9
      · obtain ⟨M15, rfl⟩ : ∃ z, z = r16 := ⟨_, rfl⟩
        show KK X B L 2 0 0 M15 45 [] []
        refine k_iconst G (dc d_Tx_firstError 22 rfl) cI_m1 ?_
        exact (kOk_s h) _ _ _ _ rfl rfl rfl (dc d_Tx_firstError 23 rfl)
    · refine k_sub [1, 0] rfl ?_
      refine kLp_ok (P := fun s17 => KK X B L 2 0 0 s17.2 14 [(0, .ref (B.1 + u)), (1, .int s17.1)] []) (fun s17 h => ?_) kFU _ h
      obtain ⟨v1_5, M6⟩ := s17
      unfold m_Tx_firstError_l14 at h
      show KK X B L 2 0 0 M6 14 [(0, .ref (B.1 + u)), (1, .int v1_5)] []
      refine k_iload_n G (dc d_Tx_firstError 8 rfl) 1 rfl rfl ?_
      refine k_bipush G (dc d_Tx_firstError 9 rfl) cB_120 ?_
      refine k_icmp_ge G (dc d_Tx_firstError 10 rfl) (tgt := 45) rfl (fun c7 => ?_) (fun c7 => ?_)
      · replace h := kOk_p c7 h
        refine k_sub [] rfl ?_
        have h9 := kOk_s h
        exact h9
      · replace h := kOk_n c7 h
        refine k_aload_n G (dc d_Tx_firstError 11 rfl) 0 rfl rfl ?_
        obtain ⟨x9, e8, h⟩ := kOk_b h
        refine k_cVI G (dc d_Tx_firstError 12 rfl) kc3 (okL_lt hu (o := 0) 0 rfl) (okL_k hu (o := 0) 0 rfl) mi_Tx_hasMore mv_Tx_hasMore rfl ml_RX3_26 (c_Tx_hasMore (gst G) hu e8) rfl rfl ⟨rfl, rfl⟩ rfl ⟨rfl, rfl⟩ ⟨rfl, rfl⟩ ?_
        refine k_if_eq G (dc d_Tx_firstError 13 rfl) (tgt := 45) rfl (fun c10 => ?_) (fun c10 => ?_)
        · replace h := kOk_p c10 h
          refine k_sub [] rfl ?_
          have h9 := kOk_s h
          exact h9
        · replace h := kOk_n c10 h
          refine k_aload_n G (dc d_Tx_firstError 14 rfl) 0 rfl rfl ?_
          obtain ⟨⟨x12, M13⟩, e11, h⟩ := kOk_b h
          refine k_cVI G (dc d_Tx_firstError 15 rfl) kc3 (okL_lt hu (o := 0) 0 rfl) (okL_k hu (o := 0) 0 rfl) mi_Tx_readCommand mv_Tx_readCommand rfl ml_RX3_29 (c_Tx_readCommand (gst G) hu e11) rfl rfl ⟨rfl, rfl⟩ rfl ⟨rfl, rfl⟩ ⟨rfl, rfl⟩ ?_
          refine k_if_ne G (dc d_Tx_firstError 16 rfl) (tgt := 39) rfl (fun c14 => ?_) (fun c14 => ?_)
          · replace h := kOk_n c14 h
            refine k_iinc G (dc d_Tx_firstError 20 rfl) (ls' := [(1, .int (v1_5 + 1)), (0, .ref (B.1 + u))]) 1 rfl cI_1 rfl rfl ?_
            refine k_goto G (dc d_Tx_firstError 21 rfl) (tgt := 14) rfl ?_
            refine k_sub [1, 0] rfl ?_
            have h9 := kOk_s h
            exact h9
          · replace h := kOk_p c14 h
            refine k_aload_n G (dc d_Tx_firstError 17 rfl) 0 rfl rfl ?_
            refine k_getI G kc3 (dc d_Tx_firstError 18 rfl) (okL_lt hu (o := 0) 0 rfl) (okL_k hu (o := 0) 0 rfl) 2 (by decide) rfl fl_RX3_23 ?_
            exact (kOk_s h) _ _ _ _ rfl rfl rfl (dc d_Tx_firstError 19 rfl)
  · replace h := kOk_p c4 h
    refine k_aload_n G (dc d_Tx_firstError 3 rfl) 0 rfl rfl ?_
    refine k_getI G kc3 (dc d_Tx_firstError 4 rfl) (okL_lt hu (o := 0) 0 rfl) (okL_k hu (o := 0) 0 rfl) 2 (by decide) rfl fl_RX3_23 ?_
    exact (kOk_s h) _ _ _ _ rfl rfl rfl (dc d_Tx_firstError 5 rfl)
theorem c_Tx_firstError {l : Launch} {B : KB} {L : KLay} {M : KMem} {u : Nat} (hst : l.stackTraces = false) (hu : okL L u txT) {r : Int32} {M' : KMem} (e : m_Tx_firstError u M = some (r, M')) : CtrN l B yX3_firstError cX3_firstError 2 (some .int) rm_Tx_firstError [.ref (B.1 + u)] L M (some (.int r)) L M' :=
  mk_I rfl hst rfl (fun X hl G _ R => b_Tx_firstError G hu ⟨_, e, R⟩)
