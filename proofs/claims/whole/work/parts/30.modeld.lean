/-! laid by wip/whole/lay.py: Mo_append, Mo_clearText, Mo_isNext, Mo_takes, Mo_readWord, Mo_readMonths, Mo_readCommand, Mo_goesThrough, Mo_errorPosition, Mo_load -/
def I_Mo_append : List (Nat × Instr × Nat) := [(0, .aload_n 0, 1), (1, .iload_n 1, 1), (2, .iconst 0, 1), (3, .sipush 255, 3), (6, .invokestatic 41, 3), (9, .ifCond .ne 7, 3), (12, .iconst 1, 1), (13, .goto 17, 3), (16, .aload_n 0, 1), (17, .getfield 161, 3), (20, .bipush 120, 2), (22, .if_icmp .ne 7, 3), (25, .iconst 2, 1), (26, .goto 4, 3), (29, .iconst 0, 1), (30, .invokevirtual 164, 3), (33, .ifCond .ne 5, 3), (36, .iconst 0, 1), (37, .ireturn, 1), (38, .aload_n 0, 1), (39, .getfield 22, 3), (42, .aload_n 0, 1), (43, .getfield 161, 3), (46, .iload_n 1, 1), (47, .iastore, 1), (48, .aload_n 0, 1), (49, .dup, 1), (50, .getfield 161, 3), (53, .iconst 1, 1), (54, .iadd, 1), (55, .putfield 161, 3), (58, .aload_n 0, 1), (59, .getfield 161, 3), (62, .ireturn, 1)]
set_option maxRecDepth 100000 in
theorem d_Mo_append : decA cX11_append I_Mo_append = true := by decide +kernel
abbrev rm_Mo_append : Room := ({ frames := 1, cells := 0, slots := 0, locals := 22 } : Room)
def m_Mo_append (u : Nat) (p0 : Int32) (M : KMem) : Option (Int32 × KMem) :=
 Option.bind (m_Mo_in p0 0 255) fun x2 =>
 Option.bind (α := Int32) (if x2 = 0 then
 (some 1)
 else
 (if (M u 8) = 120 then
 (some 2)
 else
 (some 0))) fun t3 =>
 Option.bind (m_Mo_holds u t3 M) fun (x6, M7) =>
 if x6 = 0 then
 (some (0, M7))
 else
 (Option.bind (wrI M7 (u + 5) 120 (M7 u 8) p0) fun M10 =>
 Option.bind (some (kup M10 u 8 ((M10 u 8) + 1))) fun M12 =>
 some (M12 u 8, M12))
set_option maxHeartbeats 4000000 in
set_option maxRecDepth 100000 in
theorem b_Mo_append {X : KX} {B : KB} {L : KLay} {M : KMem} {u : Nat} {p0 : Int32} (G : Good X B RX11 cX11_append 2 rm_Mo_append) (hu : okL L u moT) (h : kOk (m_Mo_append u p0 M) (fun r => RI X B L 2 cX11_append .int rm_Mo_append r.1 r.2)) : KK X B L 2 0 0 M 0 [(0, .ref (B.1 + u)), (1, .int p0)] [] := by
  unfold m_Mo_append at h
  refine k_aload_n G (dc d_Mo_append 0 rfl) 0 rfl rfl ?_
  refine k_iload_n G (dc d_Mo_append 1 rfl) 1 rfl rfl ?_
  refine k_iconst G (dc d_Mo_append 2 rfl) cI_0 ?_
  refine k_sipush G (dc d_Mo_append 3 rfl) cS_255 ?_
  obtain ⟨x2, e1, h⟩ := kOk_b h
  refine k_cSI G (dc d_Mo_append 4 rfl) mi_Mo_in ms_Mo_in ml_RX11_41 (c_Mo_in (gst G)  e1) rfl rfl ⟨rfl, rfl⟩ rfl ⟨rfl, rfl⟩ ⟨rfl, rfl⟩ ?_
  refine kJ h (fun r4 => KK X B L 2 0 0 M 30 [(0, .ref (B.1 + u)), (1, .int p0)] [.int r4, .ref (B.1 + u)]) (fun r4 h => ?_) (fun h => ?_)
  · obtain ⟨t3, rfl⟩ : ∃ z, z = r4 := ⟨_, rfl⟩
    show KK X B L 2 0 0 M 30 [(0, .ref (B.1 + u)), (1, .int p0)] [.int t3, .ref (B.1 + u)]
    obtain ⟨⟨x6, M7⟩, e5, h⟩ := kOk_b h
    refine k_cVI G (dc d_Mo_append 15 rfl) kc8 (okL_lt hu (o := 0) 0 rfl) (okL_k hu (o := 0) 0 rfl) mi_Mo_holds mv_Mo_holds rfl ml_RX11_164 (c_Mo_holds (gst G) hu e5) rfl rfl ⟨rfl, rfl⟩ rfl ⟨rfl, rfl⟩ ⟨rfl, rfl⟩ ?_
    refine k_if_ne G (dc d_Mo_append 16 rfl) (tgt := 38) rfl (fun c8 => ?_) (fun c8 => ?_)
    · replace h := kOk_n c8 h
      refine k_aload_n G (dc d_Mo_append 19 rfl) 0 rfl rfl ?_
      refine k_getR G kc8 (dc d_Mo_append 20 rfl) (okL_lt hu (o := 0) 0 rfl) (okL_k hu (o := 0) 0 rfl) 7 (by decide) rfl fl_RX11_22 (u + 5) (okL_r hu (o := 0) (c := 5) 0 rfl 4 rfl) ?_
      refine k_aload_n G (dc d_Mo_append 21 rfl) 0 rfl rfl ?_
      refine k_getI G kc8 (dc d_Mo_append 22 rfl) (okL_lt hu (o := 0) 0 rfl) (okL_k hu (o := 0) 0 rfl) 8 (by decide) rfl fl_RX11_161 ?_
      refine k_iload_n G (dc d_Mo_append 23 rfl) 1 rfl rfl ?_
      obtain ⟨M10, e9, h⟩ := kOk_b h
      refine k_ist G (dc d_Mo_append 24 rfl) (okL_lt hu (o := 5) 5 rfl) (okL_k hu (o := 5) 5 rfl) (okL_n hu (o := 5) 5 rfl) e9 ?_
      refine k_aload_n G (dc d_Mo_append 25 rfl) 0 rfl rfl ?_
      refine k_dup G (dc d_Mo_append 26 rfl) rfl ?_
      refine k_getI G kc8 (dc d_Mo_append 27 rfl) (okL_lt hu (o := 0) 0 rfl) (okL_k hu (o := 0) 0 rfl) 8 (by decide) rfl fl_RX11_161 ?_
      refine k_iconst G (dc d_Mo_append 28 rfl) cI_1 ?_
      refine k_iadd G (dc d_Mo_append 29 rfl) ?_
      obtain ⟨M12, e11, h⟩ := kOk_b h
      refine k_putI G kc8 (dc d_Mo_append 30 rfl) (okL_lt hu (o := 0) 0 rfl) (okL_k hu (o := 0) 0 rfl) 8 (by decide) rfl rfl fl_RX11_161 rfl rfl e11 ?_
      refine k_aload_n G (dc d_Mo_append 31 rfl) 0 rfl rfl ?_
      refine k_getI G kc8 (dc d_Mo_append 32 rfl) (okL_lt hu (o := 0) 0 rfl) (okL_k hu (o := 0) 0 rfl) 8 (by decide) rfl fl_RX11_161 ?_
      exact (kOk_s h) _ _ _ _ rfl rfl rfl (dc d_Mo_append 33 rfl)
    · replace h := kOk_p c8 h
      refine k_iconst G (dc d_Mo_append 17 rfl) cI_0 ?_
      exact (kOk_s h) _ _ _ _ rfl rfl rfl (dc d_Mo_append 18 rfl)
  · refine k_if_ne G (dc d_Mo_append 5 rfl) (tgt := 16) rfl (fun c13 => ?_) (fun c13 => ?_)
    · replace h := kOk_n c13 h
      refine k_aload_n G (dc d_Mo_append 8 rfl) 0 rfl rfl ?_
      refine k_getI G kc8 (dc d_Mo_append 9 rfl) (okL_lt hu (o := 0) 0 rfl) (okL_k hu (o := 0) 0 rfl) 8 (by decide) rfl fl_RX11_161 ?_
      refine k_bipush G (dc d_Mo_append 10 rfl) cB_120 ?_
      refine k_icmp_ne G (dc d_Mo_append 11 rfl) (tgt := 29) rfl (fun c14 => ?_) (fun c14 => ?_)
      · replace h := kOk_n c14 h
        refine k_iconst G (dc d_Mo_append 14 rfl) cI_0 ?_
        have h9 := kOk_s h
        exact h9
      · replace h := kOk_p c14 h
        refine k_iconst G (dc d_Mo_append 12 rfl) cI_2 ?_
        refine k_goto G (dc d_Mo_append 13 rfl) (tgt := 30) rfl ?_
        have h9 := kOk_s h
        exact h9
    · replace h := kOk_p c13 h
      refine k_iconst G (dc d_Mo_append 6 rfl) cI_1 ?_
      refine k_goto G (dc d_Mo_append 7 rfl) (tgt := 30) rfl ?_
      have h9 := kOk_s h
      exact h9
theorem c_Mo_append {l : Launch} {B : KB} {L : KLay} {M : KMem} {u : Nat} {p0 : Int32} (hst : l.stackTraces = false) (hu : okL L u moT) {r : Int32} {M' : KMem} (e : m_Mo_append u p0 M = some (r, M')) : CtrN l B yX11_append cX11_append 2 (some .int) rm_Mo_append [.ref (B.1 + u), .int p0] L M (some (.int r)) L M' :=
  mk_I rfl hst rfl (fun X hl G _ R => b_Mo_append G hu ⟨_, e, R⟩)
def I_Mo_clearText : List (Nat × Instr × Nat) := [(0, .aload_n 0, 1), (1, .iconst 0, 1), (2, .putfield 37, 3), (5, .aload_n 0, 1), (6, .getfield 161, 3), (9, .istore_n 1, 1), (10, .aload_n 0, 1), (11, .iconst 0, 1), (12, .putfield 161, 3), (15, .iload_n 1, 1), (16, .ireturn, 1)]
set_option maxRecDepth 100000 in
theorem d_Mo_clearText : decA cX11_clearText I_Mo_clearText = true := by decide +kernel
abbrev rm_Mo_clearText : Room := ({ frames := 0, cells := 0, slots := 0, locals := 0 } : Room)
def m_Mo_clearText (u : Nat) (M : KMem) : Option (Int32 × KMem) :=
 Option.bind (some (kup M u 0 0)) fun M2 =>
 Option.bind (some (kup M2 u 8 0)) fun M4 =>
 some (M2 u 8, M4)
set_option maxHeartbeats 4000000 in
set_option maxRecDepth 100000 in
theorem b_Mo_clearText {X : KX} {B : KB} {L : KLay} {M : KMem} {u : Nat} (G : Good X B RX11 cX11_clearText 2 rm_Mo_clearText) (hu : okL L u moT) (h : kOk (m_Mo_clearText u M) (fun r => RI X B L 2 cX11_clearText .int rm_Mo_clearText r.1 r.2)) : KK X B L 2 0 0 M 0 [(0, .ref (B.1 + u))] [] := by
  unfold m_Mo_clearText at h
  refine k_aload_n G (dc d_Mo_clearText 0 rfl) 0 rfl rfl ?_
  refine k_iconst G (dc d_Mo_clearText 1 rfl) cI_0 ?_
  obtain ⟨M2, e1, h⟩ := kOk_b h
  refine k_putI G kc8 (dc d_Mo_clearText 2 rfl) (okL_lt hu (o := 0) 0 rfl) (okL_k hu (o := 0) 0 rfl) 0 (by decide) rfl rfl fl_RX11_37 rfl rfl e1 ?_
  refine k_aload_n G (dc d_Mo_clearText 3 rfl) 0 rfl rfl ?_
  refine k_getI G kc8 (dc d_Mo_clearText 4 rfl) (okL_lt hu (o := 0) 0 rfl) (okL_k hu (o := 0) 0 rfl) 8 (by decide) rfl fl_RX11_161 ?_
  refine k_istore_n G (dc d_Mo_clearText 5 rfl) (ls' := [(1, .int (M2 u 8)), (0, .ref (B.1 + u))]) rfl rfl rfl ?_
  refine k_aload_n G (dc d_Mo_clearText 6 rfl) 1 rfl rfl ?_
  refine k_iconst G (dc d_Mo_clearText 7 rfl) cI_0 ?_
  obtain ⟨M4, e3, h⟩ := kOk_b h
  refine k_putI G kc8 (dc d_Mo_clearText 8 rfl) (okL_lt hu (o := 0) 0 rfl) (okL_k hu (o := 0) 0 rfl) 8 (by decide) rfl rfl fl_RX11_161 rfl rfl e3 ?_
  refine k_iload_n G (dc d_Mo_clearText 9 rfl) 0 rfl rfl ?_
  exact (kOk_s h) _ _ _ _ rfl rfl rfl (dc d_Mo_clearText 10 rfl)
theorem c_Mo_clearText {l : Launch} {B : KB} {L : KLay} {M : KMem} {u : Nat} (hst : l.stackTraces = false) (hu : okL L u moT) {r : Int32} {M' : KMem} (e : m_Mo_clearText u M = some (r, M')) : CtrN l B yX11_clearText cX11_clearText 2 (some .int) rm_Mo_clearText [.ref (B.1 + u)] L M (some (.int r)) L M' :=
  mk_I rfl hst rfl (fun X hl G _ R => b_Mo_clearText G hu ⟨_, e, R⟩)
def I_Mo_isNext : List (Nat × Instr × Nat) := [(0, .aload_n 0, 1), (1, .getfield 167, 3), (4, .ifCond .ne 35, 3), (7, .aload_n 0, 1), (8, .getfield 171, 3), (11, .aload_n 0, 1), (12, .getfield 161, 3), (15, .if_icmp .ge 24, 3), (18, .aload_n 0, 1), (19, .getfield 22, 3), (22, .aload_n 0, 1), (23, .getfield 171, 3), (26, .iaload, 1), (27, .iload_n 1, 1), (28, .iload_n 2, 1), (29, .invokestatic 41, 3), (32, .ifCond .eq 7, 3), (35, .iconst 1, 1), (36, .goto 4, 3), (39, .iconst 0, 1), (40, .ireturn, 1)]
set_option maxRecDepth 100000 in
theorem d_Mo_isNext : decA cX11_isNext I_Mo_isNext = true := by decide +kernel
abbrev rm_Mo_isNext : Room := ({ frames := 1, cells := 0, slots := 0, locals := 22 } : Room)
def m_Mo_isNext (u : Nat) (p0 : Int32) (p1 : Int32) (M : KMem) : Option Int32 :=
 Option.bind (α := Int32) (if (M u 16) = 0 then
 (if (M u 8) ≤ (M u 15) then
 (some 0)
 else
 (Option.bind (rdI M (u + 5) 120 (M u 15)) fun x8 =>
 Option.bind (m_Mo_in x8 p0 p1) fun x10 =>
 if x10 = 0 then
 (some 0)
 else
 (some 1)))
 else
 (some 0)) fun t1 =>
 Option.bind (kz t1) fun z3 =>
 some z3
set_option maxHeartbeats 4000000 in
set_option maxRecDepth 100000 in
theorem b_Mo_isNext {X : KX} {B : KB} {L : KLay} {M : KMem} {u : Nat} {p0 : Int32} {p1 : Int32} (G : Good X B RX11 cX11_isNext 3 rm_Mo_isNext) (hu : okL L u moT) (h : kOk (m_Mo_isNext u p0 p1 M) (fun r => RI X B L 3 cX11_isNext .boolean rm_Mo_isNext r M)) : KK X B L 3 0 0 M 0 [(0, .ref (B.1 + u)), (1, .int p0), (2, .int p1)] [] := by
  unfold m_Mo_isNext at h
  refine k_aload_n G (dc d_Mo_isNext 0 rfl) 0 rfl rfl ?_
  refine k_getI G kc8 (dc d_Mo_isNext 1 rfl) (okL_lt hu (o := 0) 0 rfl) (okL_k hu (o := 0) 0 rfl) 16 (by decide) rfl fl_RX11_167 ?_
  refine kJ h (fun r2 => KK X B L 3 0 0 M 40 [] [.int r2]) (fun r2 h => ?_) (fun h => ?_)
  · obtain ⟨t1, rfl⟩ : ∃ z, z = r2 := ⟨_, rfl⟩
    show KK X B L 3 0 0 M 40 [] [.int t1]
    obtain ⟨z3, e4, h⟩ := kOk_b h
    obtain ⟨e4, nz3, -⟩ := kz_ok e4
    rw [e4]
    exact (kOk_s h) _ _ _ _ rfl rfl nz3 (dc d_Mo_isNext 20 rfl)
  · refine k_if_ne G (dc d_Mo_isNext 2 rfl) (tgt := 39) rfl (fun c5 => ?_) (fun c5 => ?_)
    · replace h := kOk_n c5 h
      refine k_iconst G (dc d_Mo_isNext 19 rfl) cI_0 ?_
      refine k_sub [] rfl ?_
      have h9 := kOk_s h
      exact h9
    · replace h := kOk_p c5 h
      refine k_aload_n G (dc d_Mo_isNext 3 rfl) 0 rfl rfl ?_
      refine k_getI G kc8 (dc d_Mo_isNext 4 rfl) (okL_lt hu (o := 0) 0 rfl) (okL_k hu (o := 0) 0 rfl) 15 (by decide) rfl fl_RX11_171 ?_
      refine k_aload_n G (dc d_Mo_isNext 5 rfl) 0 rfl rfl ?_
      refine k_getI G kc8 (dc d_Mo_isNext 6 rfl) (okL_lt hu (o := 0) 0 rfl) (okL_k hu (o := 0) 0 rfl) 8 (by decide) rfl fl_RX11_161 ?_
      refine k_icmp_ge G (dc d_Mo_isNext 7 rfl) (tgt := 39) rfl (fun c6 => ?_) (fun c6 => ?_)
      · replace h := kOk_p c6 h
        refine k_iconst G (dc d_Mo_isNext 19 rfl) cI_0 ?_
        refine k_sub [] rfl ?_
        have h9 := kOk_s h
        exact h9
      · replace h := kOk_n c6 h
        refine k_aload_n G (dc d_Mo_isNext 8 rfl) 0 rfl rfl ?_
        refine k_getR G kc8 (dc d_Mo_isNext 9 rfl) (okL_lt hu (o := 0) 0 rfl) (okL_k hu (o := 0) 0 rfl) 7 (by decide) rfl fl_RX11_22 (u + 5) (okL_r hu (o := 0) (c := 5) 0 rfl 4 rfl) ?_
        refine k_aload_n G (dc d_Mo_isNext 10 rfl) 0 rfl rfl ?_
        refine k_getI G kc8 (dc d_Mo_isNext 11 rfl) (okL_lt hu (o := 0) 0 rfl) (okL_k hu (o := 0) 0 rfl) 15 (by decide) rfl fl_RX11_171 ?_
        obtain ⟨x8, e7, h⟩ := kOk_b h
        refine k_ild G (dc d_Mo_isNext 12 rfl) (okL_lt hu (o := 5) 5 rfl) (okL_k hu (o := 5) 5 rfl) (okL_n hu (o := 5) 5 rfl) e7 ?_
        refine k_iload_n G (dc d_Mo_isNext 13 rfl) 1 rfl rfl ?_
        refine k_iload_n G (dc d_Mo_isNext 14 rfl) 2 rfl rfl ?_
        obtain ⟨x10, e9, h⟩ := kOk_b h
        refine k_cSI G (dc d_Mo_isNext 15 rfl) mi_Mo_in ms_Mo_in ml_RX11_41 (c_Mo_in (gst G)  e9) rfl rfl ⟨rfl, rfl⟩ rfl ⟨rfl, rfl⟩ ⟨rfl, rfl⟩ ?_
        refine k_if_eq G (dc d_Mo_isNext 16 rfl) (tgt := 39) rfl (fun c11 => ?_) (fun c11 => ?_)
        · replace h := kOk_p c11 h
          refine k_iconst G (dc d_Mo_isNext 19 rfl) cI_0 ?_
          refine k_sub [] rfl ?_
          have h9 := kOk_s h
          exact h9
        · replace h := kOk_n c11 h
          refine k_iconst G (dc d_Mo_isNext 17 rfl) cI_1 ?_
          refine k_goto G (dc d_Mo_isNext 18 rfl) (tgt := 40) rfl ?_
          refine k_sub [] rfl ?_
          have h9 := kOk_s h
          exact h9
theorem c_Mo_isNext {l : Launch} {B : KB} {L : KLay} {M : KMem} {u : Nat} {p0 : Int32} {p1 : Int32} (hst : l.stackTraces = false) (hu : okL L u moT) {r : Int32} (e : m_Mo_isNext u p0 p1 M = some r) : CtrN l B yX11_isNext cX11_isNext 3 (some .boolean) rm_Mo_isNext [.ref (B.1 + u), .int p0, .int p1] L M (some (.int r)) L M :=
  mk_I rfl hst rfl (fun X hl G _ R => b_Mo_isNext G hu ⟨_, e, R⟩)
def I_Mo_takes : List (Nat × Instr × Nat) := [(0, .aload_n 0, 1), (1, .iload_n 1, 1), (2, .iload_n 2, 1), (3, .invokevirtual 174, 3), (6, .istore_n 3, 1), (7, .iload_n 3, 1), (8, .ifCond .eq 17, 3), (11, .aload_n 0, 1), (12, .getfield 22, 3), (15, .aload_n 0, 1), (16, .getfield 171, 3), (19, .iaload, 1), (20, .iload_n 1, 1), (21, .isub, 1), (22, .goto 4, 3), (25, .iconst 0, 1), (26, .istore 4, 2), (28, .aload_n 0, 1), (29, .dup, 1), (30, .getfield 171, 3), (33, .iload_n 3, 1), (34, .ifCond .eq 7, 3), (37, .iconst 1, 1), (38, .goto 4, 3), (41, .iconst 0, 1), (42, .iadd, 1), (43, .putfield 171, 3), (46, .aload_n 0, 1), (47, .aload_n 0, 1), (48, .getfield 167, 3), (51, .ifCond .ne 7, 3), (54, .iload_n 3, 1), (55, .ifCond .ne 7, 3), (58, .iconst 1, 1), (59, .goto 4, 3), (62, .iconst 0, 1), (63, .putfield 167, 3), (66, .iload 4, 2), (68, .ireturn, 1)]
set_option maxRecDepth 100000 in
theorem d_Mo_takes : decA cX11_takes I_Mo_takes = true := by decide +kernel
abbrev rm_Mo_takes : Room := ({ frames := 2, cells := 0, slots := 0, locals := 44 } : Room)
def m_Mo_takes (u : Nat) (p0 : Int32) (p1 : Int32) (M : KMem) : Option (Int32 × KMem) :=
 Option.bind (m_Mo_isNext u p0 p1 M) fun x2 =>
 Option.bind (α := Int32) (if x2 = 0 then
 (some 0)
 else
 (Option.bind (rdI M (u + 5) 120 (M u 15)) fun x20 =>
 some (x20 - p0))) fun t3 =>
 Option.bind (α := Int32) (if x2 = 0 then
 (some 0)
 else
 (some 1)) fun t5 =>
 Option.bind (some (kup M u 15 ((M u 15) + t5))) fun M8 =>
 Option.bind (α := Int32) (if (M8 u 16) = 0 then
 (if x2 = 0 then
 (some 1)
 else
 (some 0))
 else
 (some 1)) fun t9 =>
 Option.bind (kz t9) fun z13 =>
 Option.bind (some (kup M8 u 16 z13)) fun M12 =>
 some (t3, M12)
set_option maxHeartbeats 4000000 in
set_option maxRecDepth 100000 in
theorem b_Mo_takes {X : KX} {B : KB} {L : KLay} {M : KMem} {u : Nat} {p0 : Int32} {p1 : Int32} (G : Good X B RX11 cX11_takes 5 rm_Mo_takes) (hu : okL L u moT) (h : kOk (m_Mo_takes u p0 p1 M) (fun r => RI X B L 5 cX11_takes .int rm_Mo_takes r.1 r.2)) : KK X B L 5 0 0 M 0 [(0, .ref (B.1 + u)), (1, .int p0), (2, .int p1)] [] := by
  unfold m_Mo_takes at h
  refine k_aload_n G (dc d_Mo_takes 0 rfl) 0 rfl rfl ?_
  refine k_iload_n G (dc d_Mo_takes 1 rfl) 1 rfl rfl ?_
  refine k_iload_n G (dc d_Mo_takes 2 rfl) 2 rfl rfl ?_
  obtain ⟨x2, e1, h⟩ := kOk_b h
  refine k_cVI G (dc d_Mo_takes 3 rfl) kc8 (okL_lt hu (o := 0) 0 rfl) (okL_k hu (o := 0) 0 rfl) mi_Mo_isNext mv_Mo_isNext rfl ml_RX11_174 (c_Mo_isNext (gst G) hu e1) rfl rfl ⟨rfl, rfl⟩ rfl ⟨rfl, rfl⟩ ⟨rfl, rfl⟩ ?_
  refine k_istore_n G (dc d_Mo_takes 4 rfl) (ls' := [(3, .int x2), (0, .ref (B.1 + u)), (1, .int p0), (2, .int p1)]) rfl rfl rfl ?_
  refine k_iload_n G (dc d_Mo_takes 5 rfl) 0 rfl rfl ?_
  refine kJ h (fun r4 => KK X B L 5 0 0 M 26 [(0, .ref (B.1 + u)), (3, .int x2)] [.int r4]) (fun r4 h => ?_) (fun h => ?_)
  · obtain ⟨t3, rfl⟩ : ∃ z, z = r4 := ⟨_, rfl⟩
    show KK X B L 5 0 0 M 26 [(0, .ref (B.1 + u)), (3, .int x2)] [.int t3]
    refine k_istore G (dc d_Mo_takes 16 rfl) (ls' := [(4, .int t3), (0, .ref (B.1 + u)), (3, .int x2)]) rfl rfl ?_
    refine k_aload_n G (dc d_Mo_takes 17 rfl) 1 rfl rfl ?_
    refine k_dup G (dc d_Mo_takes 18 rfl) rfl ?_
    refine k_getI G kc8 (dc d_Mo_takes 19 rfl) (okL_lt hu (o := 0) 0 rfl) (okL_k hu (o := 0) 0 rfl) 15 (by decide) rfl fl_RX11_171 ?_
    refine k_iload_n G (dc d_Mo_takes 20 rfl) 2 rfl rfl ?_
    refine kJ h (fun r6 => KK X B L 5 0 0 M 42 [(0, .ref (B.1 + u)), (3, .int x2), (4, .int t3)] [.int r6, .int (M u 15), .ref (B.1 + u)]) (fun r6 h => ?_) (fun h => ?_)
    · obtain ⟨t5, rfl⟩ : ∃ z, z = r6 := ⟨_, rfl⟩
      show KK X B L 5 0 0 M 42 [(0, .ref (B.1 + u)), (3, .int x2), (4, .int t3)] [.int t5, .int (M u 15), .ref (B.1 + u)]
      refine k_iadd G (dc d_Mo_takes 25 rfl) ?_
      obtain ⟨M8, e7, h⟩ := kOk_b h
      refine k_putI G kc8 (dc d_Mo_takes 26 rfl) (okL_lt hu (o := 0) 0 rfl) (okL_k hu (o := 0) 0 rfl) 15 (by decide) rfl rfl fl_RX11_171 rfl rfl e7 ?_
      refine k_aload_n G (dc d_Mo_takes 27 rfl) 0 rfl rfl ?_
      refine k_aload_n G (dc d_Mo_takes 28 rfl) 0 rfl rfl ?_
      refine k_getI G kc8 (dc d_Mo_takes 29 rfl) (okL_lt hu (o := 0) 0 rfl) (okL_k hu (o := 0) 0 rfl) 16 (by decide) rfl fl_RX11_167 ?_
      refine kJ h (fun r10 => KK X B L 5 0 0 M8 63 [(4, .int t3)] [.int r10, .ref (B.1 + u)]) (fun r10 h => ?_) (fun h => ?_)
      · obtain ⟨t9, rfl⟩ : ∃ z, z = r10 := ⟨_, rfl⟩
        show KK X B L 5 0 0 M8 63 [(4, .int t3)] [.int t9, .ref (B.1 + u)]
        obtain ⟨z13, e14, h⟩ := kOk_b h
        obtain ⟨e14, nz13, fz13⟩ := kz_ok e14
        rw [e14]
        obtain ⟨M12, e11, h⟩ := kOk_b h
        refine k_putI G kc8 (dc d_Mo_takes 36 rfl) (okL_lt hu (o := 0) 0 rfl) (okL_k hu (o := 0) 0 rfl) 16 (by decide) rfl rfl fl_RX11_167 nz13 fz13 e11 ?_
        refine k_iload G (dc d_Mo_takes 37 rfl) 0 rfl ?_
        exact (kOk_s h) _ _ _ _ rfl rfl rfl (dc d_Mo_takes 38 rfl)
      · refine k_if_ne G (dc d_Mo_takes 30 rfl) (tgt := 58) rfl (fun c15 => ?_) (fun c15 => ?_)
        · replace h := kOk_n c15 h
          refine k_iconst G (dc d_Mo_takes 33 rfl) cI_1 ?_
          refine k_goto G (dc d_Mo_takes 34 rfl) (tgt := 63) rfl ?_
          refine k_sub [2] rfl ?_
          have h9 := kOk_s h
          exact h9
        · replace h := kOk_p c15 h
          refine k_iload_n G (dc d_Mo_takes 31 rfl) 1 rfl rfl ?_
          refine k_if_ne G (dc d_Mo_takes 32 rfl) (tgt := 62) rfl (fun c16 => ?_) (fun c16 => ?_)
          · replace h := kOk_n c16 h
            refine k_iconst G (dc d_Mo_takes 35 rfl) cI_0 ?_
            refine k_sub [2] rfl ?_
            have h9 := kOk_s h
            exact h9
          · replace h := kOk_p c16 h
            refine k_iconst G (dc d_Mo_takes 33 rfl) cI_1 ?_
            refine k_goto G (dc d_Mo_takes 34 rfl) (tgt := 63) rfl ?_
            refine k_sub [2] rfl ?_
            have h9 := kOk_s h
            exact h9
    · refine k_if_eq G (dc d_Mo_takes 21 rfl) (tgt := 41) rfl (fun c17 => ?_) (fun c17 => ?_)
      · replace h := kOk_p c17 h
        refine k_iconst G (dc d_Mo_takes 24 rfl) cI_0 ?_
        refine k_sub [1, 2, 0] rfl ?_
        have h9 := kOk_s h
        exact h9
      · replace h := kOk_n c17 h
        refine k_iconst G (dc d_Mo_takes 22 rfl) cI_1 ?_
        refine k_goto G (dc d_Mo_takes 23 rfl) (tgt := 42) rfl ?_
        refine k_sub [1, 2, 0] rfl ?_
        have h9 := kOk_s h
        exact h9
  · refine k_if_eq G (dc d_Mo_takes 6 rfl) (tgt := 25) rfl (fun c18 => ?_) (fun c18 => ?_)
    · replace h := kOk_p c18 h
      refine k_iconst G (dc d_Mo_takes 15 rfl) cI_0 ?_
      refine k_sub [1, 0] rfl ?_
      have h9 := kOk_s h
      exact h9
    · replace h := kOk_n c18 h
      refine k_aload_n G (dc d_Mo_takes 7 rfl) 1 rfl rfl ?_
      refine k_getR G kc8 (dc d_Mo_takes 8 rfl) (okL_lt hu (o := 0) 0 rfl) (okL_k hu (o := 0) 0 rfl) 7 (by decide) rfl fl_RX11_22 (u + 5) (okL_r hu (o := 0) (c := 5) 0 rfl 4 rfl) ?_
      refine k_aload_n G (dc d_Mo_takes 9 rfl) 1 rfl rfl ?_
      refine k_getI G kc8 (dc d_Mo_takes 10 rfl) (okL_lt hu (o := 0) 0 rfl) (okL_k hu (o := 0) 0 rfl) 15 (by decide) rfl fl_RX11_171 ?_
      obtain ⟨x20, e19, h⟩ := kOk_b h
      refine k_ild G (dc d_Mo_takes 11 rfl) (okL_lt hu (o := 5) 5 rfl) (okL_k hu (o := 5) 5 rfl) (okL_n hu (o := 5) 5 rfl) e19 ?_
      refine k_iload_n G (dc d_Mo_takes 12 rfl) 2 rfl rfl ?_
      refine k_isub G (dc d_Mo_takes 13 rfl) ?_
      refine k_goto G (dc d_Mo_takes 14 rfl) (tgt := 26) rfl ?_
      refine k_sub [1, 0] rfl ?_
      have h9 := kOk_s h
      exact h9
theorem c_Mo_takes {l : Launch} {B : KB} {L : KLay} {M : KMem} {u : Nat} {p0 : Int32} {p1 : Int32} (hst : l.stackTraces = false) (hu : okL L u moT) {r : Int32} {M' : KMem} (e : m_Mo_takes u p0 p1 M = some (r, M')) : CtrN l B yX11_takes cX11_takes 5 (some .int) rm_Mo_takes [.ref (B.1 + u), .int p0, .int p1] L M (some (.int r)) L M' :=
  mk_I rfl hst rfl (fun X hl G _ R => b_Mo_takes G hu ⟨_, e, R⟩)
def I_Mo_readWord : List (Nat × Instr × Nat) := [(0, .iconst 1, 1), (1, .aload_n 0, 1), (2, .bipush 49, 2), (4, .bipush 54, 2), (6, .invokevirtual 178, 3), (9, .iadd, 1), (10, .istore_n 1, 1), (11, .iconst 1, 1), (12, .istore_n 2, 1), (13, .iload_n 2, 1), (14, .bipush 8, 2), (16, .if_icmp .ge 36, 3), (19, .aload_n 0, 1), (20, .bipush 49, 2), (22, .bipush 54, 2), (24, .invokevirtual 174, 3), (27, .ifCond .eq 25, 3), (30, .bipush 10, 2), (32, .iload_n 1, 1), (33, .imul, 1), (34, .iconst 1, 1), (35, .iadd, 1), (36, .aload_n 0, 1), (37, .bipush 49, 2), (39, .bipush 54, 2), (41, .invokevirtual 178, 3), (44, .iadd, 1), (45, .istore_n 1, 1), (46, .iinc 2 1, 3), (49, .goto (-36), 3), (52, .aload_n 0, 1), (53, .bipush 46, 2), (55, .bipush 46, 2), (57, .invokevirtual 178, 3), (60, .istore_n 2, 1), (61, .iload_n 1, 1), (62, .ireturn, 1)]
set_option maxRecDepth 100000 in
theorem d_Mo_readWord : decA cX11_readWord I_Mo_readWord = true := by decide +kernel
abbrev rm_Mo_readWord : Room := ({ frames := 3, cells := 0, slots := 0, locals := 68 } : Room)
def m_Mo_readWord_l13 (u : Nat) : (Int32 × Int32 × KMem) → Option ((Int32 × Int32 × KMem) ⊕ (Int32 × KMem)) := fun (v1_4, v2_5, M6) =>
 if 8 ≤ v2_5 then
 (some (.inr (v1_4, M6)))
 else
 (Option.bind (m_Mo_isNext u 49 54 M6) fun x9 =>
 if x9 = 0 then
 (some (.inr (v1_4, M6)))
 else
 (Option.bind (m_Mo_takes u 49 54 M6) fun (x12, M13) =>
 some (.inl (((10 * v1_4) + 1) + x12, v2_5 + 1, M13))))
def m_Mo_readWord (u : Nat) (M : KMem) : Option (Int32 × KMem) :=
 Option.bind (m_Mo_takes u 49 54 M) fun (x2, M3) =>
 Option.bind (α := Int32 × KMem) (kLp (m_Mo_readWord_l13 u) kFU (1 + x2, 1, M3)) fun (v1_14, M15) =>
 Option.bind (m_Mo_takes u 46 46 M15) fun (x17, M18) =>
 some (v1_14, M18)
set_option maxHeartbeats 4000000 in
set_option maxRecDepth 100000 in
theorem b_Mo_readWord {X : KX} {B : KB} {L : KLay} {M : KMem} {u : Nat} (G : Good X B RX11 cX11_readWord 3 rm_Mo_readWord) (hu : okL L u moT) (h : kOk (m_Mo_readWord u M) (fun r => RI X B L 3 cX11_readWord .int rm_Mo_readWord r.1 r.2)) : KK X B L 3 0 0 M 0 [(0, .ref (B.1 + u))] [] := by
  unfold m_Mo_readWord at h
  refine k_iconst G (dc d_Mo_readWord 0 rfl) cI_1 ?_
  refine k_aload_n G (dc d_Mo_readWord 1 rfl) 0 rfl rfl ?_
  refine k_bipush G (dc d_Mo_readWord 2 rfl) cB_49 ?_
  refine k_bipush G (dc d_Mo_readWord 3 rfl) cB_54 ?_
  obtain ⟨⟨x2, M3⟩, e1, h⟩ := kOk_b h
  refine k_cVI G (dc d_Mo_readWord 4 rfl) kc8 (okL_lt hu (o := 0) 0 rfl) (okL_k hu (o := 0) 0 rfl) mi_Mo_takes mv_Mo_takes rfl ml_RX11_178 (c_Mo_takes (gst G) hu e1) rfl rfl ⟨rfl, rfl⟩ rfl ⟨rfl, rfl⟩ ⟨rfl, rfl⟩ ?_
  refine k_iadd G (dc d_Mo_readWord 5 rfl) ?_
  refine k_istore_n G (dc d_Mo_readWord 6 rfl) (ls' := [(1, .int (1 + x2)), (0, .ref (B.1 + u))]) rfl rfl rfl ?_
  refine k_iconst G (dc d_Mo_readWord 7 rfl) cI_1 ?_
  refine k_istore_n G (dc d_Mo_readWord 8 rfl) (ls' := [(2, .int 1), (1, .int (1 + x2)), (0, .ref (B.1 + u))]) rfl rfl rfl ?_
  refine kJ h (fun r19 => KK X B L 3 0 0 r19.2 52 [(0, .ref (B.1 + u)), (1, .int r19.1)] []) (fun r19 h => ?_) (fun h => ?_)
  · obtain ⟨v1_14, M15⟩ := r19
    show KK X B L 3 0 0 M15 52 [(0, .ref (B.1 + u)), (1, .int v1_14)] []
    refine k_aload_n G (dc d_Mo_readWord 30 rfl) 0 rfl rfl ?_
    refine k_bipush G (dc d_Mo_readWord 31 rfl) cB_46 ?_
    refine k_bipush G (dc d_Mo_readWord 32 rfl) cB_46 ?_
    obtain ⟨⟨x17, M18⟩, e16, h⟩ := kOk_b h
    refine k_cVI G (dc d_Mo_readWord 33 rfl) kc8 (okL_lt hu (o := 0) 0 rfl) (okL_k hu (o := 0) 0 rfl) mi_Mo_takes mv_Mo_takes rfl ml_RX11_178 (c_Mo_takes (gst G) hu e16) rfl rfl ⟨rfl, rfl⟩ rfl ⟨rfl, rfl⟩ ⟨rfl, rfl⟩ ?_
    refine k_istore_n G (dc d_Mo_readWord 34 rfl) (ls' := [(2, .int x17), (0, .ref (B.1 + u)), (1, .int v1_14)]) rfl rfl rfl ?_
    refine k_iload_n G (dc d_Mo_readWord 35 rfl) 2 rfl rfl ?_
    exact (kOk_s h) _ _ _ _ rfl rfl rfl (dc d_Mo_readWord 36 rfl)
  · refine k_sub [2, 1, 0] rfl ?_
    refine kLp_ok (P := fun s20 => KK X B L 3 0 0 s20.2.2 13 [(0, .ref (B.1 + u)), (1, .int s20.1), (2, .int s20.2.1)] []) (fun s20 h => ?_) kFU _ h
    obtain ⟨v1_4, v2_5, M6⟩ := s20
    unfold m_Mo_readWord_l13 at h
    show KK X B L 3 0 0 M6 13 [(0, .ref (B.1 + u)), (1, .int v1_4), (2, .int v2_5)] []
    refine k_iload_n G (dc d_Mo_readWord 9 rfl) 2 rfl rfl ?_
    refine k_bipush G (dc d_Mo_readWord 10 rfl) cB_8 ?_
    refine k_icmp_ge G (dc d_Mo_readWord 11 rfl) (tgt := 52) rfl (fun c7 => ?_) (fun c7 => ?_)
    · replace h := kOk_p c7 h
      refine k_sub [0, 1] rfl ?_
      have h9 := kOk_s h
      exact h9
    · replace h := kOk_n c7 h
      refine k_aload_n G (dc d_Mo_readWord 12 rfl) 0 rfl rfl ?_
      refine k_bipush G (dc d_Mo_readWord 13 rfl) cB_49 ?_
      refine k_bipush G (dc d_Mo_readWord 14 rfl) cB_54 ?_
      obtain ⟨x9, e8, h⟩ := kOk_b h
      refine k_cVI G (dc d_Mo_readWord 15 rfl) kc8 (okL_lt hu (o := 0) 0 rfl) (okL_k hu (o := 0) 0 rfl) mi_Mo_isNext mv_Mo_isNext rfl ml_RX11_174 (c_Mo_isNext (gst G) hu e8) rfl rfl ⟨rfl, rfl⟩ rfl ⟨rfl, rfl⟩ ⟨rfl, rfl⟩ ?_
      refine k_if_eq G (dc d_Mo_readWord 16 rfl) (tgt := 52) rfl (fun c10 => ?_) (fun c10 => ?_)
      · replace h := kOk_p c10 h
        refine k_sub [0, 1] rfl ?_
        have h9 := kOk_s h
        exact h9
      · replace h := kOk_n c10 h
        refine k_bipush G (dc d_Mo_readWord 17 rfl) cB_10 ?_
        refine k_iload_n G (dc d_Mo_readWord 18 rfl) 1 rfl rfl ?_
        refine k_imul G (dc d_Mo_readWord 19 rfl) ?_
        refine k_iconst G (dc d_Mo_readWord 20 rfl) cI_1 ?_
        refine k_iadd G (dc d_Mo_readWord 21 rfl) ?_
        refine k_aload_n G (dc d_Mo_readWord 22 rfl) 0 rfl rfl ?_
        refine k_bipush G (dc d_Mo_readWord 23 rfl) cB_49 ?_
        refine k_bipush G (dc d_Mo_readWord 24 rfl) cB_54 ?_
        obtain ⟨⟨x12, M13⟩, e11, h⟩ := kOk_b h
        refine k_cVI G (dc d_Mo_readWord 25 rfl) kc8 (okL_lt hu (o := 0) 0 rfl) (okL_k hu (o := 0) 0 rfl) mi_Mo_takes mv_Mo_takes rfl ml_RX11_178 (c_Mo_takes (gst G) hu e11) rfl rfl ⟨rfl, rfl⟩ rfl ⟨rfl, rfl⟩ ⟨rfl, rfl⟩ ?_
        refine k_iadd G (dc d_Mo_readWord 26 rfl) ?_
        refine k_istore_n G (dc d_Mo_readWord 27 rfl) (ls' := [(1, .int (((10 * v1_4) + 1) + x12)), (0, .ref (B.1 + u)), (2, .int v2_5)]) rfl rfl rfl ?_
        refine k_iinc G (dc d_Mo_readWord 28 rfl) (ls' := [(2, .int (v2_5 + 1)), (1, .int (((10 * v1_4) + 1) + x12)), (0, .ref (B.1 + u))]) 2 rfl cI_1 rfl rfl ?_
        refine k_goto G (dc d_Mo_readWord 29 rfl) (tgt := 13) rfl ?_
        refine k_sub [2, 1, 0] rfl ?_
        have h9 := kOk_s h
        exact h9
theorem c_Mo_readWord {l : Launch} {B : KB} {L : KLay} {M : KMem} {u : Nat} (hst : l.stackTraces = false) (hu : okL L u moT) {r : Int32} {M' : KMem} (e : m_Mo_readWord u M = some (r, M')) : CtrN l B yX11_readWord cX11_readWord 3 (some .int) rm_Mo_readWord [.ref (B.1 + u)] L M (some (.int r)) L M' :=
  mk_I rfl hst rfl (fun X hl G _ R => b_Mo_readWord G hu ⟨_, e, R⟩)
def I_Mo_readMonths : List (Nat × Instr × Nat) := [(0, .aload_n 0, 1), (1, .bipush 48, 2), (3, .bipush 54, 2), (5, .invokevirtual 178, 3), (8, .istore_n 1, 1), (9, .iload_n 1, 1), (10, .ifCond .ne 16, 3), (13, .iconst 1, 1), (14, .aload_n 0, 1), (15, .bipush 49, 2), (17, .bipush 57, 2), (19, .invokevirtual 178, 3), (22, .iadd, 1), (23, .goto 27, 3), (26, .bipush 10, 2), (28, .iload_n 1, 1), (29, .imul, 1), (30, .aload_n 0, 1), (31, .bipush 48, 2), (33, .iload_n 1, 1), (34, .bipush 6, 2), (36, .if_icmp .ne 8, 3), (39, .bipush 48, 2), (41, .goto 5, 3), (44, .bipush 57, 2), (46, .invokevirtual 178, 3), (49, .iadd, 1), (50, .ireturn, 1)]
set_option maxRecDepth 100000 in
theorem d_Mo_readMonths : decA cX11_readMonths I_Mo_readMonths = true := by decide +kernel
abbrev rm_Mo_readMonths : Room := ({ frames := 3, cells := 0, slots := 0, locals := 68 } : Room)
def m_Mo_readMonths (u : Nat) (M : KMem) : Option (Int32 × KMem) :=
 Option.bind (m_Mo_takes u 48 54 M) fun (x2, M3) =>
 Option.bind (α := Int32 × KMem) (if x2 = 0 then
 (Option.bind (m_Mo_takes u 49 57 M3) fun (x15, M16) =>
 some (1 + x15, M16))
 else
 (Option.bind (α := Int32) (if x2 = 6 then
 (some 48)
 else
 (some 57)) fun t8 =>
 Option.bind (m_Mo_takes u 48 t8 M3) fun (x11, M12) =>
 some ((10 * x2) + x11, M12))) fun (t4, M5) =>
 some (t4, M5)
set_option maxHeartbeats 4000000 in
set_option maxRecDepth 100000 in
theorem b_Mo_readMonths {X : KX} {B : KB} {L : KLay} {M : KMem} {u : Nat} (G : Good X B RX11 cX11_readMonths 2 rm_Mo_readMonths) (hu : okL L u moT) (h : kOk (m_Mo_readMonths u M) (fun r => RI X B L 2 cX11_readMonths .int rm_Mo_readMonths r.1 r.2)) : KK X B L 2 0 0 M 0 [(0, .ref (B.1 + u))] [] := by
  unfold m_Mo_readMonths at h
  refine k_aload_n G (dc d_Mo_readMonths 0 rfl) 0 rfl rfl ?_
  refine k_bipush G (dc d_Mo_readMonths 1 rfl) cB_48 ?_
  refine k_bipush G (dc d_Mo_readMonths 2 rfl) cB_54 ?_
  obtain ⟨⟨x2, M3⟩, e1, h⟩ := kOk_b h
  refine k_cVI G (dc d_Mo_readMonths 3 rfl) kc8 (okL_lt hu (o := 0) 0 rfl) (okL_k hu (o := 0) 0 rfl) mi_Mo_takes mv_Mo_takes rfl ml_RX11_178 (c_Mo_takes (gst G) hu e1) rfl rfl ⟨rfl, rfl⟩ rfl ⟨rfl, rfl⟩ ⟨rfl, rfl⟩ ?_
  refine k_istore_n G (dc d_Mo_readMonths 4 rfl) (ls' := [(1, .int x2), (0, .ref (B.1 + u))]) rfl rfl rfl ?_
  refine k_iload_n G (dc d_Mo_readMonths 5 rfl) 0 rfl rfl ?_
  refine kJ h (fun r6 => KK X B L 2 0 0 r6.2 50 [] [.int r6.1]) (fun r6 h => ?_) (fun h => ?_)
  · obtain ⟨t4, M5⟩ := r6
    show KK X B L 2 0 0 M5 50 [] [.int t4]
    exact (kOk_s h) _ _ _ _ rfl rfl rfl (dc d_Mo_readMonths 27 rfl)
  · refine k_if_ne G (dc d_Mo_readMonths 6 rfl) (tgt := 26) rfl (fun c7 => ?_) (fun c7 => ?_)
    · replace h := kOk_n c7 h
      refine k_bipush G (dc d_Mo_readMonths 14 rfl) cB_10 ?_
      refine k_iload_n G (dc d_Mo_readMonths 15 rfl) 0 rfl rfl ?_
      refine k_imul G (dc d_Mo_readMonths 16 rfl) ?_
      refine k_aload_n G (dc d_Mo_readMonths 17 rfl) 1 rfl rfl ?_
      refine k_bipush G (dc d_Mo_readMonths 18 rfl) cB_48 ?_
      refine k_iload_n G (dc d_Mo_readMonths 19 rfl) 0 rfl rfl ?_
      refine k_bipush G (dc d_Mo_readMonths 20 rfl) cB_6 ?_
      refine kJ h (fun r9 => KK X B L 2 0 0 M3 46 [] [.int r9, .int 48, .ref (B.1 + u), .int (10 * x2)]) (fun r9 h => ?_) (fun h => ?_)
      · obtain ⟨t8, rfl⟩ : ∃ z, z = r9 := ⟨_, rfl⟩
        show KK X B L 2 0 0 M3 46 [] [.int t8, .int 48, .ref (B.1 + u), .int (10 * x2)]
        obtain ⟨⟨x11, M12⟩, e10, h⟩ := kOk_b h
        refine k_cVI G (dc d_Mo_readMonths 25 rfl) kc8 (okL_lt hu (o := 0) 0 rfl) (okL_k hu (o := 0) 0 rfl) mi_Mo_takes mv_Mo_takes rfl ml_RX11_178 (c_Mo_takes (gst G) hu e10) rfl rfl ⟨rfl, rfl⟩ rfl ⟨rfl, rfl⟩ ⟨rfl, rfl⟩ ?_
        refine k_iadd G (dc d_Mo_readMonths 26 rfl) ?_
        have h9 := kOk_s h
        exact h9
      · refine k_icmp_ne G (dc d_Mo_readMonths 21 rfl) (tgt := 44) rfl (fun c13 => ?_) (fun c13 => ?_)
        · replace h := kOk_n c13 h
          refine k_bipush G (dc d_Mo_readMonths 24 rfl) cB_57 ?_
          refine k_sub [] rfl ?_
          have h9 := kOk_s h
          exact h9
        · replace h := kOk_p c13 h
          refine k_bipush G (dc d_Mo_readMonths 22 rfl) cB_48 ?_
          refine k_goto G (dc d_Mo_readMonths 23 rfl) (tgt := 46) rfl ?_
          refine k_sub [] rfl ?_
          have h9 := kOk_s h
          exact h9
    · replace h := kOk_p c7 h
      refine k_iconst G (dc d_Mo_readMonths 7 rfl) cI_1 ?_
      refine k_aload_n G (dc d_Mo_readMonths 8 rfl) 1 rfl rfl ?_
      refine k_bipush G (dc d_Mo_readMonths 9 rfl) cB_49 ?_
      refine k_bipush G (dc d_Mo_readMonths 10 rfl) cB_57 ?_
      obtain ⟨⟨x15, M16⟩, e14, h⟩ := kOk_b h
      refine k_cVI G (dc d_Mo_readMonths 11 rfl) kc8 (okL_lt hu (o := 0) 0 rfl) (okL_k hu (o := 0) 0 rfl) mi_Mo_takes mv_Mo_takes rfl ml_RX11_178 (c_Mo_takes (gst G) hu e14) rfl rfl ⟨rfl, rfl⟩ rfl ⟨rfl, rfl⟩ ⟨rfl, rfl⟩ ?_
      refine k_iadd G (dc d_Mo_readMonths 12 rfl) ?_
      refine k_goto G (dc d_Mo_readMonths 13 rfl) (tgt := 50) rfl ?_
      refine k_sub [] rfl ?_
      have h9 := kOk_s h
      exact h9
theorem c_Mo_readMonths {l : Launch} {B : KB} {L : KLay} {M : KMem} {u : Nat} (hst : l.stackTraces = false) (hu : okL L u moT) {r : Int32} {M' : KMem} (e : m_Mo_readMonths u M = some (r, M')) : CtrN l B yX11_readMonths cX11_readMonths 2 (some .int) rm_Mo_readMonths [.ref (B.1 + u)] L M (some (.int r)) L M' :=
  mk_I rfl hst rfl (fun X hl G _ R => b_Mo_readMonths G hu ⟨_, e, R⟩)
def I_Mo_readCommand : List (Nat × Instr × Nat) := [(0, .aload_n 0, 1), (1, .aload_n 0, 1), (2, .getfield 22, 3), (5, .aload_n 0, 1), (6, .getfield 171, 3), (9, .iaload, 1), (10, .putfield 115, 3), (13, .aload_n 0, 1), (14, .aload_n 0, 1), (15, .getfield 115, 3), (18, .bipush 115, 2), (20, .if_icmp .eq 70, 3), (23, .aload_n 0, 1), (24, .getfield 115, 3), (27, .bipush 100, 2), (29, .if_icmp .eq 61, 3), (32, .aload_n 0, 1), (33, .getfield 115, 3), (36, .bipush 106, 2), (38, .if_icmp .eq 52, 3), (41, .aload_n 0, 1), (42, .getfield 115, 3), (45, .bipush 111, 2), (47, .if_icmp .eq 43, 3), (50, .aload_n 0, 1), (51, .getfield 115, 3), (54, .bipush 114, 2), (56, .if_icmp .eq 34, 3), (59, .aload_n 0, 1), (60, .getfield 115, 3), (63, .bipush 112, 2), (65, .if_icmp .eq 25, 3), (68, .aload_n 0, 1), (69, .getfield 115, 3), (72, .bipush 109, 2), (74, .if_icmp .eq 16, 3), (77, .aload_n 0, 1), (78, .getfield 115, 3), (81, .bipush 121, 2), (83, .if_icmp .eq 7, 3), (86, .iconst 1, 1), (87, .goto 4, 3), (90, .iconst 0, 1), (91, .putfield 167, 3), (94, .aload_n 0, 1), (95, .dup, 1), (96, .getfield 171, 3), (99, .aload_n 0, 1), (100, .getfield 167, 3), (103, .ifCond .eq 7, 3), (106, .iconst 0, 1), (107, .goto 4, 3), (110, .iconst 1, 1), (111, .iadd, 1), (112, .putfield 171, 3), (115, .aload_n 0, 1), (116, .getfield 115, 3), (119, .tableswitch 244 100 121 #[124, 244, 244, 244, 244, 244, 141, 244, 244, 216, 244, 124, 201, 244, 186, 101, 244, 244, 244, 244, 244, 227], 101), (220, .aload_n 0, 1), (221, .aload_n 0, 1), (222, .bipush 48, 2), (224, .bipush 51, 2), (226, .invokevirtual 178, 3), (229, .putfield 118, 3), (232, .aload_n 0, 1), (233, .aload_n 0, 1), (234, .invokevirtual 181, 3), (237, .putfield 121, 3), (240, .goto 128, 3), (243, .aload_n 0, 1), (244, .iconst 1, 1), (245, .aload_n 0, 1), (246, .bipush 49, 2), (248, .bipush 54, 2), (250, .invokevirtual 178, 3), (253, .iadd, 1), (254, .putfield 118, 3), (257, .goto 111, 3), (260, .aload_n 0, 1), (261, .iconst 1, 1), (262, .aload_n 0, 1), (263, .bipush 49, 2), (265, .bipush 54, 2), (267, .invokevirtual 178, 3), (270, .iadd, 1), (271, .putfield 118, 3), (274, .aload_n 0, 1), (275, .iconst 1, 1), (276, .aload_n 0, 1), (277, .bipush 49, 2), (279, .bipush 54, 2), (281, .invokevirtual 178, 3), (284, .iadd, 1), (285, .putfield 121, 3), (288, .aload_n 0, 1), (289, .iconst 1, 1), (290, .aload_n 0, 1), (291, .bipush 49, 2), (293, .bipush 54, 2), (295, .invokevirtual 178, 3), (298, .iadd, 1), (299, .putfield 137, 3), (302, .goto 66, 3), (305, .aload_n 0, 1), (306, .aload_n 0, 1), (307, .bipush 48, 2), (309, .bipush 57, 2), (311, .invokevirtual 178, 3), (314, .putfield 118, 3), (317, .goto 51, 3), (320, .aload_n 0, 1), (321, .aload_n 0, 1), (322, .bipush 48, 2), (324, .bipush 55, 2), (326, .invokevirtual 178, 3), (329, .putfield 118, 3), (332, .goto 36, 3), (335, .aload_n 0, 1), (336, .aload_n 0, 1), (337, .invokevirtual 184, 3), (340, .putfield 118, 3), (343, .goto 25, 3), (346, .aload_n 0, 1), (347, .iconst 1, 1), (348, .aload_n 0, 1), (349, .bipush 49, 2), (351, .bipush 57, 2), (353, .invokevirtual 178, 3), (356, .iadd, 1), (357, .putfield 118, 3), (360, .goto 8, 3), (363, .aload_n 0, 1), (364, .iconst 0, 1), (365, .putfield 118, 3), (368, .return_, 1)]
set_option maxRecDepth 100000 in
theorem d_Mo_readCommand : decA cX11_readCommand I_Mo_readCommand = true := by decide +kernel
abbrev rm_Mo_readCommand : Room := ({ frames := 4, cells := 0, slots := 0, locals := 90 } : Room)
def m_Mo_readCommand (u : Nat) (M : KMem) : Option KMem :=
 Option.bind (rdI M (u + 5) 120 (M u 15)) fun x2 =>
 Option.bind (some (kup M u 11 x2)) fun M4 =>
 Option.bind (α := Int32) (if (M4 u 11) = 115 then
 (some 0)
 else
 (if (M4 u 11) = 100 then
 (some 0)
 else
 (if (M4 u 11) = 106 then
 (some 0)
 else
 (if (M4 u 11) = 111 then
 (some 0)
 else
 (if (M4 u 11) = 114 then
 (some 0)
 else
 (if (M4 u 11) = 112 then
 (some 0)
 else
 (if (M4 u 11) = 109 then
 (some 0)
 else
 (if (M4 u 11) = 121 then
 (some 0)
 else
 (some 1))))))))) fun t5 =>
 Option.bind (kz t5) fun z9 =>
 Option.bind (some (kup M4 u 16 z9)) fun M8 =>
 Option.bind (α := Int32) (if (M8 u 16) = 0 then
 (some 1)
 else
 (some 0)) fun t11 =>
 Option.bind (some (kup M8 u 15 ((M8 u 15) + t11))) fun M14 =>
 Option.bind (α := KMem) (if (M14 u 11) = 100 ∨ (M14 u 11) = 111 then
 (Option.bind (m_Mo_takes u 49 54 M14) fun (x25, M26) =>
 Option.bind (some (kup M26 u 12 (1 + x25))) fun M28 =>
 some M28)
 else
 (if (M14 u 11) = 106 then
 (Option.bind (m_Mo_takes u 49 54 M14) fun (x31, M32) =>
 Option.bind (some (kup M32 u 12 (1 + x31))) fun M34 =>
 Option.bind (m_Mo_takes u 49 54 M34) fun (x36, M37) =>
 Option.bind (some (kup M37 u 13 (1 + x36))) fun M39 =>
 Option.bind (m_Mo_takes u 49 54 M39) fun (x41, M42) =>
 Option.bind (some (kup M42 u 14 (1 + x41))) fun M44 =>
 some M44)
 else
 (if (M14 u 11) = 109 then
 (Option.bind (m_Mo_readMonths u M14) fun (x47, M48) =>
 Option.bind (some (kup M48 u 12 x47)) fun M50 =>
 some M50)
 else
 (if (M14 u 11) = 112 then
 (Option.bind (m_Mo_takes u 48 55 M14) fun (x53, M54) =>
 Option.bind (some (kup M54 u 12 x53)) fun M56 =>
 some M56)
 else
 (if (M14 u 11) = 114 then
 (Option.bind (m_Mo_takes u 48 57 M14) fun (x59, M60) =>
 Option.bind (some (kup M60 u 12 x59)) fun M62 =>
 some M62)
 else
 (if (M14 u 11) = 115 then
 (Option.bind (m_Mo_takes u 48 51 M14) fun (x65, M66) =>
 Option.bind (some (kup M66 u 12 x65)) fun M68 =>
 Option.bind (m_Mo_readWord u M68) fun (x70, M71) =>
 Option.bind (some (kup M71 u 13 x70)) fun M73 =>
 some M73)
 else
 (if (M14 u 11) = 121 then
 (Option.bind (m_Mo_takes u 49 57 M14) fun (x76, M77) =>
 Option.bind (some (kup M77 u 12 (1 + x76))) fun M79 =>
 some M79)
 else
 (Option.bind (some (kup M14 u 12 0)) fun M82 =>
 some M82)))))))) fun M15 =>
 some M15
set_option maxHeartbeats 4000000 in
set_option maxRecDepth 100000 in
theorem b_Mo_readCommand {X : KX} {B : KB} {L : KLay} {M : KMem} {u : Nat} (G : Good X B RX11 cX11_readCommand 1 rm_Mo_readCommand) (hu : okL L u moT) (h : kOk (m_Mo_readCommand u M) (fun r => RV X B L 1 cX11_readCommand rm_Mo_readCommand r)) : KK X B L 1 0 0 M 0 [(0, .ref (B.1 + u))] [] := by
  unfold m_Mo_readCommand at h
  refine k_aload_n G (dc d_Mo_readCommand 0 rfl) 0 rfl rfl ?_
  refine k_aload_n G (dc d_Mo_readCommand 1 rfl) 0 rfl rfl ?_
  refine k_getR G kc8 (dc d_Mo_readCommand 2 rfl) (okL_lt hu (o := 0) 0 rfl) (okL_k hu (o := 0) 0 rfl) 7 (by decide) rfl fl_RX11_22 (u + 5) (okL_r hu (o := 0) (c := 5) 0 rfl 4 rfl) ?_
  refine k_aload_n G (dc d_Mo_readCommand 3 rfl) 0 rfl rfl ?_
  refine k_getI G kc8 (dc d_Mo_readCommand 4 rfl) (okL_lt hu (o := 0) 0 rfl) (okL_k hu (o := 0) 0 rfl) 15 (by decide) rfl fl_RX11_171 ?_
  obtain ⟨x2, e1, h⟩ := kOk_b h
  refine k_ild G (dc d_Mo_readCommand 5 rfl) (okL_lt hu (o := 5) 5 rfl) (okL_k hu (o := 5) 5 rfl) (okL_n hu (o := 5) 5 rfl) e1 ?_
  obtain ⟨M4, e3, h⟩ := kOk_b h
  refine k_putI G kc8 (dc d_Mo_readCommand 6 rfl) (okL_lt hu (o := 0) 0 rfl) (okL_k hu (o := 0) 0 rfl) 11 (by decide) rfl rfl fl_RX11_115 rfl rfl e3 ?_
  refine k_aload_n G (dc d_Mo_readCommand 7 rfl) 0 rfl rfl ?_
  refine k_aload_n G (dc d_Mo_readCommand 8 rfl) 0 rfl rfl ?_
  refine k_getI G kc8 (dc d_Mo_readCommand 9 rfl) (okL_lt hu (o := 0) 0 rfl) (okL_k hu (o := 0) 0 rfl) 11 (by decide) rfl fl_RX11_115 ?_
  refine k_bipush G (dc d_Mo_readCommand 10 rfl) cB_115 ?_
  refine kJ h (fun r6 => KK X B L 1 0 0 M4 91 [(0, .ref (B.1 + u))] [.int r6, .ref (B.1 + u)]) (fun r6 h => ?_) (fun h => ?_)
  · obtain ⟨t5, rfl⟩ : ∃ z, z = r6 := ⟨_, rfl⟩
    show KK X B L 1 0 0 M4 91 [(0, .ref (B.1 + u))] [.int t5, .ref (B.1 + u)]
    obtain ⟨z9, e10, h⟩ := kOk_b h
    obtain ⟨e10, nz9, fz9⟩ := kz_ok e10
    rw [e10]
    obtain ⟨M8, e7, h⟩ := kOk_b h
    refine k_putI G kc8 (dc d_Mo_readCommand 43 rfl) (okL_lt hu (o := 0) 0 rfl) (okL_k hu (o := 0) 0 rfl) 16 (by decide) rfl rfl fl_RX11_167 nz9 fz9 e7 ?_
    refine k_aload_n G (dc d_Mo_readCommand 44 rfl) 0 rfl rfl ?_
    refine k_dup G (dc d_Mo_readCommand 45 rfl) rfl ?_
    refine k_getI G kc8 (dc d_Mo_readCommand 46 rfl) (okL_lt hu (o := 0) 0 rfl) (okL_k hu (o := 0) 0 rfl) 15 (by decide) rfl fl_RX11_171 ?_
    refine k_aload_n G (dc d_Mo_readCommand 47 rfl) 0 rfl rfl ?_
    refine k_getI G kc8 (dc d_Mo_readCommand 48 rfl) (okL_lt hu (o := 0) 0 rfl) (okL_k hu (o := 0) 0 rfl) 16 (by decide) rfl fl_RX11_167 ?_
    refine kJ h (fun r12 => KK X B L 1 0 0 M8 111 [(0, .ref (B.1 + u))] [.int r12, .int (M8 u 15), .ref (B.1 + u)]) (fun r12 h => ?_) (fun h => ?_)
    · obtain ⟨t11, rfl⟩ : ∃ z, z = r12 := ⟨_, rfl⟩
      show KK X B L 1 0 0 M8 111 [(0, .ref (B.1 + u))] [.int t11, .int (M8 u 15), .ref (B.1 + u)]
      refine k_iadd G (dc d_Mo_readCommand 53 rfl) ?_
      obtain ⟨M14, e13, h⟩ := kOk_b h
      refine k_putI G kc8 (dc d_Mo_readCommand 54 rfl) (okL_lt hu (o := 0) 0 rfl) (okL_k hu (o := 0) 0 rfl) 15 (by decide) rfl rfl fl_RX11_171 rfl rfl e13 ?_
      refine k_aload_n G (dc d_Mo_readCommand 55 rfl) 0 rfl rfl ?_
      refine k_getI G kc8 (dc d_Mo_readCommand 56 rfl) (okL_lt hu (o := 0) 0 rfl) (okL_k hu (o := 0) 0 rfl) 11 (by decide) rfl fl_RX11_115 ?_
      refine kJ h (fun r16 => KK X B L 1 0 0 r16 368 [] []) (fun r16 h => ?_) (fun h => ?_)
      · obtain ⟨M15, rfl⟩ : ∃ z, z = r16 := ⟨_, rfl⟩
        show KK X B L 1 0 0 M15 368 [] []
        exact (kOk_s h) _ _ _ _ rfl rfl (dc d_Mo_readCommand 134 rfl)
      · by_cases c17 : (M14 u 11) = 100 ∨ (M14 u 11) = 111
        · replace h := kOk_p c17 h
          have hA29 : KK X B L 1 0 0 M14 243 [(0, .ref (B.1 + u))] [] := by
            refine k_aload_n G (dc d_Mo_readCommand 69 rfl) 0 rfl rfl ?_
            refine k_iconst G (dc d_Mo_readCommand 70 rfl) cI_1 ?_
            refine k_aload_n G (dc d_Mo_readCommand 71 rfl) 0 rfl rfl ?_
            refine k_bipush G (dc d_Mo_readCommand 72 rfl) cB_49 ?_
            refine k_bipush G (dc d_Mo_readCommand 73 rfl) cB_54 ?_
            obtain ⟨⟨x25, M26⟩, e24, h⟩ := kOk_b h
            refine k_cVI G (dc d_Mo_readCommand 74 rfl) kc8 (okL_lt hu (o := 0) 0 rfl) (okL_k hu (o := 0) 0 rfl) mi_Mo_takes mv_Mo_takes rfl ml_RX11_178 (c_Mo_takes (gst G) hu e24) rfl rfl ⟨rfl, rfl⟩ rfl ⟨rfl, rfl⟩ ⟨rfl, rfl⟩ ?_
            refine k_iadd G (dc d_Mo_readCommand 75 rfl) ?_
            obtain ⟨M28, e27, h⟩ := kOk_b h
            refine k_putI G kc8 (dc d_Mo_readCommand 76 rfl) (okL_lt hu (o := 0) 0 rfl) (okL_k hu (o := 0) 0 rfl) 12 (by decide) rfl rfl fl_RX11_118 rfl rfl e27 ?_
            refine k_goto G (dc d_Mo_readCommand 77 rfl) (tgt := 368) rfl ?_
            refine k_sub [] rfl ?_
            have h9 := kOk_s h
            exact h9
          rcases c17 with c17 | c17
          · exact k_tsI G (dc d_Mo_readCommand 57 rfl) (off := 124) (tgt := 243) c17 (by decide) (by decide) (by decide) (by decide) hA29
          · exact k_tsI G (dc d_Mo_readCommand 57 rfl) (off := 124) (tgt := 243) c17 (by decide) (by decide) (by decide) (by decide) hA29
        · replace h := kOk_n c17 h
          by_cases c18 : (M14 u 11) = 106
          · replace h := kOk_p c18 h
            refine k_tsI G (dc d_Mo_readCommand 57 rfl) (off := 141) (tgt := 260) c18 (by decide) (by decide) (by decide) (by decide) ?_
            refine k_aload_n G (dc d_Mo_readCommand 78 rfl) 0 rfl rfl ?_
            refine k_iconst G (dc d_Mo_readCommand 79 rfl) cI_1 ?_
            refine k_aload_n G (dc d_Mo_readCommand 80 rfl) 0 rfl rfl ?_
            refine k_bipush G (dc d_Mo_readCommand 81 rfl) cB_49 ?_
            refine k_bipush G (dc d_Mo_readCommand 82 rfl) cB_54 ?_
            obtain ⟨⟨x31, M32⟩, e30, h⟩ := kOk_b h
            refine k_cVI G (dc d_Mo_readCommand 83 rfl) kc8 (okL_lt hu (o := 0) 0 rfl) (okL_k hu (o := 0) 0 rfl) mi_Mo_takes mv_Mo_takes rfl ml_RX11_178 (c_Mo_takes (gst G) hu e30) rfl rfl ⟨rfl, rfl⟩ rfl ⟨rfl, rfl⟩ ⟨rfl, rfl⟩ ?_
            refine k_iadd G (dc d_Mo_readCommand 84 rfl) ?_
            obtain ⟨M34, e33, h⟩ := kOk_b h
            refine k_putI G kc8 (dc d_Mo_readCommand 85 rfl) (okL_lt hu (o := 0) 0 rfl) (okL_k hu (o := 0) 0 rfl) 12 (by decide) rfl rfl fl_RX11_118 rfl rfl e33 ?_
            refine k_aload_n G (dc d_Mo_readCommand 86 rfl) 0 rfl rfl ?_
            refine k_iconst G (dc d_Mo_readCommand 87 rfl) cI_1 ?_
            refine k_aload_n G (dc d_Mo_readCommand 88 rfl) 0 rfl rfl ?_
            refine k_bipush G (dc d_Mo_readCommand 89 rfl) cB_49 ?_
            refine k_bipush G (dc d_Mo_readCommand 90 rfl) cB_54 ?_
            obtain ⟨⟨x36, M37⟩, e35, h⟩ := kOk_b h
            refine k_cVI G (dc d_Mo_readCommand 91 rfl) kc8 (okL_lt hu (o := 0) 0 rfl) (okL_k hu (o := 0) 0 rfl) mi_Mo_takes mv_Mo_takes rfl ml_RX11_178 (c_Mo_takes (gst G) hu e35) rfl rfl ⟨rfl, rfl⟩ rfl ⟨rfl, rfl⟩ ⟨rfl, rfl⟩ ?_
            refine k_iadd G (dc d_Mo_readCommand 92 rfl) ?_
            obtain ⟨M39, e38, h⟩ := kOk_b h
            refine k_putI G kc8 (dc d_Mo_readCommand 93 rfl) (okL_lt hu (o := 0) 0 rfl) (okL_k hu (o := 0) 0 rfl) 13 (by decide) rfl rfl fl_RX11_121 rfl rfl e38 ?_
            refine k_aload_n G (dc d_Mo_readCommand 94 rfl) 0 rfl rfl ?_
            refine k_iconst G (dc d_Mo_readCommand 95 rfl) cI_1 ?_
            refine k_aload_n G (dc d_Mo_readCommand 96 rfl) 0 rfl rfl ?_
            refine k_bipush G (dc d_Mo_readCommand 97 rfl) cB_49 ?_
            refine k_bipush G (dc d_Mo_readCommand 98 rfl) cB_54 ?_
            obtain ⟨⟨x41, M42⟩, e40, h⟩ := kOk_b h
            refine k_cVI G (dc d_Mo_readCommand 99 rfl) kc8 (okL_lt hu (o := 0) 0 rfl) (okL_k hu (o := 0) 0 rfl) mi_Mo_takes mv_Mo_takes rfl ml_RX11_178 (c_Mo_takes (gst G) hu e40) rfl rfl ⟨rfl, rfl⟩ rfl ⟨rfl, rfl⟩ ⟨rfl, rfl⟩ ?_
            refine k_iadd G (dc d_Mo_readCommand 100 rfl) ?_
            obtain ⟨M44, e43, h⟩ := kOk_b h
            refine k_putI G kc8 (dc d_Mo_readCommand 101 rfl) (okL_lt hu (o := 0) 0 rfl) (okL_k hu (o := 0) 0 rfl) 14 (by decide) rfl rfl fl_RX11_137 rfl rfl e43 ?_
            refine k_goto G (dc d_Mo_readCommand 102 rfl) (tgt := 368) rfl ?_
            refine k_sub [] rfl ?_
            have h9 := kOk_s h
            exact h9
          · replace h := kOk_n c18 h
            by_cases c19 : (M14 u 11) = 109
            · replace h := kOk_p c19 h
              refine k_tsI G (dc d_Mo_readCommand 57 rfl) (off := 216) (tgt := 335) c19 (by decide) (by decide) (by decide) (by decide) ?_
              refine k_aload_n G (dc d_Mo_readCommand 117 rfl) 0 rfl rfl ?_
              refine k_aload_n G (dc d_Mo_readCommand 118 rfl) 0 rfl rfl ?_
              obtain ⟨⟨x47, M48⟩, e46, h⟩ := kOk_b h
              refine k_cVI G (dc d_Mo_readCommand 119 rfl) kc8 (okL_lt hu (o := 0) 0 rfl) (okL_k hu (o := 0) 0 rfl) mi_Mo_readMonths mv_Mo_readMonths rfl ml_RX11_184 (c_Mo_readMonths (gst G) hu e46) rfl rfl ⟨rfl, rfl⟩ rfl ⟨rfl, rfl⟩ ⟨rfl, rfl⟩ ?_
              obtain ⟨M50, e49, h⟩ := kOk_b h
              refine k_putI G kc8 (dc d_Mo_readCommand 120 rfl) (okL_lt hu (o := 0) 0 rfl) (okL_k hu (o := 0) 0 rfl) 12 (by decide) rfl rfl fl_RX11_118 rfl rfl e49 ?_
              refine k_goto G (dc d_Mo_readCommand 121 rfl) (tgt := 368) rfl ?_
              refine k_sub [] rfl ?_
              have h9 := kOk_s h
              exact h9
            · replace h := kOk_n c19 h
              by_cases c20 : (M14 u 11) = 112
              · replace h := kOk_p c20 h
                refine k_tsI G (dc d_Mo_readCommand 57 rfl) (off := 201) (tgt := 320) c20 (by decide) (by decide) (by decide) (by decide) ?_
                refine k_aload_n G (dc d_Mo_readCommand 110 rfl) 0 rfl rfl ?_
                refine k_aload_n G (dc d_Mo_readCommand 111 rfl) 0 rfl rfl ?_
                refine k_bipush G (dc d_Mo_readCommand 112 rfl) cB_48 ?_
                refine k_bipush G (dc d_Mo_readCommand 113 rfl) cB_55 ?_
                obtain ⟨⟨x53, M54⟩, e52, h⟩ := kOk_b h
                refine k_cVI G (dc d_Mo_readCommand 114 rfl) kc8 (okL_lt hu (o := 0) 0 rfl) (okL_k hu (o := 0) 0 rfl) mi_Mo_takes mv_Mo_takes rfl ml_RX11_178 (c_Mo_takes (gst G) hu e52) rfl rfl ⟨rfl, rfl⟩ rfl ⟨rfl, rfl⟩ ⟨rfl, rfl⟩ ?_
                obtain ⟨M56, e55, h⟩ := kOk_b h
                refine k_putI G kc8 (dc d_Mo_readCommand 115 rfl) (okL_lt hu (o := 0) 0 rfl) (okL_k hu (o := 0) 0 rfl) 12 (by decide) rfl rfl fl_RX11_118 rfl rfl e55 ?_
                refine k_goto G (dc d_Mo_readCommand 116 rfl) (tgt := 368) rfl ?_
                refine k_sub [] rfl ?_
                have h9 := kOk_s h
                exact h9
              · replace h := kOk_n c20 h
                by_cases c21 : (M14 u 11) = 114
                · replace h := kOk_p c21 h
                  refine k_tsI G (dc d_Mo_readCommand 57 rfl) (off := 186) (tgt := 305) c21 (by decide) (by decide) (by decide) (by decide) ?_
                  refine k_aload_n G (dc d_Mo_readCommand 103 rfl) 0 rfl rfl ?_
                  refine k_aload_n G (dc d_Mo_readCommand 104 rfl) 0 rfl rfl ?_
                  refine k_bipush G (dc d_Mo_readCommand 105 rfl) cB_48 ?_
                  refine k_bipush G (dc d_Mo_readCommand 106 rfl) cB_57 ?_
                  obtain ⟨⟨x59, M60⟩, e58, h⟩ := kOk_b h
                  refine k_cVI G (dc d_Mo_readCommand 107 rfl) kc8 (okL_lt hu (o := 0) 0 rfl) (okL_k hu (o := 0) 0 rfl) mi_Mo_takes mv_Mo_takes rfl ml_RX11_178 (c_Mo_takes (gst G) hu e58) rfl rfl ⟨rfl, rfl⟩ rfl ⟨rfl, rfl⟩ ⟨rfl, rfl⟩ ?_
                  obtain ⟨M62, e61, h⟩ := kOk_b h
                  refine k_putI G kc8 (dc d_Mo_readCommand 108 rfl) (okL_lt hu (o := 0) 0 rfl) (okL_k hu (o := 0) 0 rfl) 12 (by decide) rfl rfl fl_RX11_118 rfl rfl e61 ?_
                  refine k_goto G (dc d_Mo_readCommand 109 rfl) (tgt := 368) rfl ?_
                  refine k_sub [] rfl ?_
                  have h9 := kOk_s h
                  exact h9
                · replace h := kOk_n c21 h
                  by_cases c22 : (M14 u 11) = 115
                  · replace h := kOk_p c22 h
                    refine k_tsI G (dc d_Mo_readCommand 57 rfl) (off := 101) (tgt := 220) c22 (by decide) (by decide) (by decide) (by decide) ?_
                    refine k_aload_n G (dc d_Mo_readCommand 58 rfl) 0 rfl rfl ?_
                    refine k_aload_n G (dc d_Mo_readCommand 59 rfl) 0 rfl rfl ?_
                    refine k_bipush G (dc d_Mo_readCommand 60 rfl) cB_48 ?_
                    refine k_bipush G (dc d_Mo_readCommand 61 rfl) cB_51 ?_
                    obtain ⟨⟨x65, M66⟩, e64, h⟩ := kOk_b h
                    refine k_cVI G (dc d_Mo_readCommand 62 rfl) kc8 (okL_lt hu (o := 0) 0 rfl) (okL_k hu (o := 0) 0 rfl) mi_Mo_takes mv_Mo_takes rfl ml_RX11_178 (c_Mo_takes (gst G) hu e64) rfl rfl ⟨rfl, rfl⟩ rfl ⟨rfl, rfl⟩ ⟨rfl, rfl⟩ ?_
                    obtain ⟨M68, e67, h⟩ := kOk_b h
                    refine k_putI G kc8 (dc d_Mo_readCommand 63 rfl) (okL_lt hu (o := 0) 0 rfl) (okL_k hu (o := 0) 0 rfl) 12 (by decide) rfl rfl fl_RX11_118 rfl rfl e67 ?_
                    refine k_aload_n G (dc d_Mo_readCommand 64 rfl) 0 rfl rfl ?_
                    refine k_aload_n G (dc d_Mo_readCommand 65 rfl) 0 rfl rfl ?_
                    obtain ⟨⟨x70, M71⟩, e69, h⟩ := kOk_b h
                    refine k_cVI G (dc d_Mo_readCommand 66 rfl) kc8 (okL_lt hu (o := 0) 0 rfl) (okL_k hu (o := 0) 0 rfl) mi_Mo_readWord mv_Mo_readWord rfl ml_RX11_181 (c_Mo_readWord (gst G) hu e69) rfl rfl ⟨rfl, rfl⟩ rfl ⟨rfl, rfl⟩ ⟨rfl, rfl⟩ ?_
                    obtain ⟨M73, e72, h⟩ := kOk_b h
                    refine k_putI G kc8 (dc d_Mo_readCommand 67 rfl) (okL_lt hu (o := 0) 0 rfl) (okL_k hu (o := 0) 0 rfl) 13 (by decide) rfl rfl fl_RX11_121 rfl rfl e72 ?_
                    refine k_goto G (dc d_Mo_readCommand 68 rfl) (tgt := 368) rfl ?_
                    refine k_sub [] rfl ?_
                    have h9 := kOk_s h
                    exact h9
                  · replace h := kOk_n c22 h
                    by_cases c23 : (M14 u 11) = 121
                    · replace h := kOk_p c23 h
                      refine k_tsI G (dc d_Mo_readCommand 57 rfl) (off := 227) (tgt := 346) c23 (by decide) (by decide) (by decide) (by decide) ?_
                      refine k_aload_n G (dc d_Mo_readCommand 122 rfl) 0 rfl rfl ?_
                      refine k_iconst G (dc d_Mo_readCommand 123 rfl) cI_1 ?_
                      refine k_aload_n G (dc d_Mo_readCommand 124 rfl) 0 rfl rfl ?_
                      refine k_bipush G (dc d_Mo_readCommand 125 rfl) cB_49 ?_
                      refine k_bipush G (dc d_Mo_readCommand 126 rfl) cB_57 ?_
                      obtain ⟨⟨x76, M77⟩, e75, h⟩ := kOk_b h
                      refine k_cVI G (dc d_Mo_readCommand 127 rfl) kc8 (okL_lt hu (o := 0) 0 rfl) (okL_k hu (o := 0) 0 rfl) mi_Mo_takes mv_Mo_takes rfl ml_RX11_178 (c_Mo_takes (gst G) hu e75) rfl rfl ⟨rfl, rfl⟩ rfl ⟨rfl, rfl⟩ ⟨rfl, rfl⟩ ?_
                      refine k_iadd G (dc d_Mo_readCommand 128 rfl) ?_
                      obtain ⟨M79, e78, h⟩ := kOk_b h
                      refine k_putI G kc8 (dc d_Mo_readCommand 129 rfl) (okL_lt hu (o := 0) 0 rfl) (okL_k hu (o := 0) 0 rfl) 12 (by decide) rfl rfl fl_RX11_118 rfl rfl e78 ?_
                      refine k_goto G (dc d_Mo_readCommand 130 rfl) (tgt := 368) rfl ?_
                      refine k_sub [] rfl ?_
                      have h9 := kOk_s h
                      exact h9
                    · replace h := kOk_n c23 h
                      have hD83 : KK X B L 1 0 0 M14 363 [(0, .ref (B.1 + u))] [] := by
                        refine k_aload_n G (dc d_Mo_readCommand 131 rfl) 0 rfl rfl ?_
                        refine k_iconst G (dc d_Mo_readCommand 132 rfl) cI_0 ?_
                        obtain ⟨M82, e81, h⟩ := kOk_b h
                        refine k_putI G kc8 (dc d_Mo_readCommand 133 rfl) (okL_lt hu (o := 0) 0 rfl) (okL_k hu (o := 0) 0 rfl) 12 (by decide) rfl rfl fl_RX11_118 rfl rfl e81 ?_
                        refine k_sub [] rfl ?_
                        have h9 := kOk_s h
                        exact h9
                      rcases ts_out (M14 u 11) 100 121 with ho | ⟨k9, h91, h92, h93⟩
                      · exact k_tableOut G (dc d_Mo_readCommand 57 rfl) (tgt := 363) ho rfl hD83
                      · have h94 : k9 = 100 ∨ k9 = 101 ∨ k9 = 102 ∨ k9 = 103 ∨ k9 = 104 ∨ k9 = 105 ∨ k9 = 106 ∨ k9 = 107 ∨ k9 = 108 ∨ k9 = 109 ∨ k9 = 110 ∨ k9 = 111 ∨ k9 = 112 ∨ k9 = 113 ∨ k9 = 114 ∨ k9 = 115 ∨ k9 = 116 ∨ k9 = 117 ∨ k9 = 118 ∨ k9 = 119 ∨ k9 = 120 ∨ k9 = 121 := by omega
                        rcases h94 with rfl | rfl | rfl | rfl | rfl | rfl | rfl | rfl | rfl | rfl | rfl | rfl | rfl | rfl | rfl | rfl | rfl | rfl | rfl | rfl | rfl | rfl
                        · exact absurd (Or.inl (h93.trans cI_100)) c17
                        · exact k_tsI G (dc d_Mo_readCommand 57 rfl) (off := 244) (tgt := 363) (h93.trans cI_101) (by decide) (by decide) (by decide) (by decide) hD83
                        · exact k_tsI G (dc d_Mo_readCommand 57 rfl) (off := 244) (tgt := 363) (h93.trans cI_102) (by decide) (by decide) (by decide) (by decide) hD83
                        · exact k_tsI G (dc d_Mo_readCommand 57 rfl) (off := 244) (tgt := 363) (h93.trans cI_103) (by decide) (by decide) (by decide) (by decide) hD83
                        · exact k_tsI G (dc d_Mo_readCommand 57 rfl) (off := 244) (tgt := 363) (h93.trans cI_104) (by decide) (by decide) (by decide) (by decide) hD83
                        · exact k_tsI G (dc d_Mo_readCommand 57 rfl) (off := 244) (tgt := 363) (h93.trans cI_105) (by decide) (by decide) (by decide) (by decide) hD83
                        · exact absurd (h93.trans cI_106) c18
                        · exact k_tsI G (dc d_Mo_readCommand 57 rfl) (off := 244) (tgt := 363) (h93.trans cI_107) (by decide) (by decide) (by decide) (by decide) hD83
                        · exact k_tsI G (dc d_Mo_readCommand 57 rfl) (off := 244) (tgt := 363) (h93.trans cI_108) (by decide) (by decide) (by decide) (by decide) hD83
                        · exact absurd (h93.trans cI_109) c19
                        · exact k_tsI G (dc d_Mo_readCommand 57 rfl) (off := 244) (tgt := 363) (h93.trans cI_110) (by decide) (by decide) (by decide) (by decide) hD83
                        · exact absurd (Or.inr ((h93.trans cI_111))) c17
                        · exact absurd (h93.trans cI_112) c20
                        · exact k_tsI G (dc d_Mo_readCommand 57 rfl) (off := 244) (tgt := 363) (h93.trans cI_113) (by decide) (by decide) (by decide) (by decide) hD83
                        · exact absurd (h93.trans cI_114) c21
                        · exact absurd (h93.trans cI_115) c22
                        · exact k_tsI G (dc d_Mo_readCommand 57 rfl) (off := 244) (tgt := 363) (h93.trans cI_116) (by decide) (by decide) (by decide) (by decide) hD83
                        · exact k_tsI G (dc d_Mo_readCommand 57 rfl) (off := 244) (tgt := 363) (h93.trans cI_117) (by decide) (by decide) (by decide) (by decide) hD83
                        · exact k_tsI G (dc d_Mo_readCommand 57 rfl) (off := 244) (tgt := 363) (h93.trans cI_118) (by decide) (by decide) (by decide) (by decide) hD83
                        · exact k_tsI G (dc d_Mo_readCommand 57 rfl) (off := 244) (tgt := 363) (h93.trans cI_119) (by decide) (by decide) (by decide) (by decide) hD83
                        · exact k_tsI G (dc d_Mo_readCommand 57 rfl) (off := 244) (tgt := 363) (h93.trans cI_120) (by decide) (by decide) (by decide) (by decide) hD83
                        · exact absurd (h93.trans cI_121) c23
    · refine k_if_eq G (dc d_Mo_readCommand 49 rfl) (tgt := 110) rfl (fun c84 => ?_) (fun c84 => ?_)
      · replace h := kOk_p c84 h
        refine k_iconst G (dc d_Mo_readCommand 52 rfl) cI_1 ?_
        have h9 := kOk_s h
        exact h9
      · replace h := kOk_n c84 h
        refine k_iconst G (dc d_Mo_readCommand 50 rfl) cI_0 ?_
        refine k_goto G (dc d_Mo_readCommand 51 rfl) (tgt := 111) rfl ?_
        have h9 := kOk_s h
        exact h9
  · refine k_icmp_eq G (dc d_Mo_readCommand 11 rfl) (tgt := 90) rfl (fun c85 => ?_) (fun c85 => ?_)
    · replace h := kOk_p c85 h
      refine k_iconst G (dc d_Mo_readCommand 42 rfl) cI_0 ?_
      have h9 := kOk_s h
      exact h9
    · replace h := kOk_n c85 h
      refine k_aload_n G (dc d_Mo_readCommand 12 rfl) 0 rfl rfl ?_
      refine k_getI G kc8 (dc d_Mo_readCommand 13 rfl) (okL_lt hu (o := 0) 0 rfl) (okL_k hu (o := 0) 0 rfl) 11 (by decide) rfl fl_RX11_115 ?_
      refine k_bipush G (dc d_Mo_readCommand 14 rfl) cB_100 ?_
      refine k_icmp_eq G (dc d_Mo_readCommand 15 rfl) (tgt := 90) rfl (fun c86 => ?_) (fun c86 => ?_)
      · replace h := kOk_p c86 h
        refine k_iconst G (dc d_Mo_readCommand 42 rfl) cI_0 ?_
        have h9 := kOk_s h
        exact h9
      · replace h := kOk_n c86 h
        refine k_aload_n G (dc d_Mo_readCommand 16 rfl) 0 rfl rfl ?_
        refine k_getI G kc8 (dc d_Mo_readCommand 17 rfl) (okL_lt hu (o := 0) 0 rfl) (okL_k hu (o := 0) 0 rfl) 11 (by decide) rfl fl_RX11_115 ?_
        refine k_bipush G (dc d_Mo_readCommand 18 rfl) cB_106 ?_
        refine k_icmp_eq G (dc d_Mo_readCommand 19 rfl) (tgt := 90) rfl (fun c87 => ?_) (fun c87 => ?_)
        · replace h := kOk_p c87 h
          refine k_iconst G (dc d_Mo_readCommand 42 rfl) cI_0 ?_
          have h9 := kOk_s h
          exact h9
        · replace h := kOk_n c87 h
          refine k_aload_n G (dc d_Mo_readCommand 20 rfl) 0 rfl rfl ?_
          refine k_getI G kc8 (dc d_Mo_readCommand 21 rfl) (okL_lt hu (o := 0) 0 rfl) (okL_k hu (o := 0) 0 rfl) 11 (by decide) rfl fl_RX11_115 ?_
          refine k_bipush G (dc d_Mo_readCommand 22 rfl) cB_111 ?_
          refine k_icmp_eq G (dc d_Mo_readCommand 23 rfl) (tgt := 90) rfl (fun c88 => ?_) (fun c88 => ?_)
          · replace h := kOk_p c88 h
            refine k_iconst G (dc d_Mo_readCommand 42 rfl) cI_0 ?_
            have h9 := kOk_s h
            exact h9
          · replace h := kOk_n c88 h
            refine k_aload_n G (dc d_Mo_readCommand 24 rfl) 0 rfl rfl ?_
            refine k_getI G kc8 (dc d_Mo_readCommand 25 rfl) (okL_lt hu (o := 0) 0 rfl) (okL_k hu (o := 0) 0 rfl) 11 (by decide) rfl fl_RX11_115 ?_
            refine k_bipush G (dc d_Mo_readCommand 26 rfl) cB_114 ?_
            refine k_icmp_eq G (dc d_Mo_readCommand 27 rfl) (tgt := 90) rfl (fun c89 => ?_) (fun c89 => ?_)
            · replace h := kOk_p c89 h
              refine k_iconst G (dc d_Mo_readCommand 42 rfl) cI_0 ?_
              have h9 := kOk_s h
              exact h9
            · replace h := kOk_n c89 h
              refine k_aload_n G (dc d_Mo_readCommand 28 rfl) 0 rfl rfl ?_
              refine k_getI G kc8 (dc d_Mo_readCommand 29 rfl) (okL_lt hu (o := 0) 0 rfl) (okL_k hu (o := 0) 0 rfl) 11 (by decide) rfl fl_RX11_115 ?_
              refine k_bipush G (dc d_Mo_readCommand 30 rfl) cB_112 ?_
              refine k_icmp_eq G (dc d_Mo_readCommand 31 rfl) (tgt := 90) rfl (fun c90 => ?_) (fun c90 => ?_)
              · replace h := kOk_p c90 h
                refine k_iconst G (dc d_Mo_readCommand 42 rfl) cI_0 ?_
                have h9 := kOk_s h
                exact h9
              · replace h := kOk_n c90 h
                refine k_aload_n G (dc d_Mo_readCommand 32 rfl) 0 rfl rfl ?_
                refine k_getI G kc8 (dc d_Mo_readCommand 33 rfl) (okL_lt hu (o := 0) 0 rfl) (okL_k hu (o := 0) 0 rfl) 11 (by decide) rfl fl_RX11_115 ?_
                refine k_bipush G (dc d_Mo_readCommand 34 rfl) cB_109 ?_
                refine k_icmp_eq G (dc d_Mo_readCommand 35 rfl) (tgt := 90) rfl (fun c91 => ?_) (fun c91 => ?_)
                · replace h := kOk_p c91 h
                  refine k_iconst G (dc d_Mo_readCommand 42 rfl) cI_0 ?_
                  have h9 := kOk_s h
                  exact h9
                · replace h := kOk_n c91 h
                  refine k_aload_n G (dc d_Mo_readCommand 36 rfl) 0 rfl rfl ?_
                  refine k_getI G kc8 (dc d_Mo_readCommand 37 rfl) (okL_lt hu (o := 0) 0 rfl) (okL_k hu (o := 0) 0 rfl) 11 (by decide) rfl fl_RX11_115 ?_
                  refine k_bipush G (dc d_Mo_readCommand 38 rfl) cB_121 ?_
                  refine k_icmp_eq G (dc d_Mo_readCommand 39 rfl) (tgt := 90) rfl (fun c92 => ?_) (fun c92 => ?_)
                  · replace h := kOk_p c92 h
                    refine k_iconst G (dc d_Mo_readCommand 42 rfl) cI_0 ?_
                    have h9 := kOk_s h
                    exact h9
                  · replace h := kOk_n c92 h
                    refine k_iconst G (dc d_Mo_readCommand 40 rfl) cI_1 ?_
                    refine k_goto G (dc d_Mo_readCommand 41 rfl) (tgt := 91) rfl ?_
                    have h9 := kOk_s h
                    exact h9
theorem c_Mo_readCommand {l : Launch} {B : KB} {L : KLay} {M : KMem} {u : Nat} (hst : l.stackTraces = false) (hu : okL L u moT) {M' : KMem} (e : m_Mo_readCommand u M = some M') : CtrN l B yX11_readCommand cX11_readCommand 1 none rm_Mo_readCommand [.ref (B.1 + u)] L M none L M' :=
  mk_V rfl hst rfl (fun X hl G _ R => b_Mo_readCommand G hu ⟨_, e, R⟩)
def I_Mo_goesThrough : List (Nat × Instr × Nat) := [(0, .aload_n 0, 1), (1, .iconst 0, 1), (2, .putfield 171, 3), (5, .aload_n 0, 1), (6, .iconst 0, 1), (7, .putfield 167, 3), (10, .aload_n 0, 1), (11, .bipush 82, 2), (13, .bipush 82, 2), (15, .invokevirtual 178, 3), (18, .istore_n 2, 1), (19, .iconst 0, 1), (20, .istore_n 3, 1), (21, .aload_n 0, 1), (22, .getfield 167, 3), (25, .ifCond .ne 62, 3), (28, .aload_n 0, 1), (29, .getfield 171, 3), (32, .aload_n 0, 1), (33, .getfield 161, 3), (36, .if_icmp .ge 51, 3), (39, .aload_n 0, 1), (40, .invokevirtual 187, 3), (43, .iload_n 1, 1), (44, .ifCond .eq 10, 3), (47, .aload_n 0, 1), (48, .invokevirtual 190, 3), (51, .goto 4, 3), (54, .iconst 0, 1), (55, .istore 4, 2), (57, .iload_n 3, 1), (58, .iload 4, 2), (60, .bipush (-9), 2), (62, .if_icmp .eq 15, 3), (65, .aload_n 0, 1), (66, .invokevirtual 193, 3), (69, .ifCond .eq 12, 3), (72, .iload 4, 2), (74, .ifCond .le 7, 3), (77, .iconst 1, 1), (78, .goto 4, 3), (81, .iconst 0, 1), (82, .iadd, 1), (83, .istore_n 3, 1), (84, .goto (-63), 3), (87, .iload_n 3, 1), (88, .ireturn, 1)]
set_option maxRecDepth 100000 in
theorem d_Mo_goesThrough : decA cX11_goesThrough I_Mo_goesThrough = true := by decide +kernel
abbrev rm_Mo_goesThrough : Room := ({ frames := 9, cells := 0, slots := 0, locals := 206 } : Room)
def m_Mo_goesThrough_l21 (u : Nat) (p0 : Int32) : (Int32 × KMem) → Option ((Int32 × KMem) ⊕ (Int32 × KMem)) := fun (v3_10, M11) =>
 if (M11 u 16) = 0 then
 (if (M11 u 8) ≤ (M11 u 15) then
 (some (.inr (v3_10, M11)))
 else
 (Option.bind (m_Mo_readCommand u M11) fun M15 =>
 Option.bind (α := Int32 × KMem) (if p0 = 0 then
 (some (0, M15))
 else
 (Option.bind (m_Mo_does u M15) fun (x28, M29) =>
 some (x28, M29))) fun (t16, M17) =>
 Option.bind (α := Int32) (if t16 = (-9) then
 (some 1)
 else
 (Option.bind (m_Mo_hasReasons u M17) fun x23 =>
 if x23 = 0 then
 (some 0)
 else
 (if t16 ≤ 0 then
 (some 0)
 else
 (some 1)))) fun t19 =>
 some (.inl (v3_10 + t19, M17))))
 else
 (some (.inr (v3_10, M11)))
def m_Mo_goesThrough (u : Nat) (p0 : Int32) (M : KMem) : Option (Int32 × KMem) :=
 Option.bind (some (kup M u 15 0)) fun M2 =>
 Option.bind (kz 0) fun z5 =>
 Option.bind (some (kup M2 u 16 z5)) fun M4 =>
 Option.bind (m_Mo_takes u 82 82 M4) fun (x8, M9) =>
 Option.bind (α := Int32 × KMem) (kLp (m_Mo_goesThrough_l21 u p0) kFU (0, M9)) fun (v3_30, M31) =>
 some (v3_30, M31)
set_option maxHeartbeats 4000000 in
set_option maxRecDepth 100000 in
theorem b_Mo_goesThrough {X : KX} {B : KB} {L : KLay} {M : KMem} {u : Nat} {p0 : Int32} (G : Good X B RX11 cX11_goesThrough 5 rm_Mo_goesThrough) (hu : okL L u moT) (h : kOk (m_Mo_goesThrough u p0 M) (fun r => RI X B L 5 cX11_goesThrough .int rm_Mo_goesThrough r.1 r.2)) : KK X B L 5 0 0 M 0 [(0, .ref (B.1 + u)), (1, .int p0)] [] := by
  unfold m_Mo_goesThrough at h
  refine k_aload_n G (dc d_Mo_goesThrough 0 rfl) 0 rfl rfl ?_
  refine k_iconst G (dc d_Mo_goesThrough 1 rfl) cI_0 ?_
  obtain ⟨M2, e1, h⟩ := kOk_b h
  refine k_putI G kc8 (dc d_Mo_goesThrough 2 rfl) (okL_lt hu (o := 0) 0 rfl) (okL_k hu (o := 0) 0 rfl) 15 (by decide) rfl rfl fl_RX11_171 rfl rfl e1 ?_
  refine k_aload_n G (dc d_Mo_goesThrough 3 rfl) 0 rfl rfl ?_
  refine k_iconst G (dc d_Mo_goesThrough 4 rfl) cI_0 ?_
  obtain ⟨z5, e6, h⟩ := kOk_b h
  obtain ⟨e6, nz5, fz5⟩ := kz_ok e6
  rw [e6]
  obtain ⟨M4, e3, h⟩ := kOk_b h
  refine k_putI G kc8 (dc d_Mo_goesThrough 5 rfl) (okL_lt hu (o := 0) 0 rfl) (okL_k hu (o := 0) 0 rfl) 16 (by decide) rfl rfl fl_RX11_167 nz5 fz5 e3 ?_
  refine k_aload_n G (dc d_Mo_goesThrough 6 rfl) 0 rfl rfl ?_
  refine k_bipush G (dc d_Mo_goesThrough 7 rfl) cB_82 ?_
  refine k_bipush G (dc d_Mo_goesThrough 8 rfl) cB_82 ?_
  obtain ⟨⟨x8, M9⟩, e7, h⟩ := kOk_b h
  refine k_cVI G (dc d_Mo_goesThrough 9 rfl) kc8 (okL_lt hu (o := 0) 0 rfl) (okL_k hu (o := 0) 0 rfl) mi_Mo_takes mv_Mo_takes rfl ml_RX11_178 (c_Mo_takes (gst G) hu e7) rfl rfl ⟨rfl, rfl⟩ rfl ⟨rfl, rfl⟩ ⟨rfl, rfl⟩ ?_
  refine k_istore_n G (dc d_Mo_goesThrough 10 rfl) (ls' := [(2, .int x8), (0, .ref (B.1 + u)), (1, .int p0)]) rfl rfl rfl ?_
  refine k_iconst G (dc d_Mo_goesThrough 11 rfl) cI_0 ?_
  refine k_istore_n G (dc d_Mo_goesThrough 12 rfl) (ls' := [(3, .int 0), (2, .int x8), (0, .ref (B.1 + u)), (1, .int p0)]) rfl rfl rfl ?_
  refine kJ h (fun r32 => KK X B L 5 0 0 r32.2 87 [(3, .int r32.1)] []) (fun r32 h => ?_) (fun h => ?_)
  · obtain ⟨v3_30, M31⟩ := r32
    show KK X B L 5 0 0 M31 87 [(3, .int v3_30)] []
    refine k_iload_n G (dc d_Mo_goesThrough 45 rfl) 0 rfl rfl ?_
    exact (kOk_s h) _ _ _ _ rfl rfl rfl (dc d_Mo_goesThrough 46 rfl)
  · refine k_sub [2, 3, 0] rfl ?_
    refine kLp_ok (P := fun s33 => KK X B L 5 0 0 s33.2 21 [(0, .ref (B.1 + u)), (1, .int p0), (3, .int s33.1)] []) (fun s33 h => ?_) kFU _ h
    obtain ⟨v3_10, M11⟩ := s33
    unfold m_Mo_goesThrough_l21 at h
    show KK X B L 5 0 0 M11 21 [(0, .ref (B.1 + u)), (1, .int p0), (3, .int v3_10)] []
    refine k_aload_n G (dc d_Mo_goesThrough 13 rfl) 0 rfl rfl ?_
    refine k_getI G kc8 (dc d_Mo_goesThrough 14 rfl) (okL_lt hu (o := 0) 0 rfl) (okL_k hu (o := 0) 0 rfl) 16 (by decide) rfl fl_RX11_167 ?_
    refine k_if_ne G (dc d_Mo_goesThrough 15 rfl) (tgt := 87) rfl (fun c12 => ?_) (fun c12 => ?_)
    · replace h := kOk_n c12 h
      refine k_sub [2] rfl ?_
      have h9 := kOk_s h
      exact h9
    · replace h := kOk_p c12 h
      refine k_aload_n G (dc d_Mo_goesThrough 16 rfl) 0 rfl rfl ?_
      refine k_getI G kc8 (dc d_Mo_goesThrough 17 rfl) (okL_lt hu (o := 0) 0 rfl) (okL_k hu (o := 0) 0 rfl) 15 (by decide) rfl fl_RX11_171 ?_
      refine k_aload_n G (dc d_Mo_goesThrough 18 rfl) 0 rfl rfl ?_
      refine k_getI G kc8 (dc d_Mo_goesThrough 19 rfl) (okL_lt hu (o := 0) 0 rfl) (okL_k hu (o := 0) 0 rfl) 8 (by decide) rfl fl_RX11_161 ?_
      refine k_icmp_ge G (dc d_Mo_goesThrough 20 rfl) (tgt := 87) rfl (fun c13 => ?_) (fun c13 => ?_)
      · replace h := kOk_p c13 h
        refine k_sub [2] rfl ?_
        have h9 := kOk_s h
        exact h9
      · replace h := kOk_n c13 h
        refine k_aload_n G (dc d_Mo_goesThrough 21 rfl) 0 rfl rfl ?_
        obtain ⟨M15, e14, h⟩ := kOk_b h
        refine k_cVV G (dc d_Mo_goesThrough 22 rfl) kc8 (okL_lt hu (o := 0) 0 rfl) (okL_k hu (o := 0) 0 rfl) mi_Mo_readCommand mv_Mo_readCommand rfl ml_RX11_187 (c_Mo_readCommand (gst G) hu e14) rfl rfl ⟨rfl, rfl⟩ rfl ⟨rfl, rfl⟩ ⟨rfl, rfl⟩ ?_
        refine k_iload_n G (dc d_Mo_goesThrough 23 rfl) 1 rfl rfl ?_
        refine kJ h (fun r18 => KK X B L 5 0 0 r18.2 55 [(0, .ref (B.1 + u)), (1, .int p0), (3, .int v3_10)] [.int r18.1]) (fun r18 h => ?_) (fun h => ?_)
        · obtain ⟨t16, M17⟩ := r18
          show KK X B L 5 0 0 M17 55 [(0, .ref (B.1 + u)), (1, .int p0), (3, .int v3_10)] [.int t16]
          refine k_istore G (dc d_Mo_goesThrough 29 rfl) (ls' := [(4, .int t16), (0, .ref (B.1 + u)), (1, .int p0), (3, .int v3_10)]) rfl rfl ?_
          refine k_iload_n G (dc d_Mo_goesThrough 30 rfl) 3 rfl rfl ?_
          refine k_iload G (dc d_Mo_goesThrough 31 rfl) 0 rfl ?_
          refine k_bipush G (dc d_Mo_goesThrough 32 rfl) cB_m9 ?_
          refine kJ h (fun r20 => KK X B L 5 0 0 M17 82 [(0, .ref (B.1 + u)), (1, .int p0)] [.int r20, .int v3_10]) (fun r20 h => ?_) (fun h => ?_)
          · obtain ⟨t19, rfl⟩ : ∃ z, z = r20 := ⟨_, rfl⟩
            show KK X B L 5 0 0 M17 82 [(0, .ref (B.1 + u)), (1, .int p0)] [.int t19, .int v3_10]
            refine k_iadd G (dc d_Mo_goesThrough 42 rfl) ?_
            refine k_istore_n G (dc d_Mo_goesThrough 43 rfl) (ls' := [(3, .int (v3_10 + t19)), (0, .ref (B.1 + u)), (1, .int p0)]) rfl rfl rfl ?_
            refine k_goto G (dc d_Mo_goesThrough 44 rfl) (tgt := 21) rfl ?_
            refine k_sub [1, 2, 0] rfl ?_
            have h9 := kOk_s h
            exact h9
          · refine k_icmp_eq G (dc d_Mo_goesThrough 33 rfl) (tgt := 77) rfl (fun c21 => ?_) (fun c21 => ?_)
            · replace h := kOk_p c21 h
              refine k_iconst G (dc d_Mo_goesThrough 39 rfl) cI_1 ?_
              refine k_goto G (dc d_Mo_goesThrough 40 rfl) (tgt := 82) rfl ?_
              refine k_sub [1, 2] rfl ?_
              have h9 := kOk_s h
              exact h9
            · replace h := kOk_n c21 h
              refine k_aload_n G (dc d_Mo_goesThrough 34 rfl) 1 rfl rfl ?_
              obtain ⟨x23, e22, h⟩ := kOk_b h
              refine k_cVI G (dc d_Mo_goesThrough 35 rfl) kc8 (okL_lt hu (o := 0) 0 rfl) (okL_k hu (o := 0) 0 rfl) mi_Mo_hasReasons mv_Mo_hasReasons rfl ml_RX11_193 (c_Mo_hasReasons (gst G) hu e22) rfl rfl ⟨rfl, rfl⟩ rfl ⟨rfl, rfl⟩ ⟨rfl, rfl⟩ ?_
              refine k_if_eq G (dc d_Mo_goesThrough 36 rfl) (tgt := 81) rfl (fun c24 => ?_) (fun c24 => ?_)
              · replace h := kOk_p c24 h
                refine k_iconst G (dc d_Mo_goesThrough 41 rfl) cI_0 ?_
                refine k_sub [1, 2] rfl ?_
                have h9 := kOk_s h
                exact h9
              · replace h := kOk_n c24 h
                refine k_iload G (dc d_Mo_goesThrough 37 rfl) 0 rfl ?_
                refine k_if_le G (dc d_Mo_goesThrough 38 rfl) (tgt := 81) rfl (fun c25 => ?_) (fun c25 => ?_)
                · replace h := kOk_p c25 h
                  refine k_iconst G (dc d_Mo_goesThrough 41 rfl) cI_0 ?_
                  refine k_sub [1, 2] rfl ?_
                  have h9 := kOk_s h
                  exact h9
                · replace h := kOk_n c25 h
                  refine k_iconst G (dc d_Mo_goesThrough 39 rfl) cI_1 ?_
                  refine k_goto G (dc d_Mo_goesThrough 40 rfl) (tgt := 82) rfl ?_
                  refine k_sub [1, 2] rfl ?_
                  have h9 := kOk_s h
                  exact h9
        · refine k_if_eq G (dc d_Mo_goesThrough 24 rfl) (tgt := 54) rfl (fun c26 => ?_) (fun c26 => ?_)
          · replace h := kOk_p c26 h
            refine k_iconst G (dc d_Mo_goesThrough 28 rfl) cI_0 ?_
            have h9 := kOk_s h
            exact h9
          · replace h := kOk_n c26 h
            refine k_aload_n G (dc d_Mo_goesThrough 25 rfl) 0 rfl rfl ?_
            obtain ⟨⟨x28, M29⟩, e27, h⟩ := kOk_b h
            refine k_cVI G (dc d_Mo_goesThrough 26 rfl) kc8 (okL_lt hu (o := 0) 0 rfl) (okL_k hu (o := 0) 0 rfl) mi_Mo_does mv_Mo_does rfl ml_RX11_190 (c_Mo_does (gst G) hu e27) rfl rfl ⟨rfl, rfl⟩ rfl ⟨rfl, rfl⟩ ⟨rfl, rfl⟩ ?_
            refine k_goto G (dc d_Mo_goesThrough 27 rfl) (tgt := 55) rfl ?_
            have h9 := kOk_s h
            exact h9
theorem c_Mo_goesThrough {l : Launch} {B : KB} {L : KLay} {M : KMem} {u : Nat} {p0 : Int32} (hst : l.stackTraces = false) (hu : okL L u moT) {r : Int32} {M' : KMem} (e : m_Mo_goesThrough u p0 M = some (r, M')) : CtrN l B yX11_goesThrough cX11_goesThrough 5 (some .int) rm_Mo_goesThrough [.ref (B.1 + u), .int p0] L M (some (.int r)) L M' :=
  mk_I rfl hst rfl (fun X hl G _ R => b_Mo_goesThrough G hu ⟨_, e, R⟩)
def I_Mo_errorPosition : List (Nat × Instr × Nat) := [(0, .aload_n 0, 1), (1, .iconst 0, 1), (2, .putfield 37, 3), (5, .aload_n 0, 1), (6, .iconst 0, 1), (7, .invokevirtual 197, 3), (10, .istore_n 1, 1), (11, .aload_n 0, 1), (12, .getfield 167, 3), (15, .ifCond .eq 10, 3), (18, .aload_n 0, 1), (19, .getfield 171, 3), (22, .goto 4, 3), (25, .iconst (-1), 1), (26, .ireturn, 1)]
set_option maxRecDepth 100000 in
theorem d_Mo_errorPosition : decA cX11_errorPosition I_Mo_errorPosition = true := by decide +kernel
abbrev rm_Mo_errorPosition : Room := ({ frames := 10, cells := 0, slots := 0, locals := 230 } : Room)
def m_Mo_errorPosition (u : Nat) (M : KMem) : Option (Int32 × KMem) :=
 Option.bind (some (kup M u 0 0)) fun M2 =>
 Option.bind (m_Mo_goesThrough u 0 M2) fun (x4, M5) =>
 Option.bind (α := Int32) (if (M5 u 16) = 0 then
 (some (-1))
 else
 (some (M5 u 15))) fun t6 =>
 some (t6, M5)
set_option maxHeartbeats 4000000 in
set_option maxRecDepth 100000 in
theorem b_Mo_errorPosition {X : KX} {B : KB} {L : KLay} {M : KMem} {u : Nat} (G : Good X B RX11 cX11_errorPosition 2 rm_Mo_errorPosition) (hu : okL L u moT) (h : kOk (m_Mo_errorPosition u M) (fun r => RI X B L 2 cX11_errorPosition .int rm_Mo_errorPosition r.1 r.2)) : KK X B L 2 0 0 M 0 [(0, .ref (B.1 + u))] [] := by
  unfold m_Mo_errorPosition at h
  refine k_aload_n G (dc d_Mo_errorPosition 0 rfl) 0 rfl rfl ?_
  refine k_iconst G (dc d_Mo_errorPosition 1 rfl) cI_0 ?_
  obtain ⟨M2, e1, h⟩ := kOk_b h
  refine k_putI G kc8 (dc d_Mo_errorPosition 2 rfl) (okL_lt hu (o := 0) 0 rfl) (okL_k hu (o := 0) 0 rfl) 0 (by decide) rfl rfl fl_RX11_37 rfl rfl e1 ?_
  refine k_aload_n G (dc d_Mo_errorPosition 3 rfl) 0 rfl rfl ?_
  refine k_iconst G (dc d_Mo_errorPosition 4 rfl) cI_0 ?_
  obtain ⟨⟨x4, M5⟩, e3, h⟩ := kOk_b h
  refine k_cVI G (dc d_Mo_errorPosition 5 rfl) kc8 (okL_lt hu (o := 0) 0 rfl) (okL_k hu (o := 0) 0 rfl) mi_Mo_goesThrough mv_Mo_goesThrough rfl ml_RX11_197 (c_Mo_goesThrough (gst G) hu e3) rfl rfl ⟨rfl, rfl⟩ rfl ⟨rfl, rfl⟩ ⟨rfl, rfl⟩ ?_
  refine k_istore_n G (dc d_Mo_errorPosition 6 rfl) (ls' := [(1, .int x4), (0, .ref (B.1 + u))]) rfl rfl rfl ?_
  refine k_aload_n G (dc d_Mo_errorPosition 7 rfl) 1 rfl rfl ?_
  refine k_getI G kc8 (dc d_Mo_errorPosition 8 rfl) (okL_lt hu (o := 0) 0 rfl) (okL_k hu (o := 0) 0 rfl) 16 (by decide) rfl fl_RX11_167 ?_
  refine kJ h (fun r7 => KK X B L 2 0 0 M5 26 [] [.int r7]) (fun r7 h => ?_) (fun h => ?_)
  · obtain ⟨t6, rfl⟩ : ∃ z, z = r7 := ⟨_, rfl⟩
    show KK X B L 2 0 0 M5 26 [] [.int t6]
    exact (kOk_s h) _ _ _ _ rfl rfl rfl (dc d_Mo_errorPosition 14 rfl)
  · refine k_if_eq G (dc d_Mo_errorPosition 9 rfl) (tgt := 25) rfl (fun c8 => ?_) (fun c8 => ?_)
    · replace h := kOk_p c8 h
      refine k_iconst G (dc d_Mo_errorPosition 13 rfl) cI_m1 ?_
      refine k_sub [] rfl ?_
      have h9 := kOk_s h
      exact h9
    · replace h := kOk_n c8 h
      refine k_aload_n G (dc d_Mo_errorPosition 10 rfl) 1 rfl rfl ?_
      refine k_getI G kc8 (dc d_Mo_errorPosition 11 rfl) (okL_lt hu (o := 0) 0 rfl) (okL_k hu (o := 0) 0 rfl) 15 (by decide) rfl fl_RX11_171 ?_
      refine k_goto G (dc d_Mo_errorPosition 12 rfl) (tgt := 26) rfl ?_
      refine k_sub [] rfl ?_
      have h9 := kOk_s h
      exact h9
theorem c_Mo_errorPosition {l : Launch} {B : KB} {L : KLay} {M : KMem} {u : Nat} (hst : l.stackTraces = false) (hu : okL L u moT) {r : Int32} {M' : KMem} (e : m_Mo_errorPosition u M = some (r, M')) : CtrN l B yX11_errorPosition cX11_errorPosition 2 (some .int) rm_Mo_errorPosition [.ref (B.1 + u)] L M (some (.int r)) L M' :=
  mk_I rfl hst rfl (fun X hl G _ R => b_Mo_errorPosition G hu ⟨_, e, R⟩)
def I_Mo_load : List (Nat × Instr × Nat) := [(0, .aload_n 0, 1), (1, .iconst 0, 1), (2, .invokevirtual 197, 3), (5, .istore_n 1, 1), (6, .aload_n 0, 1), (7, .aload_n 0, 1), (8, .getfield 167, 3), (11, .ifCond .eq 7, 3), (14, .iconst 1, 1), (15, .goto 4, 3), (18, .iconst 0, 1), (19, .invokevirtual 164, 3), (22, .ifCond .ne 5, 3), (25, .iconst 0, 1), (26, .ireturn, 1), (27, .aload_n 0, 1), (28, .invokevirtual 34, 3), (31, .aload_n 0, 1), (32, .iconst 1, 1), (33, .invokevirtual 197, 3), (36, .istore_n 1, 1), (37, .aload_n 0, 1), (38, .iconst 0, 1), (39, .putfield 50, 3), (42, .aload_n 0, 1), (43, .iconst 0, 1), (44, .putfield 201, 3), (47, .iload_n 1, 1), (48, .ireturn, 1)]
set_option maxRecDepth 100000 in
theorem d_Mo_load : decA cX11_load I_Mo_load = true := by decide +kernel
abbrev rm_Mo_load : Room := ({ frames := 10, cells := 0, slots := 0, locals := 230 } : Room)
def m_Mo_load (u : Nat) (M : KMem) : Option (Int32 × KMem) :=
 Option.bind (m_Mo_goesThrough u 0 M) fun (x2, M3) =>
 Option.bind (α := Int32) (if (M3 u 16) = 0 then
 (some 0)
 else
 (some 1)) fun t4 =>
 Option.bind (m_Mo_holds u t4 M3) fun (x7, M8) =>
 if x7 = 0 then
 (some (0, M8))
 else
 (Option.bind (m_Mo_begins u M8) fun M11 =>
 Option.bind (m_Mo_goesThrough u 1 M11) fun (x13, M14) =>
 Option.bind (some (kup M14 u 4 0)) fun M16 =>
 Option.bind (some (kup M16 u 6 0)) fun M18 =>
 some (x13, M18))
set_option maxHeartbeats 4000000 in
set_option maxRecDepth 100000 in
theorem b_Mo_load {X : KX} {B : KB} {L : KLay} {M : KMem} {u : Nat} (G : Good X B RX11 cX11_load 2 rm_Mo_load) (hu : okL L u moT) (h : kOk (m_Mo_load u M) (fun r => RI X B L 2 cX11_load .int rm_Mo_load r.1 r.2)) : KK X B L 2 0 0 M 0 [(0, .ref (B.1 + u))] [] := by
  unfold m_Mo_load at h
  refine k_aload_n G (dc d_Mo_load 0 rfl) 0 rfl rfl ?_
  refine k_iconst G (dc d_Mo_load 1 rfl) cI_0 ?_
  obtain ⟨⟨x2, M3⟩, e1, h⟩ := kOk_b h
  refine k_cVI G (dc d_Mo_load 2 rfl) kc8 (okL_lt hu (o := 0) 0 rfl) (okL_k hu (o := 0) 0 rfl) mi_Mo_goesThrough mv_Mo_goesThrough rfl ml_RX11_197 (c_Mo_goesThrough (gst G) hu e1) rfl rfl ⟨rfl, rfl⟩ rfl ⟨rfl, rfl⟩ ⟨rfl, rfl⟩ ?_
  refine k_istore_n G (dc d_Mo_load 3 rfl) (ls' := [(1, .int x2), (0, .ref (B.1 + u))]) rfl rfl rfl ?_
  refine k_aload_n G (dc d_Mo_load 4 rfl) 1 rfl rfl ?_
  refine k_aload_n G (dc d_Mo_load 5 rfl) 1 rfl rfl ?_
  refine k_getI G kc8 (dc d_Mo_load 6 rfl) (okL_lt hu (o := 0) 0 rfl) (okL_k hu (o := 0) 0 rfl) 16 (by decide) rfl fl_RX11_167 ?_
  refine kJ h (fun r5 => KK X B L 2 0 0 M3 19 [(0, .ref (B.1 + u))] [.int r5, .ref (B.1 + u)]) (fun r5 h => ?_) (fun h => ?_)
  · obtain ⟨t4, rfl⟩ : ∃ z, z = r5 := ⟨_, rfl⟩
    show KK X B L 2 0 0 M3 19 [(0, .ref (B.1 + u))] [.int t4, .ref (B.1 + u)]
    obtain ⟨⟨x7, M8⟩, e6, h⟩ := kOk_b h
    refine k_cVI G (dc d_Mo_load 11 rfl) kc8 (okL_lt hu (o := 0) 0 rfl) (okL_k hu (o := 0) 0 rfl) mi_Mo_holds mv_Mo_holds rfl ml_RX11_164 (c_Mo_holds (gst G) hu e6) rfl rfl ⟨rfl, rfl⟩ rfl ⟨rfl, rfl⟩ ⟨rfl, rfl⟩ ?_
    refine k_if_ne G (dc d_Mo_load 12 rfl) (tgt := 27) rfl (fun c9 => ?_) (fun c9 => ?_)
    · replace h := kOk_n c9 h
      refine k_aload_n G (dc d_Mo_load 15 rfl) 0 rfl rfl ?_
      obtain ⟨M11, e10, h⟩ := kOk_b h
      refine k_cVV G (dc d_Mo_load 16 rfl) kc8 (okL_lt hu (o := 0) 0 rfl) (okL_k hu (o := 0) 0 rfl) mi_Mo_begins mv_Mo_begins rfl ml_RX11_34 (c_Mo_begins (gst G) hu e10) rfl rfl ⟨rfl, rfl⟩ rfl ⟨rfl, rfl⟩ ⟨rfl, rfl⟩ ?_
      refine k_aload_n G (dc d_Mo_load 17 rfl) 0 rfl rfl ?_
      refine k_iconst G (dc d_Mo_load 18 rfl) cI_1 ?_
      obtain ⟨⟨x13, M14⟩, e12, h⟩ := kOk_b h
      refine k_cVI G (dc d_Mo_load 19 rfl) kc8 (okL_lt hu (o := 0) 0 rfl) (okL_k hu (o := 0) 0 rfl) mi_Mo_goesThrough mv_Mo_goesThrough rfl ml_RX11_197 (c_Mo_goesThrough (gst G) hu e12) rfl rfl ⟨rfl, rfl⟩ rfl ⟨rfl, rfl⟩ ⟨rfl, rfl⟩ ?_
      refine k_istore_n G (dc d_Mo_load 20 rfl) (ls' := [(1, .int x13), (0, .ref (B.1 + u))]) rfl rfl rfl ?_
      refine k_aload_n G (dc d_Mo_load 21 rfl) 1 rfl rfl ?_
      refine k_iconst G (dc d_Mo_load 22 rfl) cI_0 ?_
      obtain ⟨M16, e15, h⟩ := kOk_b h
      refine k_putI G kc8 (dc d_Mo_load 23 rfl) (okL_lt hu (o := 0) 0 rfl) (okL_k hu (o := 0) 0 rfl) 4 (by decide) rfl rfl fl_RX11_50 rfl rfl e15 ?_
      refine k_aload_n G (dc d_Mo_load 24 rfl) 1 rfl rfl ?_
      refine k_iconst G (dc d_Mo_load 25 rfl) cI_0 ?_
      obtain ⟨M18, e17, h⟩ := kOk_b h
      refine k_putI G kc8 (dc d_Mo_load 26 rfl) (okL_lt hu (o := 0) 0 rfl) (okL_k hu (o := 0) 0 rfl) 6 (by decide) rfl rfl fl_RX11_201 rfl rfl e17 ?_
      refine k_iload_n G (dc d_Mo_load 27 rfl) 0 rfl rfl ?_
      exact (kOk_s h) _ _ _ _ rfl rfl rfl (dc d_Mo_load 28 rfl)
    · replace h := kOk_p c9 h
      refine k_iconst G (dc d_Mo_load 13 rfl) cI_0 ?_
      exact (kOk_s h) _ _ _ _ rfl rfl rfl (dc d_Mo_load 14 rfl)
  · refine k_if_eq G (dc d_Mo_load 7 rfl) (tgt := 18) rfl (fun c19 => ?_) (fun c19 => ?_)
    · replace h := kOk_p c19 h
      refine k_iconst G (dc d_Mo_load 10 rfl) cI_0 ?_
      refine k_sub [1] rfl ?_
      have h9 := kOk_s h
      exact h9
    · replace h := kOk_n c19 h
      refine k_iconst G (dc d_Mo_load 8 rfl) cI_1 ?_
      refine k_goto G (dc d_Mo_load 9 rfl) (tgt := 19) rfl ?_
      refine k_sub [1] rfl ?_
      have h9 := kOk_s h
      exact h9
theorem c_Mo_load {l : Launch} {B : KB} {L : KLay} {M : KMem} {u : Nat} (hst : l.stackTraces = false) (hu : okL L u moT) {r : Int32} {M' : KMem} (e : m_Mo_load u M = some (r, M')) : CtrN l B yX11_load cX11_load 2 (some .int) rm_Mo_load [.ref (B.1 + u)] L M (some (.int r)) L M' :=
  mk_I rfl hst rfl (fun X hl G _ R => b_Mo_load G hu ⟨_, e, R⟩)
