/-! laid by wip/whole/lay.py: Mo_paint, Mo_months, Mo_amnesty, Mo_set, Mo_undo, Mo_wouldHinderMore, Mo_wouldHinder, Mo_why, Mo_droppable, Mo_apart, Mo_paidBy -/
def I_Mo_paint : List (Nat × Instr × Nat) := [(0, .aload_n 0, 1), (1, .aload_n 0, 1), (2, .iload_n 1, 1), (3, .invokevirtual 146, 3), (6, .ifCond .eq 7, 3), (9, .iconst 0, 1), (10, .goto 4, 3), (13, .iconst 1, 1), (14, .invokevirtual 164, 3), (17, .ifCond .eq 15, 3), (20, .aload_n 0, 1), (21, .bipush 112, 2), (23, .iload_n 1, 1), (24, .iconst 0, 1), (25, .iconst 0, 1), (26, .invokevirtual 219, 3), (29, .goto 4, 3), (32, .iconst 0, 1), (33, .ireturn, 1)]
set_option maxRecDepth 100000 in
theorem d_Mo_paint : decA cX11_paint I_Mo_paint = true := by decide +kernel
abbrev rm_Mo_paint : Room := ({ frames := 10, cells := 0, slots := 0, locals := 231 } : Room)
def m_Mo_paint (u : Nat) (p0 : Int32) (M : KMem) : Option (Int32 × KMem) :=
 Option.bind (m_Mo_isSign u p0 M) fun x2 =>
 Option.bind (α := Int32) (if x2 = 0 then
 (some 1)
 else
 (some 0)) fun t3 =>
 Option.bind (m_Mo_holds u t3 M) fun (x6, M7) =>
 Option.bind (α := Int32 × KMem) (if x6 = 0 then
 (some (0, M7))
 else
 (Option.bind (m_Mo_acts u 112 p0 0 0 M7) fun (x13, M14) =>
 some (x13, M14))) fun (t8, M9) =>
 some (t8, M9)
set_option maxHeartbeats 4000000 in
set_option maxRecDepth 100000 in
theorem b_Mo_paint {X : KX} {B : KB} {L : KLay} {M : KMem} {u : Nat} {p0 : Int32} (G : Good X B RX11 cX11_paint 2 rm_Mo_paint) (hu : okL L u moT) (h : kOk (m_Mo_paint u p0 M) (fun r => RI X B L 2 cX11_paint .int rm_Mo_paint r.1 r.2)) : KK X B L 2 0 0 M 0 [(0, .ref (B.1 + u)), (1, .int p0)] [] := by
  unfold m_Mo_paint at h
  refine k_aload_n G (dc d_Mo_paint 0 rfl) 0 rfl rfl ?_
  refine k_aload_n G (dc d_Mo_paint 1 rfl) 0 rfl rfl ?_
  refine k_iload_n G (dc d_Mo_paint 2 rfl) 1 rfl rfl ?_
  obtain ⟨x2, e1, h⟩ := kOk_b h
  refine k_cVI G (dc d_Mo_paint 3 rfl) kc8 (okL_lt hu (o := 0) 0 rfl) (okL_k hu (o := 0) 0 rfl) mi_Mo_isSign mv_Mo_isSign rfl ml_RX11_146 (c_Mo_isSign (gst G) hu e1) rfl rfl ⟨rfl, rfl⟩ rfl ⟨rfl, rfl⟩ ⟨rfl, rfl⟩ ?_
  refine kJ h (fun r4 => KK X B L 2 0 0 M 14 [(0, .ref (B.1 + u)), (1, .int p0)] [.int r4, .ref (B.1 + u)]) (fun r4 h => ?_) (fun h => ?_)
  · obtain ⟨t3, rfl⟩ : ∃ z, z = r4 := ⟨_, rfl⟩
    show KK X B L 2 0 0 M 14 [(0, .ref (B.1 + u)), (1, .int p0)] [.int t3, .ref (B.1 + u)]
    obtain ⟨⟨x6, M7⟩, e5, h⟩ := kOk_b h
    refine k_cVI G (dc d_Mo_paint 8 rfl) kc8 (okL_lt hu (o := 0) 0 rfl) (okL_k hu (o := 0) 0 rfl) mi_Mo_holds mv_Mo_holds rfl ml_RX11_164 (c_Mo_holds (gst G) hu e5) rfl rfl ⟨rfl, rfl⟩ rfl ⟨rfl, rfl⟩ ⟨rfl, rfl⟩ ?_
    refine kJ h (fun r10 => KK X B L 2 0 0 r10.2 33 [] [.int r10.1]) (fun r10 h => ?_) (fun h => ?_)
    · obtain ⟨t8, M9⟩ := r10
      show KK X B L 2 0 0 M9 33 [] [.int t8]
      exact (kOk_s h) _ _ _ _ rfl rfl rfl (dc d_Mo_paint 18 rfl)
    · refine k_if_eq G (dc d_Mo_paint 9 rfl) (tgt := 32) rfl (fun c11 => ?_) (fun c11 => ?_)
      · replace h := kOk_p c11 h
        refine k_iconst G (dc d_Mo_paint 17 rfl) cI_0 ?_
        refine k_sub [] rfl ?_
        have h9 := kOk_s h
        exact h9
      · replace h := kOk_n c11 h
        refine k_aload_n G (dc d_Mo_paint 10 rfl) 0 rfl rfl ?_
        refine k_bipush G (dc d_Mo_paint 11 rfl) cB_112 ?_
        refine k_iload_n G (dc d_Mo_paint 12 rfl) 1 rfl rfl ?_
        refine k_iconst G (dc d_Mo_paint 13 rfl) cI_0 ?_
        refine k_iconst G (dc d_Mo_paint 14 rfl) cI_0 ?_
        obtain ⟨⟨x13, M14⟩, e12, h⟩ := kOk_b h
        refine k_cVI G (dc d_Mo_paint 15 rfl) kc8 (okL_lt hu (o := 0) 0 rfl) (okL_k hu (o := 0) 0 rfl) mi_Mo_acts mv_Mo_acts rfl ml_RX11_219 (c_Mo_acts (gst G) hu e12) rfl rfl ⟨rfl, rfl⟩ rfl ⟨rfl, rfl⟩ ⟨rfl, rfl⟩ ?_
        refine k_goto G (dc d_Mo_paint 16 rfl) (tgt := 33) rfl ?_
        refine k_sub [] rfl ?_
        have h9 := kOk_s h
        exact h9
  · refine k_if_eq G (dc d_Mo_paint 4 rfl) (tgt := 13) rfl (fun c15 => ?_) (fun c15 => ?_)
    · replace h := kOk_p c15 h
      refine k_iconst G (dc d_Mo_paint 7 rfl) cI_1 ?_
      have h9 := kOk_s h
      exact h9
    · replace h := kOk_n c15 h
      refine k_iconst G (dc d_Mo_paint 5 rfl) cI_0 ?_
      refine k_goto G (dc d_Mo_paint 6 rfl) (tgt := 14) rfl ?_
      have h9 := kOk_s h
      exact h9
theorem c_Mo_paint {l : Launch} {B : KB} {L : KLay} {M : KMem} {u : Nat} {p0 : Int32} (hst : l.stackTraces = false) (hu : okL L u moT) {r : Int32} {M' : KMem} (e : m_Mo_paint u p0 M = some (r, M')) : CtrN l B yX11_paint cX11_paint 2 (some .int) rm_Mo_paint [.ref (B.1 + u), .int p0] L M (some (.int r)) L M' :=
  mk_I rfl hst rfl (fun X hl G _ R => b_Mo_paint G hu ⟨_, e, R⟩)
def I_Mo_months : List (Nat × Instr × Nat) := [(0, .aload_n 0, 1), (1, .iload_n 1, 1), (2, .iconst 1, 1), (3, .bipush 60, 2), (5, .invokestatic 41, 3), (8, .ifCond .eq 7, 3), (11, .iconst 0, 1), (12, .goto 4, 3), (15, .iconst 1, 1), (16, .invokevirtual 164, 3), (19, .ifCond .eq 15, 3), (22, .aload_n 0, 1), (23, .bipush 109, 2), (25, .iload_n 1, 1), (26, .iconst 0, 1), (27, .iconst 0, 1), (28, .invokevirtual 219, 3), (31, .goto 4, 3), (34, .iconst 0, 1), (35, .ireturn, 1)]
set_option maxRecDepth 100000 in
theorem d_Mo_months : decA cX11_months I_Mo_months = true := by decide +kernel
abbrev rm_Mo_months : Room := ({ frames := 10, cells := 0, slots := 0, locals := 231 } : Room)
def m_Mo_months (u : Nat) (p0 : Int32) (M : KMem) : Option (Int32 × KMem) :=
 Option.bind (m_Mo_in p0 1 60) fun x2 =>
 Option.bind (α := Int32) (if x2 = 0 then
 (some 1)
 else
 (some 0)) fun t3 =>
 Option.bind (m_Mo_holds u t3 M) fun (x6, M7) =>
 Option.bind (α := Int32 × KMem) (if x6 = 0 then
 (some (0, M7))
 else
 (Option.bind (m_Mo_acts u 109 p0 0 0 M7) fun (x13, M14) =>
 some (x13, M14))) fun (t8, M9) =>
 some (t8, M9)
set_option maxHeartbeats 4000000 in
set_option maxRecDepth 100000 in
theorem b_Mo_months {X : KX} {B : KB} {L : KLay} {M : KMem} {u : Nat} {p0 : Int32} (G : Good X B RX11 cX11_months 2 rm_Mo_months) (hu : okL L u moT) (h : kOk (m_Mo_months u p0 M) (fun r => RI X B L 2 cX11_months .int rm_Mo_months r.1 r.2)) : KK X B L 2 0 0 M 0 [(0, .ref (B.1 + u)), (1, .int p0)] [] := by
  unfold m_Mo_months at h
  refine k_aload_n G (dc d_Mo_months 0 rfl) 0 rfl rfl ?_
  refine k_iload_n G (dc d_Mo_months 1 rfl) 1 rfl rfl ?_
  refine k_iconst G (dc d_Mo_months 2 rfl) cI_1 ?_
  refine k_bipush G (dc d_Mo_months 3 rfl) cB_60 ?_
  obtain ⟨x2, e1, h⟩ := kOk_b h
  refine k_cSI G (dc d_Mo_months 4 rfl) mi_Mo_in ms_Mo_in ml_RX11_41 (c_Mo_in (gst G)  e1) rfl rfl ⟨rfl, rfl⟩ rfl ⟨rfl, rfl⟩ ⟨rfl, rfl⟩ ?_
  refine kJ h (fun r4 => KK X B L 2 0 0 M 16 [(0, .ref (B.1 + u)), (1, .int p0)] [.int r4, .ref (B.1 + u)]) (fun r4 h => ?_) (fun h => ?_)
  · obtain ⟨t3, rfl⟩ : ∃ z, z = r4 := ⟨_, rfl⟩
    show KK X B L 2 0 0 M 16 [(0, .ref (B.1 + u)), (1, .int p0)] [.int t3, .ref (B.1 + u)]
    obtain ⟨⟨x6, M7⟩, e5, h⟩ := kOk_b h
    refine k_cVI G (dc d_Mo_months 9 rfl) kc8 (okL_lt hu (o := 0) 0 rfl) (okL_k hu (o := 0) 0 rfl) mi_Mo_holds mv_Mo_holds rfl ml_RX11_164 (c_Mo_holds (gst G) hu e5) rfl rfl ⟨rfl, rfl⟩ rfl ⟨rfl, rfl⟩ ⟨rfl, rfl⟩ ?_
    refine kJ h (fun r10 => KK X B L 2 0 0 r10.2 35 [] [.int r10.1]) (fun r10 h => ?_) (fun h => ?_)
    · obtain ⟨t8, M9⟩ := r10
      show KK X B L 2 0 0 M9 35 [] [.int t8]
      exact (kOk_s h) _ _ _ _ rfl rfl rfl (dc d_Mo_months 19 rfl)
    · refine k_if_eq G (dc d_Mo_months 10 rfl) (tgt := 34) rfl (fun c11 => ?_) (fun c11 => ?_)
      · replace h := kOk_p c11 h
        refine k_iconst G (dc d_Mo_months 18 rfl) cI_0 ?_
        refine k_sub [] rfl ?_
        have h9 := kOk_s h
        exact h9
      · replace h := kOk_n c11 h
        refine k_aload_n G (dc d_Mo_months 11 rfl) 0 rfl rfl ?_
        refine k_bipush G (dc d_Mo_months 12 rfl) cB_109 ?_
        refine k_iload_n G (dc d_Mo_months 13 rfl) 1 rfl rfl ?_
        refine k_iconst G (dc d_Mo_months 14 rfl) cI_0 ?_
        refine k_iconst G (dc d_Mo_months 15 rfl) cI_0 ?_
        obtain ⟨⟨x13, M14⟩, e12, h⟩ := kOk_b h
        refine k_cVI G (dc d_Mo_months 16 rfl) kc8 (okL_lt hu (o := 0) 0 rfl) (okL_k hu (o := 0) 0 rfl) mi_Mo_acts mv_Mo_acts rfl ml_RX11_219 (c_Mo_acts (gst G) hu e12) rfl rfl ⟨rfl, rfl⟩ rfl ⟨rfl, rfl⟩ ⟨rfl, rfl⟩ ?_
        refine k_goto G (dc d_Mo_months 17 rfl) (tgt := 35) rfl ?_
        refine k_sub [] rfl ?_
        have h9 := kOk_s h
        exact h9
  · refine k_if_eq G (dc d_Mo_months 5 rfl) (tgt := 15) rfl (fun c15 => ?_) (fun c15 => ?_)
    · replace h := kOk_p c15 h
      refine k_iconst G (dc d_Mo_months 8 rfl) cI_1 ?_
      have h9 := kOk_s h
      exact h9
    · replace h := kOk_n c15 h
      refine k_iconst G (dc d_Mo_months 6 rfl) cI_0 ?_
      refine k_goto G (dc d_Mo_months 7 rfl) (tgt := 16) rfl ?_
      have h9 := kOk_s h
      exact h9
theorem c_Mo_months {l : Launch} {B : KB} {L : KLay} {M : KMem} {u : Nat} {p0 : Int32} (hst : l.stackTraces = false) (hu : okL L u moT) {r : Int32} {M' : KMem} (e : m_Mo_months u p0 M = some (r, M')) : CtrN l B yX11_months cX11_months 2 (some .int) rm_Mo_months [.ref (B.1 + u), .int p0] L M (some (.int r)) L M' :=
  mk_I rfl hst rfl (fun X hl G _ R => b_Mo_months G hu ⟨_, e, R⟩)
def I_Mo_amnesty : List (Nat × Instr × Nat) := [(0, .aload_n 0, 1), (1, .aload_n 0, 1), (2, .iload_n 1, 1), (3, .invokevirtual 155, 3), (6, .invokevirtual 164, 3), (9, .ifCond .eq 15, 3), (12, .aload_n 0, 1), (13, .bipush 121, 2), (15, .iload_n 1, 1), (16, .iconst 0, 1), (17, .iconst 0, 1), (18, .invokevirtual 219, 3), (21, .goto 4, 3), (24, .iconst 0, 1), (25, .ireturn, 1)]
set_option maxRecDepth 100000 in
theorem d_Mo_amnesty : decA cX11_amnesty I_Mo_amnesty = true := by decide +kernel
abbrev rm_Mo_amnesty : Room := ({ frames := 10, cells := 0, slots := 0, locals := 231 } : Room)
def m_Mo_amnesty (u : Nat) (p0 : Int32) (M : KMem) : Option (Int32 × KMem) :=
 Option.bind (m_Mo_errorOfAmnesty u p0 M) fun x2 =>
 Option.bind (m_Mo_holds u x2 M) fun (x4, M5) =>
 Option.bind (α := Int32 × KMem) (if x4 = 0 then
 (some (0, M5))
 else
 (Option.bind (m_Mo_acts u 121 p0 0 0 M5) fun (x11, M12) =>
 some (x11, M12))) fun (t6, M7) =>
 some (t6, M7)
set_option maxHeartbeats 4000000 in
set_option maxRecDepth 100000 in
theorem b_Mo_amnesty {X : KX} {B : KB} {L : KLay} {M : KMem} {u : Nat} {p0 : Int32} (G : Good X B RX11 cX11_amnesty 2 rm_Mo_amnesty) (hu : okL L u moT) (h : kOk (m_Mo_amnesty u p0 M) (fun r => RI X B L 2 cX11_amnesty .int rm_Mo_amnesty r.1 r.2)) : KK X B L 2 0 0 M 0 [(0, .ref (B.1 + u)), (1, .int p0)] [] := by
  unfold m_Mo_amnesty at h
  refine k_aload_n G (dc d_Mo_amnesty 0 rfl) 0 rfl rfl ?_
  refine k_aload_n G (dc d_Mo_amnesty 1 rfl) 0 rfl rfl ?_
  refine k_iload_n G (dc d_Mo_amnesty 2 rfl) 1 rfl rfl ?_
  obtain ⟨x2, e1, h⟩ := kOk_b h
  refine k_cVI G (dc d_Mo_amnesty 3 rfl) kc8 (okL_lt hu (o := 0) 0 rfl) (okL_k hu (o := 0) 0 rfl) mi_Mo_errorOfAmnesty mv_Mo_errorOfAmnesty rfl ml_RX11_155 (c_Mo_errorOfAmnesty (gst G) hu e1) rfl rfl ⟨rfl, rfl⟩ rfl ⟨rfl, rfl⟩ ⟨rfl, rfl⟩ ?_
  obtain ⟨⟨x4, M5⟩, e3, h⟩ := kOk_b h
  refine k_cVI G (dc d_Mo_amnesty 4 rfl) kc8 (okL_lt hu (o := 0) 0 rfl) (okL_k hu (o := 0) 0 rfl) mi_Mo_holds mv_Mo_holds rfl ml_RX11_164 (c_Mo_holds (gst G) hu e3) rfl rfl ⟨rfl, rfl⟩ rfl ⟨rfl, rfl⟩ ⟨rfl, rfl⟩ ?_
  refine kJ h (fun r8 => KK X B L 2 0 0 r8.2 25 [] [.int r8.1]) (fun r8 h => ?_) (fun h => ?_)
  · obtain ⟨t6, M7⟩ := r8
    show KK X B L 2 0 0 M7 25 [] [.int t6]
    exact (kOk_s h) _ _ _ _ rfl rfl rfl (dc d_Mo_amnesty 14 rfl)
  · refine k_if_eq G (dc d_Mo_amnesty 5 rfl) (tgt := 24) rfl (fun c9 => ?_) (fun c9 => ?_)
    · replace h := kOk_p c9 h
      refine k_iconst G (dc d_Mo_amnesty 13 rfl) cI_0 ?_
      refine k_sub [] rfl ?_
      have h9 := kOk_s h
      exact h9
    · replace h := kOk_n c9 h
      refine k_aload_n G (dc d_Mo_amnesty 6 rfl) 0 rfl rfl ?_
      refine k_bipush G (dc d_Mo_amnesty 7 rfl) cB_121 ?_
      refine k_iload_n G (dc d_Mo_amnesty 8 rfl) 1 rfl rfl ?_
      refine k_iconst G (dc d_Mo_amnesty 9 rfl) cI_0 ?_
      refine k_iconst G (dc d_Mo_amnesty 10 rfl) cI_0 ?_
      obtain ⟨⟨x11, M12⟩, e10, h⟩ := kOk_b h
      refine k_cVI G (dc d_Mo_amnesty 11 rfl) kc8 (okL_lt hu (o := 0) 0 rfl) (okL_k hu (o := 0) 0 rfl) mi_Mo_acts mv_Mo_acts rfl ml_RX11_219 (c_Mo_acts (gst G) hu e10) rfl rfl ⟨rfl, rfl⟩ rfl ⟨rfl, rfl⟩ ⟨rfl, rfl⟩ ?_
      refine k_goto G (dc d_Mo_amnesty 12 rfl) (tgt := 25) rfl ?_
      refine k_sub [] rfl ?_
      have h9 := kOk_s h
      exact h9
theorem c_Mo_amnesty {l : Launch} {B : KB} {L : KLay} {M : KMem} {u : Nat} {p0 : Int32} (hst : l.stackTraces = false) (hu : okL L u moT) {r : Int32} {M' : KMem} (e : m_Mo_amnesty u p0 M = some (r, M')) : CtrN l B yX11_amnesty cX11_amnesty 2 (some .int) rm_Mo_amnesty [.ref (B.1 + u), .int p0] L M (some (.int r)) L M' :=
  mk_I rfl hst rfl (fun X hl G _ R => b_Mo_amnesty G hu ⟨_, e, R⟩)
def I_Mo_set : List (Nat × Instr × Nat) := [(0, .aload_n 0, 1), (1, .iload_n 1, 1), (2, .iconst 0, 1), (3, .iconst 1, 1), (4, .invokestatic 41, 3), (7, .ifCond .eq 17, 3), (10, .iload_n 2, 1), (11, .iconst 0, 1), (12, .bipush 20, 2), (14, .invokestatic 41, 3), (17, .ifCond .eq 7, 3), (20, .iconst 0, 1), (21, .goto 4, 3), (24, .iconst 1, 1), (25, .invokevirtual 164, 3), (28, .ifCond .ne 5, 3), (31, .iconst 0, 1), (32, .ireturn, 1), (33, .aload_n 0, 1), (34, .invokevirtual 216, 3), (37, .aload_n 0, 1), (38, .getfield 7, 3), (41, .bipush 106, 2), (43, .iload_n 1, 1), (44, .iadd, 1), (45, .iaload, 1), (46, .istore_n 3, 1), (47, .aload_n 0, 1), (48, .getfield 7, 3), (51, .bipush 106, 2), (53, .iload_n 1, 1), (54, .iadd, 1), (55, .iload_n 2, 1), (56, .iastore, 1), (57, .iload_n 3, 1), (58, .ireturn, 1)]
set_option maxRecDepth 100000 in
theorem d_Mo_set : decA cX11_set I_Mo_set = true := by decide +kernel
abbrev rm_Mo_set : Room := ({ frames := 1, cells := 0, slots := 0, locals := 22 } : Room)
def m_Mo_set (u : Nat) (p0 : Int32) (p1 : Int32) (M : KMem) : Option (Int32 × KMem) :=
 Option.bind (m_Mo_in p0 0 1) fun x2 =>
 Option.bind (α := Int32) (if x2 = 0 then
 (some 1)
 else
 (Option.bind (m_Mo_in p1 0 20) fun x17 =>
 if x17 = 0 then
 (some 1)
 else
 (some 0))) fun t3 =>
 Option.bind (m_Mo_holds u t3 M) fun (x6, M7) =>
 if x6 = 0 then
 (some (0, M7))
 else
 (Option.bind (m_Mo_remember u M7) fun M10 =>
 Option.bind (rdI M10 (u + 1) 108 (106 + p0)) fun x12 =>
 Option.bind (wrI M10 (u + 1) 108 (106 + p0) p1) fun M14 =>
 some (x12, M14))
set_option maxHeartbeats 4000000 in
set_option maxRecDepth 100000 in
theorem b_Mo_set {X : KX} {B : KB} {L : KLay} {M : KMem} {u : Nat} {p0 : Int32} {p1 : Int32} (G : Good X B RX11 cX11_set 4 rm_Mo_set) (hu : okL L u moT) (h : kOk (m_Mo_set u p0 p1 M) (fun r => RI X B L 4 cX11_set .int rm_Mo_set r.1 r.2)) : KK X B L 4 0 0 M 0 [(0, .ref (B.1 + u)), (1, .int p0), (2, .int p1)] [] := by
  unfold m_Mo_set at h
  refine k_aload_n G (dc d_Mo_set 0 rfl) 0 rfl rfl ?_
  refine k_iload_n G (dc d_Mo_set 1 rfl) 1 rfl rfl ?_
  refine k_iconst G (dc d_Mo_set 2 rfl) cI_0 ?_
  refine k_iconst G (dc d_Mo_set 3 rfl) cI_1 ?_
  obtain ⟨x2, e1, h⟩ := kOk_b h
  refine k_cSI G (dc d_Mo_set 4 rfl) mi_Mo_in ms_Mo_in ml_RX11_41 (c_Mo_in (gst G)  e1) rfl rfl ⟨rfl, rfl⟩ rfl ⟨rfl, rfl⟩ ⟨rfl, rfl⟩ ?_
  refine kJ h (fun r4 => KK X B L 4 0 0 M 25 [(0, .ref (B.1 + u)), (1, .int p0), (2, .int p1)] [.int r4, .ref (B.1 + u)]) (fun r4 h => ?_) (fun h => ?_)
  · obtain ⟨t3, rfl⟩ : ∃ z, z = r4 := ⟨_, rfl⟩
    show KK X B L 4 0 0 M 25 [(0, .ref (B.1 + u)), (1, .int p0), (2, .int p1)] [.int t3, .ref (B.1 + u)]
    obtain ⟨⟨x6, M7⟩, e5, h⟩ := kOk_b h
    refine k_cVI G (dc d_Mo_set 14 rfl) kc8 (okL_lt hu (o := 0) 0 rfl) (okL_k hu (o := 0) 0 rfl) mi_Mo_holds mv_Mo_holds rfl ml_RX11_164 (c_Mo_holds (gst G) hu e5) rfl rfl ⟨rfl, rfl⟩ rfl ⟨rfl, rfl⟩ ⟨rfl, rfl⟩ ?_
    refine k_if_ne G (dc d_Mo_set 15 rfl) (tgt := 33) rfl (fun c8 => ?_) (fun c8 => ?_)
    · replace h := kOk_n c8 h
      refine k_aload_n G (dc d_Mo_set 18 rfl) 0 rfl rfl ?_
      obtain ⟨M10, e9, h⟩ := kOk_b h
      refine k_cVV G (dc d_Mo_set 19 rfl) kc8 (okL_lt hu (o := 0) 0 rfl) (okL_k hu (o := 0) 0 rfl) mi_Mo_remember mv_Mo_remember rfl ml_RX11_216 (c_Mo_remember (gst G) hu e9) rfl rfl ⟨rfl, rfl⟩ rfl ⟨rfl, rfl⟩ ⟨rfl, rfl⟩ ?_
      refine k_aload_n G (dc d_Mo_set 20 rfl) 0 rfl rfl ?_
      refine k_getR G kc8 (dc d_Mo_set 21 rfl) (okL_lt hu (o := 0) 0 rfl) (okL_k hu (o := 0) 0 rfl) 1 (by decide) rfl fl_RX11_7 (u + 1) (okL_r hu (o := 0) (c := 1) 0 rfl 0 rfl) ?_
      refine k_bipush G (dc d_Mo_set 22 rfl) cB_106 ?_
      refine k_iload_n G (dc d_Mo_set 23 rfl) 1 rfl rfl ?_
      refine k_iadd G (dc d_Mo_set 24 rfl) ?_
      obtain ⟨x12, e11, h⟩ := kOk_b h
      refine k_ild G (dc d_Mo_set 25 rfl) (okL_lt hu (o := 1) 1 rfl) (okL_k hu (o := 1) 1 rfl) (okL_n hu (o := 1) 1 rfl) e11 ?_
      refine k_istore_n G (dc d_Mo_set 26 rfl) (ls' := [(3, .int x12), (0, .ref (B.1 + u)), (1, .int p0), (2, .int p1)]) rfl rfl rfl ?_
      refine k_aload_n G (dc d_Mo_set 27 rfl) 1 rfl rfl ?_
      refine k_getR G kc8 (dc d_Mo_set 28 rfl) (okL_lt hu (o := 0) 0 rfl) (okL_k hu (o := 0) 0 rfl) 1 (by decide) rfl fl_RX11_7 (u + 1) (okL_r hu (o := 0) (c := 1) 0 rfl 0 rfl) ?_
      refine k_bipush G (dc d_Mo_set 29 rfl) cB_106 ?_
      refine k_iload_n G (dc d_Mo_set 30 rfl) 2 rfl rfl ?_
      refine k_iadd G (dc d_Mo_set 31 rfl) ?_
      refine k_iload_n G (dc d_Mo_set 32 rfl) 3 rfl rfl ?_
      obtain ⟨M14, e13, h⟩ := kOk_b h
      refine k_ist G (dc d_Mo_set 33 rfl) (okL_lt hu (o := 1) 1 rfl) (okL_k hu (o := 1) 1 rfl) (okL_n hu (o := 1) 1 rfl) e13 ?_
      refine k_iload_n G (dc d_Mo_set 34 rfl) 0 rfl rfl ?_
      exact (kOk_s h) _ _ _ _ rfl rfl rfl (dc d_Mo_set 35 rfl)
    · replace h := kOk_p c8 h
      refine k_iconst G (dc d_Mo_set 16 rfl) cI_0 ?_
      exact (kOk_s h) _ _ _ _ rfl rfl rfl (dc d_Mo_set 17 rfl)
  · refine k_if_eq G (dc d_Mo_set 5 rfl) (tgt := 24) rfl (fun c15 => ?_) (fun c15 => ?_)
    · replace h := kOk_p c15 h
      refine k_iconst G (dc d_Mo_set 13 rfl) cI_1 ?_
      have h9 := kOk_s h
      exact h9
    · replace h := kOk_n c15 h
      refine k_iload_n G (dc d_Mo_set 6 rfl) 2 rfl rfl ?_
      refine k_iconst G (dc d_Mo_set 7 rfl) cI_0 ?_
      refine k_bipush G (dc d_Mo_set 8 rfl) cB_20 ?_
      obtain ⟨x17, e16, h⟩ := kOk_b h
      refine k_cSI G (dc d_Mo_set 9 rfl) mi_Mo_in ms_Mo_in ml_RX11_41 (c_Mo_in (gst G)  e16) rfl rfl ⟨rfl, rfl⟩ rfl ⟨rfl, rfl⟩ ⟨rfl, rfl⟩ ?_
      refine k_if_eq G (dc d_Mo_set 10 rfl) (tgt := 24) rfl (fun c18 => ?_) (fun c18 => ?_)
      · replace h := kOk_p c18 h
        refine k_iconst G (dc d_Mo_set 13 rfl) cI_1 ?_
        have h9 := kOk_s h
        exact h9
      · replace h := kOk_n c18 h
        refine k_iconst G (dc d_Mo_set 11 rfl) cI_0 ?_
        refine k_goto G (dc d_Mo_set 12 rfl) (tgt := 25) rfl ?_
        have h9 := kOk_s h
        exact h9
theorem c_Mo_set {l : Launch} {B : KB} {L : KLay} {M : KMem} {u : Nat} {p0 : Int32} {p1 : Int32} (hst : l.stackTraces = false) (hu : okL L u moT) {r : Int32} {M' : KMem} (e : m_Mo_set u p0 p1 M = some (r, M')) : CtrN l B yX11_set cX11_set 4 (some .int) rm_Mo_set [.ref (B.1 + u), .int p0, .int p1] L M (some (.int r)) L M' :=
  mk_I rfl hst rfl (fun X hl G _ R => b_Mo_set G hu ⟨_, e, R⟩)
def I_Mo_undo : List (Nat × Instr × Nat) := [(0, .aload_n 0, 1), (1, .aload_n 0, 1), (2, .getfield 50, 3), (5, .ifCond .le 7, 3), (8, .iconst 0, 1), (9, .goto 4, 3), (12, .iconst 1, 1), (13, .invokevirtual 164, 3), (16, .ifCond .ne 5, 3), (19, .iconst 0, 1), (20, .ireturn, 1), (21, .aload_n 0, 1), (22, .dup, 1), (23, .getfield 50, 3), (26, .iconst 1, 1), (27, .isub, 1), (28, .putfield 50, 3), (31, .iconst 0, 1), (32, .istore_n 1, 1), (33, .iload_n 1, 1), (34, .bipush 108, 2), (36, .if_icmp .ge 29, 3), (39, .aload_n 0, 1), (40, .getfield 7, 3), (43, .iload_n 1, 1), (44, .aload_n 0, 1), (45, .getfield 16, 3), (48, .bipush 108, 2), (50, .aload_n 0, 1), (51, .getfield 50, 3), (54, .imul, 1), (55, .iload_n 1, 1), (56, .iadd, 1), (57, .iaload, 1), (58, .iastore, 1), (59, .iinc 1 1, 3), (62, .goto (-29), 3), (65, .aload_n 0, 1), (66, .getfield 50, 3), (69, .ireturn, 1)]
set_option maxRecDepth 100000 in
theorem d_Mo_undo : decA cX11_undo I_Mo_undo = true := by decide +kernel
abbrev rm_Mo_undo : Room := ({ frames := 1, cells := 0, slots := 0, locals := 21 } : Room)
def m_Mo_undo_l33 (u : Nat) : (Int32 × KMem) → Option ((Int32 × KMem) ⊕ KMem) := fun (v1_9, M10) =>
 if 108 ≤ v1_9 then
 (some (.inr M10))
 else
 (Option.bind (rdI M10 (u + 3) 1512 ((108 * (M10 u 4)) + v1_9)) fun x13 =>
 Option.bind (wrI M10 (u + 1) 108 v1_9 x13) fun M15 =>
 some (.inl (v1_9 + 1, M15)))
def m_Mo_undo (u : Nat) (M : KMem) : Option (Int32 × KMem) :=
 Option.bind (α := Int32) (if (M u 4) ≤ 0 then
 (some 1)
 else
 (some 0)) fun t1 =>
 Option.bind (m_Mo_holds u t1 M) fun (x4, M5) =>
 if x4 = 0 then
 (some (0, M5))
 else
 (Option.bind (some (kup M5 u 4 ((M5 u 4) - 1))) fun M8 =>
 Option.bind (α := KMem) (kLp (m_Mo_undo_l33 u) kFU (0, M8)) fun M16 =>
 some (M16 u 4, M16))
set_option maxHeartbeats 4000000 in
set_option maxRecDepth 100000 in
theorem b_Mo_undo {X : KX} {B : KB} {L : KLay} {M : KMem} {u : Nat} (G : Good X B RX11 cX11_undo 2 rm_Mo_undo) (hu : okL L u moT) (h : kOk (m_Mo_undo u M) (fun r => RI X B L 2 cX11_undo .int rm_Mo_undo r.1 r.2)) : KK X B L 2 0 0 M 0 [(0, .ref (B.1 + u))] [] := by
  unfold m_Mo_undo at h
  refine k_aload_n G (dc d_Mo_undo 0 rfl) 0 rfl rfl ?_
  refine k_aload_n G (dc d_Mo_undo 1 rfl) 0 rfl rfl ?_
  refine k_getI G kc8 (dc d_Mo_undo 2 rfl) (okL_lt hu (o := 0) 0 rfl) (okL_k hu (o := 0) 0 rfl) 4 (by decide) rfl fl_RX11_50 ?_
  refine kJ h (fun r2 => KK X B L 2 0 0 M 13 [(0, .ref (B.1 + u))] [.int r2, .ref (B.1 + u)]) (fun r2 h => ?_) (fun h => ?_)
  · obtain ⟨t1, rfl⟩ : ∃ z, z = r2 := ⟨_, rfl⟩
    show KK X B L 2 0 0 M 13 [(0, .ref (B.1 + u))] [.int t1, .ref (B.1 + u)]
    obtain ⟨⟨x4, M5⟩, e3, h⟩ := kOk_b h
    refine k_cVI G (dc d_Mo_undo 7 rfl) kc8 (okL_lt hu (o := 0) 0 rfl) (okL_k hu (o := 0) 0 rfl) mi_Mo_holds mv_Mo_holds rfl ml_RX11_164 (c_Mo_holds (gst G) hu e3) rfl rfl ⟨rfl, rfl⟩ rfl ⟨rfl, rfl⟩ ⟨rfl, rfl⟩ ?_
    refine k_if_ne G (dc d_Mo_undo 8 rfl) (tgt := 21) rfl (fun c6 => ?_) (fun c6 => ?_)
    · replace h := kOk_n c6 h
      refine k_aload_n G (dc d_Mo_undo 11 rfl) 0 rfl rfl ?_
      refine k_dup G (dc d_Mo_undo 12 rfl) rfl ?_
      refine k_getI G kc8 (dc d_Mo_undo 13 rfl) (okL_lt hu (o := 0) 0 rfl) (okL_k hu (o := 0) 0 rfl) 4 (by decide) rfl fl_RX11_50 ?_
      refine k_iconst G (dc d_Mo_undo 14 rfl) cI_1 ?_
      refine k_isub G (dc d_Mo_undo 15 rfl) ?_
      obtain ⟨M8, e7, h⟩ := kOk_b h
      refine k_putI G kc8 (dc d_Mo_undo 16 rfl) (okL_lt hu (o := 0) 0 rfl) (okL_k hu (o := 0) 0 rfl) 4 (by decide) rfl rfl fl_RX11_50 rfl rfl e7 ?_
      refine k_iconst G (dc d_Mo_undo 17 rfl) cI_0 ?_
      refine k_istore_n G (dc d_Mo_undo 18 rfl) (ls' := [(1, .int 0), (0, .ref (B.1 + u))]) rfl rfl rfl ?_
      refine kJ h (fun r17 => KK X B L 2 0 0 r17 65 [(0, .ref (B.1 + u))] []) (fun r17 h => ?_) (fun h => ?_)
      · obtain ⟨M16, rfl⟩ : ∃ z, z = r17 := ⟨_, rfl⟩
        show KK X B L 2 0 0 M16 65 [(0, .ref (B.1 + u))] []
        refine k_aload_n G (dc d_Mo_undo 37 rfl) 0 rfl rfl ?_
        refine k_getI G kc8 (dc d_Mo_undo 38 rfl) (okL_lt hu (o := 0) 0 rfl) (okL_k hu (o := 0) 0 rfl) 4 (by decide) rfl fl_RX11_50 ?_
        exact (kOk_s h) _ _ _ _ rfl rfl rfl (dc d_Mo_undo 39 rfl)
      · refine k_sub [1, 0] rfl ?_
        refine kLp_ok (P := fun s18 => KK X B L 2 0 0 s18.2 33 [(0, .ref (B.1 + u)), (1, .int s18.1)] []) (fun s18 h => ?_) kFU _ h
        obtain ⟨v1_9, M10⟩ := s18
        unfold m_Mo_undo_l33 at h
        show KK X B L 2 0 0 M10 33 [(0, .ref (B.1 + u)), (1, .int v1_9)] []
        refine k_iload_n G (dc d_Mo_undo 19 rfl) 1 rfl rfl ?_
        refine k_bipush G (dc d_Mo_undo 20 rfl) cB_108 ?_
        refine k_icmp_ge G (dc d_Mo_undo 21 rfl) (tgt := 65) rfl (fun c11 => ?_) (fun c11 => ?_)
        · replace h := kOk_p c11 h
          refine k_sub [0] rfl ?_
          have h9 := kOk_s h
          exact h9
        · replace h := kOk_n c11 h
          refine k_aload_n G (dc d_Mo_undo 22 rfl) 0 rfl rfl ?_
          refine k_getR G kc8 (dc d_Mo_undo 23 rfl) (okL_lt hu (o := 0) 0 rfl) (okL_k hu (o := 0) 0 rfl) 1 (by decide) rfl fl_RX11_7 (u + 1) (okL_r hu (o := 0) (c := 1) 0 rfl 0 rfl) ?_
          refine k_iload_n G (dc d_Mo_undo 24 rfl) 1 rfl rfl ?_
          refine k_aload_n G (dc d_Mo_undo 25 rfl) 0 rfl rfl ?_
          refine k_getR G kc8 (dc d_Mo_undo 26 rfl) (okL_lt hu (o := 0) 0 rfl) (okL_k hu (o := 0) 0 rfl) 3 (by decide) rfl fl_RX11_16 (u + 3) (okL_r hu (o := 0) (c := 3) 0 rfl 2 rfl) ?_
          refine k_bipush G (dc d_Mo_undo 27 rfl) cB_108 ?_
          refine k_aload_n G (dc d_Mo_undo 28 rfl) 0 rfl rfl ?_
          refine k_getI G kc8 (dc d_Mo_undo 29 rfl) (okL_lt hu (o := 0) 0 rfl) (okL_k hu (o := 0) 0 rfl) 4 (by decide) rfl fl_RX11_50 ?_
          refine k_imul G (dc d_Mo_undo 30 rfl) ?_
          refine k_iload_n G (dc d_Mo_undo 31 rfl) 1 rfl rfl ?_
          refine k_iadd G (dc d_Mo_undo 32 rfl) ?_
          obtain ⟨x13, e12, h⟩ := kOk_b h
          refine k_ild G (dc d_Mo_undo 33 rfl) (okL_lt hu (o := 3) 3 rfl) (okL_k hu (o := 3) 3 rfl) (okL_n hu (o := 3) 3 rfl) e12 ?_
          obtain ⟨M15, e14, h⟩ := kOk_b h
          refine k_ist G (dc d_Mo_undo 34 rfl) (okL_lt hu (o := 1) 1 rfl) (okL_k hu (o := 1) 1 rfl) (okL_n hu (o := 1) 1 rfl) e14 ?_
          refine k_iinc G (dc d_Mo_undo 35 rfl) (ls' := [(1, .int (v1_9 + 1)), (0, .ref (B.1 + u))]) 1 rfl cI_1 rfl rfl ?_
          refine k_goto G (dc d_Mo_undo 36 rfl) (tgt := 33) rfl ?_
          refine k_sub [1, 0] rfl ?_
          have h9 := kOk_s h
          exact h9
    · replace h := kOk_p c6 h
      refine k_iconst G (dc d_Mo_undo 9 rfl) cI_0 ?_
      exact (kOk_s h) _ _ _ _ rfl rfl rfl (dc d_Mo_undo 10 rfl)
  · refine k_if_le G (dc d_Mo_undo 3 rfl) (tgt := 12) rfl (fun c19 => ?_) (fun c19 => ?_)
    · replace h := kOk_p c19 h
      refine k_iconst G (dc d_Mo_undo 6 rfl) cI_1 ?_
      have h9 := kOk_s h
      exact h9
    · replace h := kOk_n c19 h
      refine k_iconst G (dc d_Mo_undo 4 rfl) cI_0 ?_
      refine k_goto G (dc d_Mo_undo 5 rfl) (tgt := 13) rfl ?_
      have h9 := kOk_s h
      exact h9
theorem c_Mo_undo {l : Launch} {B : KB} {L : KLay} {M : KMem} {u : Nat} (hst : l.stackTraces = false) (hu : okL L u moT) {r : Int32} {M' : KMem} (e : m_Mo_undo u M = some (r, M')) : CtrN l B yX11_undo cX11_undo 2 (some .int) rm_Mo_undo [.ref (B.1 + u)] L M (some (.int r)) L M' :=
  mk_I rfl hst rfl (fun X hl G _ R => b_Mo_undo G hu ⟨_, e, R⟩)
def I_Mo_wouldHinderMore : List (Nat × Instr × Nat) := [(0, .aload_n 0, 1), (1, .invokevirtual 96, 3), (4, .iconst 0, 1), (5, .istore 5, 2), (7, .iload 5, 2), (9, .aload_n 0, 1), (10, .getfield 7, 3), (13, .iconst 0, 1), (14, .iaload, 1), (15, .if_icmp .ge 22, 3), (18, .aload_n 0, 1), (19, .getfield 31, 3), (22, .iload 5, 2), (24, .aload_n 0, 1), (25, .iload 5, 2), (27, .invokevirtual 73, 3), (30, .iastore, 1), (31, .iinc 5 1, 3), (34, .goto (-27), 3), (37, .aload_n 0, 1), (38, .getfield 7, 3), (41, .bipush 41, 2), (43, .iconst 0, 1), (44, .iastore, 1), (45, .aload_n 0, 1), (46, .iload_n 1, 1), (47, .iload_n 2, 1), (48, .iload_n 3, 1), (49, .iload 4, 2), (51, .invokevirtual 92, 3), (54, .iconst 0, 1), (55, .istore 5, 2), (57, .iload 5, 2), (59, .aload_n 0, 1), (60, .getfield 7, 3), (63, .iconst 0, 1), (64, .iaload, 1), (65, .if_icmp .ge 49, 3), (68, .aload_n 0, 1), (69, .getfield 7, 3), (72, .iload 5, 2), (74, .iconst 1, 1), (75, .invokestatic 67, 3), (78, .iaload, 1), (79, .istore 6, 2), (81, .aload_n 0, 1), (82, .getfield 7, 3), (85, .iload 5, 2), (87, .iconst 1, 1), (88, .invokestatic 67, 3), (91, .aload_n 0, 1), (92, .getfield 31, 3), (95, .iload 5, 2), (97, .iaload, 1), (98, .iastore, 1), (99, .aload_n 0, 1), (100, .getfield 31, 3), (103, .iload 5, 2), (105, .iload 6, 2), (107, .iastore, 1), (108, .iinc 5 1, 3), (111, .goto (-54), 3), (114, .aload_n 0, 1), (115, .invokevirtual 88, 3), (118, .istore 5, 2), (120, .iconst 0, 1), (121, .istore 6, 2), (123, .iload 6, 2), (125, .aload_n 0, 1), (126, .getfield 7, 3), (129, .iconst 0, 1), (130, .iaload, 1), (131, .if_icmp .ge 27, 3), (134, .aload_n 0, 1), (135, .getfield 7, 3), (138, .iload 6, 2), (140, .iconst 1, 1), (141, .invokestatic 67, 3), (144, .aload_n 0, 1), (145, .getfield 31, 3), (148, .iload 6, 2), (150, .iaload, 1), (151, .iastore, 1), (152, .iinc 6 1, 3), (155, .goto (-32), 3), (158, .aload_n 0, 1), (159, .invokevirtual 99, 3), (162, .iload 5, 2), (164, .ireturn, 1)]
set_option maxRecDepth 100000 in
theorem d_Mo_wouldHinderMore : decA cX11_wouldHinderMore I_Mo_wouldHinderMore = true := by decide +kernel
abbrev rm_Mo_wouldHinderMore : Room := ({ frames := 6, cells := 0, slots := 0, locals := 147 } : Room)
def m_Mo_wouldHinderMore_l7 (u : Nat) : (Int32 × KMem) → Option ((Int32 × KMem) ⊕ KMem) := fun (v5_3, M4) =>
 Option.bind (rdI M4 (u + 1) 108 0) fun x6 =>
 if x6 ≤ v5_3 then
 (some (.inr M4))
 else
 (Option.bind (m_Mo_rightOf u v5_3 M4) fun x9 =>
 Option.bind (wrI M4 (u + 8) 8 v5_3 x9) fun M11 =>
 some (.inl (v5_3 + 1, M11)))
def m_Mo_wouldHinderMore_l57 (u : Nat) : (Int32 × KMem) → Option ((Int32 × KMem) ⊕ KMem) := fun (v5_17, M18) =>
 Option.bind (rdI M18 (u + 1) 108 0) fun x20 =>
 if x20 ≤ v5_17 then
 (some (.inr M18))
 else
 (Option.bind (m_Mo_of v5_17 1) fun x23 =>
 Option.bind (rdI M18 (u + 1) 108 x23) fun x25 =>
 Option.bind (m_Mo_of v5_17 1) fun x27 =>
 Option.bind (rdI M18 (u + 8) 8 v5_17) fun x29 =>
 Option.bind (wrI M18 (u + 1) 108 x27 x29) fun M31 =>
 Option.bind (wrI M31 (u + 8) 8 v5_17 x25) fun M33 =>
 some (.inl (v5_17 + 1, M33)))
def m_Mo_wouldHinderMore_l123 (u : Nat) : (Int32 × KMem) → Option ((Int32 × KMem) ⊕ KMem) := fun (v6_37, M38) =>
 Option.bind (rdI M38 (u + 1) 108 0) fun x40 =>
 if x40 ≤ v6_37 then
 (some (.inr M38))
 else
 (Option.bind (m_Mo_of v6_37 1) fun x43 =>
 Option.bind (rdI M38 (u + 8) 8 v6_37) fun x45 =>
 Option.bind (wrI M38 (u + 1) 108 x43 x45) fun M47 =>
 some (.inl (v6_37 + 1, M47)))
def m_Mo_wouldHinderMore (u : Nat) (p0 : Int32) (p1 : Int32) (p2 : Int32) (p3 : Int32) (M : KMem) : Option (Int32 × KMem) :=
 Option.bind (m_Mo_keepsDecrees u M) fun M2 =>
 Option.bind (α := KMem) (kLp (m_Mo_wouldHinderMore_l7 u) kFU (0, M2)) fun M12 =>
 Option.bind (wrI M12 (u + 1) 108 41 0) fun M14 =>
 Option.bind (m_Mo_putsDecree u p0 p1 p2 p3 M14) fun M16 =>
 Option.bind (α := KMem) (kLp (m_Mo_wouldHinderMore_l57 u) kFU (0, M16)) fun M34 =>
 Option.bind (m_Mo_hindrance u M34) fun x36 =>
 Option.bind (α := KMem) (kLp (m_Mo_wouldHinderMore_l123 u) kFU (0, M34)) fun M48 =>
 Option.bind (m_Mo_restoresDecrees u M48) fun M50 =>
 some (x36, M50)
set_option maxHeartbeats 4000000 in
set_option maxRecDepth 100000 in
theorem b_Mo_wouldHinderMore {X : KX} {B : KB} {L : KLay} {M : KMem} {u : Nat} {p0 : Int32} {p1 : Int32} {p2 : Int32} {p3 : Int32} (G : Good X B RX11 cX11_wouldHinderMore 7 rm_Mo_wouldHinderMore) (hu : okL L u moT) (h : kOk (m_Mo_wouldHinderMore u p0 p1 p2 p3 M) (fun r => RI X B L 7 cX11_wouldHinderMore .int rm_Mo_wouldHinderMore r.1 r.2)) : KK X B L 7 0 0 M 0 [(0, .ref (B.1 + u)), (1, .int p0), (2, .int p1), (3, .int p2), (4, .int p3)] [] := by
  unfold m_Mo_wouldHinderMore at h
  refine k_aload_n G (dc d_Mo_wouldHinderMore 0 rfl) 0 rfl rfl ?_
  obtain ⟨M2, e1, h⟩ := kOk_b h
  refine k_cVV G (dc d_Mo_wouldHinderMore 1 rfl) kc8 (okL_lt hu (o := 0) 0 rfl) (okL_k hu (o := 0) 0 rfl) mi_Mo_keepsDecrees mv_Mo_keepsDecrees rfl ml_RX11_96 (c_Mo_keepsDecrees (gst G) hu e1) rfl rfl ⟨rfl, rfl⟩ rfl ⟨rfl, rfl⟩ ⟨rfl, rfl⟩ ?_
  refine k_iconst G (dc d_Mo_wouldHinderMore 2 rfl) cI_0 ?_
  refine k_istore G (dc d_Mo_wouldHinderMore 3 rfl) (ls' := [(5, .int 0), (0, .ref (B.1 + u)), (1, .int p0), (2, .int p1), (3, .int p2), (4, .int p3)]) rfl rfl ?_
  refine kJ h (fun r55 => KK X B L 7 0 0 r55 37 [(0, .ref (B.1 + u)), (1, .int p0), (2, .int p1), (3, .int p2), (4, .int p3)] []) (fun r55 h => ?_) (fun h => ?_)
  · obtain ⟨M12, rfl⟩ : ∃ z, z = r55 := ⟨_, rfl⟩
    show KK X B L 7 0 0 M12 37 [(0, .ref (B.1 + u)), (1, .int p0), (2, .int p1), (3, .int p2), (4, .int p3)] []
    refine k_aload_n G (dc d_Mo_wouldHinderMore 19 rfl) 0 rfl rfl ?_
    refine k_getR G kc8 (dc d_Mo_wouldHinderMore 20 rfl) (okL_lt hu (o := 0) 0 rfl) (okL_k hu (o := 0) 0 rfl) 1 (by decide) rfl fl_RX11_7 (u + 1) (okL_r hu (o := 0) (c := 1) 0 rfl 0 rfl) ?_
    refine k_bipush G (dc d_Mo_wouldHinderMore 21 rfl) cB_41 ?_
    refine k_iconst G (dc d_Mo_wouldHinderMore 22 rfl) cI_0 ?_
    obtain ⟨M14, e13, h⟩ := kOk_b h
    refine k_ist G (dc d_Mo_wouldHinderMore 23 rfl) (okL_lt hu (o := 1) 1 rfl) (okL_k hu (o := 1) 1 rfl) (okL_n hu (o := 1) 1 rfl) e13 ?_
    refine k_aload_n G (dc d_Mo_wouldHinderMore 24 rfl) 0 rfl rfl ?_
    refine k_iload_n G (dc d_Mo_wouldHinderMore 25 rfl) 1 rfl rfl ?_
    refine k_iload_n G (dc d_Mo_wouldHinderMore 26 rfl) 2 rfl rfl ?_
    refine k_iload_n G (dc d_Mo_wouldHinderMore 27 rfl) 3 rfl rfl ?_
    refine k_iload G (dc d_Mo_wouldHinderMore 28 rfl) 4 rfl ?_
    obtain ⟨M16, e15, h⟩ := kOk_b h
    refine k_cVV G (dc d_Mo_wouldHinderMore 29 rfl) kc8 (okL_lt hu (o := 0) 0 rfl) (okL_k hu (o := 0) 0 rfl) mi_Mo_putsDecree mv_Mo_putsDecree rfl ml_RX11_92 (c_Mo_putsDecree (gst G) hu e15) rfl rfl ⟨rfl, rfl⟩ rfl ⟨rfl, rfl⟩ ⟨rfl, rfl⟩ ?_
    refine k_iconst G (dc d_Mo_wouldHinderMore 30 rfl) cI_0 ?_
    refine k_istore G (dc d_Mo_wouldHinderMore 31 rfl) (ls' := [(5, .int 0), (0, .ref (B.1 + u)), (1, .int p0), (2, .int p1), (3, .int p2), (4, .int p3)]) rfl rfl ?_
    refine kJ h (fun r53 => KK X B L 7 0 0 r53 114 [(0, .ref (B.1 + u))] []) (fun r53 h => ?_) (fun h => ?_)
    · obtain ⟨M34, rfl⟩ : ∃ z, z = r53 := ⟨_, rfl⟩
      show KK X B L 7 0 0 M34 114 [(0, .ref (B.1 + u))] []
      refine k_aload_n G (dc d_Mo_wouldHinderMore 62 rfl) 0 rfl rfl ?_
      obtain ⟨x36, e35, h⟩ := kOk_b h
      refine k_cVI G (dc d_Mo_wouldHinderMore 63 rfl) kc8 (okL_lt hu (o := 0) 0 rfl) (okL_k hu (o := 0) 0 rfl) mi_Mo_hindrance mv_Mo_hindrance rfl ml_RX11_88 (c_Mo_hindrance (gst G) hu e35) rfl rfl ⟨rfl, rfl⟩ rfl ⟨rfl, rfl⟩ ⟨rfl, rfl⟩ ?_
      refine k_istore G (dc d_Mo_wouldHinderMore 64 rfl) (ls' := [(5, .int x36), (0, .ref (B.1 + u))]) rfl rfl ?_
      refine k_iconst G (dc d_Mo_wouldHinderMore 65 rfl) cI_0 ?_
      refine k_istore G (dc d_Mo_wouldHinderMore 66 rfl) (ls' := [(6, .int 0), (5, .int x36), (0, .ref (B.1 + u))]) rfl rfl ?_
      refine kJ h (fun r51 => KK X B L 7 0 0 r51 158 [(0, .ref (B.1 + u)), (5, .int x36)] []) (fun r51 h => ?_) (fun h => ?_)
      · obtain ⟨M48, rfl⟩ : ∃ z, z = r51 := ⟨_, rfl⟩
        show KK X B L 7 0 0 M48 158 [(0, .ref (B.1 + u)), (5, .int x36)] []
        refine k_aload_n G (dc d_Mo_wouldHinderMore 85 rfl) 0 rfl rfl ?_
        obtain ⟨M50, e49, h⟩ := kOk_b h
        refine k_cVV G (dc d_Mo_wouldHinderMore 86 rfl) kc8 (okL_lt hu (o := 0) 0 rfl) (okL_k hu (o := 0) 0 rfl) mi_Mo_restoresDecrees mv_Mo_restoresDecrees rfl ml_RX11_99 (c_Mo_restoresDecrees (gst G) hu e49) rfl rfl ⟨rfl, rfl⟩ rfl ⟨rfl, rfl⟩ ⟨rfl, rfl⟩ ?_
        refine k_iload G (dc d_Mo_wouldHinderMore 87 rfl) 1 rfl ?_
        exact (kOk_s h) _ _ _ _ rfl rfl rfl (dc d_Mo_wouldHinderMore 88 rfl)
      · refine k_sub [2, 1, 0] rfl ?_
        refine kLp_ok (P := fun s52 => KK X B L 7 0 0 s52.2 123 [(0, .ref (B.1 + u)), (5, .int x36), (6, .int s52.1)] []) (fun s52 h => ?_) kFU _ h
        obtain ⟨v6_37, M38⟩ := s52
        unfold m_Mo_wouldHinderMore_l123 at h
        show KK X B L 7 0 0 M38 123 [(0, .ref (B.1 + u)), (5, .int x36), (6, .int v6_37)] []
        refine k_iload G (dc d_Mo_wouldHinderMore 67 rfl) 2 rfl ?_
        refine k_aload_n G (dc d_Mo_wouldHinderMore 68 rfl) 0 rfl rfl ?_
        refine k_getR G kc8 (dc d_Mo_wouldHinderMore 69 rfl) (okL_lt hu (o := 0) 0 rfl) (okL_k hu (o := 0) 0 rfl) 1 (by decide) rfl fl_RX11_7 (u + 1) (okL_r hu (o := 0) (c := 1) 0 rfl 0 rfl) ?_
        refine k_iconst G (dc d_Mo_wouldHinderMore 70 rfl) cI_0 ?_
        obtain ⟨x40, e39, h⟩ := kOk_b h
        refine k_ild G (dc d_Mo_wouldHinderMore 71 rfl) (okL_lt hu (o := 1) 1 rfl) (okL_k hu (o := 1) 1 rfl) (okL_n hu (o := 1) 1 rfl) e39 ?_
        refine k_icmp_ge G (dc d_Mo_wouldHinderMore 72 rfl) (tgt := 158) rfl (fun c41 => ?_) (fun c41 => ?_)
        · replace h := kOk_p c41 h
          refine k_sub [0, 1] rfl ?_
          have h9 := kOk_s h
          exact h9
        · replace h := kOk_n c41 h
          refine k_aload_n G (dc d_Mo_wouldHinderMore 73 rfl) 0 rfl rfl ?_
          refine k_getR G kc8 (dc d_Mo_wouldHinderMore 74 rfl) (okL_lt hu (o := 0) 0 rfl) (okL_k hu (o := 0) 0 rfl) 1 (by decide) rfl fl_RX11_7 (u + 1) (okL_r hu (o := 0) (c := 1) 0 rfl 0 rfl) ?_
          refine k_iload G (dc d_Mo_wouldHinderMore 75 rfl) 2 rfl ?_
          refine k_iconst G (dc d_Mo_wouldHinderMore 76 rfl) cI_1 ?_
          obtain ⟨x43, e42, h⟩ := kOk_b h
          refine k_cSI G (dc d_Mo_wouldHinderMore 77 rfl) mi_Mo_of ms_Mo_of ml_RX11_67 (c_Mo_of (gst G)  e42) rfl rfl ⟨rfl, rfl⟩ rfl ⟨rfl, rfl⟩ ⟨rfl, rfl⟩ ?_
          refine k_aload_n G (dc d_Mo_wouldHinderMore 78 rfl) 0 rfl rfl ?_
          refine k_getR G kc8 (dc d_Mo_wouldHinderMore 79 rfl) (okL_lt hu (o := 0) 0 rfl) (okL_k hu (o := 0) 0 rfl) 17 (by decide) rfl fl_RX11_31 (u + 8) (okL_r hu (o := 0) (c := 8) 0 rfl 7 rfl) ?_
          refine k_iload G (dc d_Mo_wouldHinderMore 80 rfl) 2 rfl ?_
          obtain ⟨x45, e44, h⟩ := kOk_b h
          refine k_ild G (dc d_Mo_wouldHinderMore 81 rfl) (okL_lt hu (o := 8) 8 rfl) (okL_k hu (o := 8) 8 rfl) (okL_n hu (o := 8) 8 rfl) e44 ?_
          obtain ⟨M47, e46, h⟩ := kOk_b h
          refine k_ist G (dc d_Mo_wouldHinderMore 82 rfl) (okL_lt hu (o := 1) 1 rfl) (okL_k hu (o := 1) 1 rfl) (okL_n hu (o := 1) 1 rfl) e46 ?_
          refine k_iinc G (dc d_Mo_wouldHinderMore 83 rfl) (ls' := [(6, .int (v6_37 + 1)), (0, .ref (B.1 + u)), (5, .int x36)]) 2 rfl cI_1 rfl rfl ?_
          refine k_goto G (dc d_Mo_wouldHinderMore 84 rfl) (tgt := 123) rfl ?_
          refine k_sub [1, 2, 0] rfl ?_
          have h9 := kOk_s h
          exact h9
    · refine k_sub [1, 0] rfl ?_
      refine kLp_ok (P := fun s54 => KK X B L 7 0 0 s54.2 57 [(0, .ref (B.1 + u)), (5, .int s54.1)] []) (fun s54 h => ?_) kFU _ h
      obtain ⟨v5_17, M18⟩ := s54
      unfold m_Mo_wouldHinderMore_l57 at h
      show KK X B L 7 0 0 M18 57 [(0, .ref (B.1 + u)), (5, .int v5_17)] []
      refine k_iload G (dc d_Mo_wouldHinderMore 32 rfl) 1 rfl ?_
      refine k_aload_n G (dc d_Mo_wouldHinderMore 33 rfl) 0 rfl rfl ?_
      refine k_getR G kc8 (dc d_Mo_wouldHinderMore 34 rfl) (okL_lt hu (o := 0) 0 rfl) (okL_k hu (o := 0) 0 rfl) 1 (by decide) rfl fl_RX11_7 (u + 1) (okL_r hu (o := 0) (c := 1) 0 rfl 0 rfl) ?_
      refine k_iconst G (dc d_Mo_wouldHinderMore 35 rfl) cI_0 ?_
      obtain ⟨x20, e19, h⟩ := kOk_b h
      refine k_ild G (dc d_Mo_wouldHinderMore 36 rfl) (okL_lt hu (o := 1) 1 rfl) (okL_k hu (o := 1) 1 rfl) (okL_n hu (o := 1) 1 rfl) e19 ?_
      refine k_icmp_ge G (dc d_Mo_wouldHinderMore 37 rfl) (tgt := 114) rfl (fun c21 => ?_) (fun c21 => ?_)
      · replace h := kOk_p c21 h
        refine k_sub [0] rfl ?_
        have h9 := kOk_s h
        exact h9
      · replace h := kOk_n c21 h
        refine k_aload_n G (dc d_Mo_wouldHinderMore 38 rfl) 0 rfl rfl ?_
        refine k_getR G kc8 (dc d_Mo_wouldHinderMore 39 rfl) (okL_lt hu (o := 0) 0 rfl) (okL_k hu (o := 0) 0 rfl) 1 (by decide) rfl fl_RX11_7 (u + 1) (okL_r hu (o := 0) (c := 1) 0 rfl 0 rfl) ?_
        refine k_iload G (dc d_Mo_wouldHinderMore 40 rfl) 1 rfl ?_
        refine k_iconst G (dc d_Mo_wouldHinderMore 41 rfl) cI_1 ?_
        obtain ⟨x23, e22, h⟩ := kOk_b h
        refine k_cSI G (dc d_Mo_wouldHinderMore 42 rfl) mi_Mo_of ms_Mo_of ml_RX11_67 (c_Mo_of (gst G)  e22) rfl rfl ⟨rfl, rfl⟩ rfl ⟨rfl, rfl⟩ ⟨rfl, rfl⟩ ?_
        obtain ⟨x25, e24, h⟩ := kOk_b h
        refine k_ild G (dc d_Mo_wouldHinderMore 43 rfl) (okL_lt hu (o := 1) 1 rfl) (okL_k hu (o := 1) 1 rfl) (okL_n hu (o := 1) 1 rfl) e24 ?_
        refine k_istore G (dc d_Mo_wouldHinderMore 44 rfl) (ls' := [(6, .int x25), (0, .ref (B.1 + u)), (5, .int v5_17)]) rfl rfl ?_
        refine k_aload_n G (dc d_Mo_wouldHinderMore 45 rfl) 1 rfl rfl ?_
        refine k_getR G kc8 (dc d_Mo_wouldHinderMore 46 rfl) (okL_lt hu (o := 0) 0 rfl) (okL_k hu (o := 0) 0 rfl) 1 (by decide) rfl fl_RX11_7 (u + 1) (okL_r hu (o := 0) (c := 1) 0 rfl 0 rfl) ?_
        refine k_iload G (dc d_Mo_wouldHinderMore 47 rfl) 2 rfl ?_
        refine k_iconst G (dc d_Mo_wouldHinderMore 48 rfl) cI_1 ?_
        obtain ⟨x27, e26, h⟩ := kOk_b h
        refine k_cSI G (dc d_Mo_wouldHinderMore 49 rfl) mi_Mo_of ms_Mo_of ml_RX11_67 (c_Mo_of (gst G)  e26) rfl rfl ⟨rfl, rfl⟩ rfl ⟨rfl, rfl⟩ ⟨rfl, rfl⟩ ?_
        refine k_aload_n G (dc d_Mo_wouldHinderMore 50 rfl) 1 rfl rfl ?_
        refine k_getR G kc8 (dc d_Mo_wouldHinderMore 51 rfl) (okL_lt hu (o := 0) 0 rfl) (okL_k hu (o := 0) 0 rfl) 17 (by decide) rfl fl_RX11_31 (u + 8) (okL_r hu (o := 0) (c := 8) 0 rfl 7 rfl) ?_
        refine k_iload G (dc d_Mo_wouldHinderMore 52 rfl) 2 rfl ?_
        obtain ⟨x29, e28, h⟩ := kOk_b h
        refine k_ild G (dc d_Mo_wouldHinderMore 53 rfl) (okL_lt hu (o := 8) 8 rfl) (okL_k hu (o := 8) 8 rfl) (okL_n hu (o := 8) 8 rfl) e28 ?_
        obtain ⟨M31, e30, h⟩ := kOk_b h
        refine k_ist G (dc d_Mo_wouldHinderMore 54 rfl) (okL_lt hu (o := 1) 1 rfl) (okL_k hu (o := 1) 1 rfl) (okL_n hu (o := 1) 1 rfl) e30 ?_
        refine k_aload_n G (dc d_Mo_wouldHinderMore 55 rfl) 1 rfl rfl ?_
        refine k_getR G kc8 (dc d_Mo_wouldHinderMore 56 rfl) (okL_lt hu (o := 0) 0 rfl) (okL_k hu (o := 0) 0 rfl) 17 (by decide) rfl fl_RX11_31 (u + 8) (okL_r hu (o := 0) (c := 8) 0 rfl 7 rfl) ?_
        refine k_iload G (dc d_Mo_wouldHinderMore 57 rfl) 2 rfl ?_
        refine k_iload G (dc d_Mo_wouldHinderMore 58 rfl) 0 rfl ?_
        obtain ⟨M33, e32, h⟩ := kOk_b h
        refine k_ist G (dc d_Mo_wouldHinderMore 59 rfl) (okL_lt hu (o := 8) 8 rfl) (okL_k hu (o := 8) 8 rfl) (okL_n hu (o := 8) 8 rfl) e32 ?_
        refine k_iinc G (dc d_Mo_wouldHinderMore 60 rfl) (ls' := [(5, .int (v5_17 + 1)), (6, .int x25), (0, .ref (B.1 + u))]) 2 rfl cI_1 rfl rfl ?_
        refine k_goto G (dc d_Mo_wouldHinderMore 61 rfl) (tgt := 57) rfl ?_
        refine k_sub [2, 0] rfl ?_
        have h9 := kOk_s h
        exact h9
  · refine k_sub [1, 2, 3, 4, 5, 0] rfl ?_
    refine kLp_ok (P := fun s56 => KK X B L 7 0 0 s56.2 7 [(0, .ref (B.1 + u)), (1, .int p0), (2, .int p1), (3, .int p2), (4, .int p3), (5, .int s56.1)] []) (fun s56 h => ?_) kFU _ h
    obtain ⟨v5_3, M4⟩ := s56
    unfold m_Mo_wouldHinderMore_l7 at h
    show KK X B L 7 0 0 M4 7 [(0, .ref (B.1 + u)), (1, .int p0), (2, .int p1), (3, .int p2), (4, .int p3), (5, .int v5_3)] []
    refine k_iload G (dc d_Mo_wouldHinderMore 4 rfl) 5 rfl ?_
    refine k_aload_n G (dc d_Mo_wouldHinderMore 5 rfl) 0 rfl rfl ?_
    refine k_getR G kc8 (dc d_Mo_wouldHinderMore 6 rfl) (okL_lt hu (o := 0) 0 rfl) (okL_k hu (o := 0) 0 rfl) 1 (by decide) rfl fl_RX11_7 (u + 1) (okL_r hu (o := 0) (c := 1) 0 rfl 0 rfl) ?_
    refine k_iconst G (dc d_Mo_wouldHinderMore 7 rfl) cI_0 ?_
    obtain ⟨x6, e5, h⟩ := kOk_b h
    refine k_ild G (dc d_Mo_wouldHinderMore 8 rfl) (okL_lt hu (o := 1) 1 rfl) (okL_k hu (o := 1) 1 rfl) (okL_n hu (o := 1) 1 rfl) e5 ?_
    refine k_icmp_ge G (dc d_Mo_wouldHinderMore 9 rfl) (tgt := 37) rfl (fun c7 => ?_) (fun c7 => ?_)
    · replace h := kOk_p c7 h
      refine k_sub [0, 1, 2, 3, 4] rfl ?_
      have h9 := kOk_s h
      exact h9
    · replace h := kOk_n c7 h
      refine k_aload_n G (dc d_Mo_wouldHinderMore 10 rfl) 0 rfl rfl ?_
      refine k_getR G kc8 (dc d_Mo_wouldHinderMore 11 rfl) (okL_lt hu (o := 0) 0 rfl) (okL_k hu (o := 0) 0 rfl) 17 (by decide) rfl fl_RX11_31 (u + 8) (okL_r hu (o := 0) (c := 8) 0 rfl 7 rfl) ?_
      refine k_iload G (dc d_Mo_wouldHinderMore 12 rfl) 5 rfl ?_
      refine k_aload_n G (dc d_Mo_wouldHinderMore 13 rfl) 0 rfl rfl ?_
      refine k_iload G (dc d_Mo_wouldHinderMore 14 rfl) 5 rfl ?_
      obtain ⟨x9, e8, h⟩ := kOk_b h
      refine k_cVI G (dc d_Mo_wouldHinderMore 15 rfl) kc8 (okL_lt hu (o := 0) 0 rfl) (okL_k hu (o := 0) 0 rfl) mi_Mo_rightOf mv_Mo_rightOf rfl ml_RX11_73 (c_Mo_rightOf (gst G) hu e8) rfl rfl ⟨rfl, rfl⟩ rfl ⟨rfl, rfl⟩ ⟨rfl, rfl⟩ ?_
      obtain ⟨M11, e10, h⟩ := kOk_b h
      refine k_ist G (dc d_Mo_wouldHinderMore 16 rfl) (okL_lt hu (o := 8) 8 rfl) (okL_k hu (o := 8) 8 rfl) (okL_n hu (o := 8) 8 rfl) e10 ?_
      refine k_iinc G (dc d_Mo_wouldHinderMore 17 rfl) (ls' := [(5, .int (v5_3 + 1)), (0, .ref (B.1 + u)), (1, .int p0), (2, .int p1), (3, .int p2), (4, .int p3)]) 5 rfl cI_1 rfl rfl ?_
      refine k_goto G (dc d_Mo_wouldHinderMore 18 rfl) (tgt := 7) rfl ?_
      refine k_sub [1, 2, 3, 4, 5, 0] rfl ?_
      have h9 := kOk_s h
      exact h9
theorem c_Mo_wouldHinderMore {l : Launch} {B : KB} {L : KLay} {M : KMem} {u : Nat} {p0 : Int32} {p1 : Int32} {p2 : Int32} {p3 : Int32} (hst : l.stackTraces = false) (hu : okL L u moT) {r : Int32} {M' : KMem} (e : m_Mo_wouldHinderMore u p0 p1 p2 p3 M = some (r, M')) : CtrN l B yX11_wouldHinderMore cX11_wouldHinderMore 7 (some .int) rm_Mo_wouldHinderMore [.ref (B.1 + u), .int p0, .int p1, .int p2, .int p3] L M (some (.int r)) L M' :=
  mk_I rfl hst rfl (fun X hl G _ R => b_Mo_wouldHinderMore G hu ⟨_, e, R⟩)
def I_Mo_wouldHinder : List (Nat × Instr × Nat) := [(0, .aload_n 0, 1), (1, .getfield 7, 3), (4, .bipush 41, 2), (6, .iaload, 1), (7, .bipush 10, 2), (9, .if_icmp .ne 13, 3), (12, .aload_n 0, 1), (13, .iload_n 1, 1), (14, .iload_n 2, 1), (15, .iload_n 3, 1), (16, .iload 4, 2), (18, .invokevirtual 222, 3), (21, .ireturn, 1), (22, .aload_n 0, 1), (23, .iload_n 1, 1), (24, .iload_n 2, 1), (25, .iload_n 3, 1), (26, .iload 4, 2), (28, .invokevirtual 134, 3), (31, .istore 5, 2), (33, .aload_n 0, 1), (34, .getfield 7, 3), (37, .bipush 41, 2), (39, .dup2, 1), (40, .iaload, 1), (41, .iload 5, 2), (43, .ifCond .ne 7, 3), (46, .iconst 1, 1), (47, .goto 4, 3), (50, .iconst 0, 1), (51, .isub, 1), (52, .iastore, 1), (53, .iload 5, 2), (55, .ireturn, 1)]
set_option maxRecDepth 100000 in
theorem d_Mo_wouldHinder : decA cX11_wouldHinder I_Mo_wouldHinder = true := by decide +kernel
abbrev rm_Mo_wouldHinder : Room := ({ frames := 7, cells := 0, slots := 0, locals := 173 } : Room)
def m_Mo_wouldHinder (u : Nat) (p0 : Int32) (p1 : Int32) (p2 : Int32) (p3 : Int32) (M : KMem) : Option (Int32 × KMem) :=
 Option.bind (rdI M (u + 1) 108 41) fun x2 =>
 if x2 = 10 then
 (Option.bind (m_Mo_wouldHinderMore u p0 p1 p2 p3 M) fun (x15, M16) =>
 some (x15, M16))
 else
 (Option.bind (m_Mo_gives u p0 p1 p2 p3 M) fun (x5, M6) =>
 Option.bind (rdI M6 (u + 1) 108 41) fun x8 =>
 Option.bind (α := Int32) (if x5 = 0 then
 (some 1)
 else
 (some 0)) fun t9 =>
 Option.bind (wrI M6 (u + 1) 108 41 (x8 - t9)) fun M12 =>
 some (x5, M12))
set_option maxHeartbeats 4000000 in
set_option maxRecDepth 100000 in
theorem b_Mo_wouldHinder {X : KX} {B : KB} {L : KLay} {M : KMem} {u : Nat} {p0 : Int32} {p1 : Int32} {p2 : Int32} {p3 : Int32} (G : Good X B RX11 cX11_wouldHinder 6 rm_Mo_wouldHinder) (hu : okL L u moT) (h : kOk (m_Mo_wouldHinder u p0 p1 p2 p3 M) (fun r => RI X B L 6 cX11_wouldHinder .int rm_Mo_wouldHinder r.1 r.2)) : KK X B L 6 0 0 M 0 [(0, .ref (B.1 + u)), (1, .int p0), (2, .int p1), (3, .int p2), (4, .int p3)] [] := by
  unfold m_Mo_wouldHinder at h
  refine k_aload_n G (dc d_Mo_wouldHinder 0 rfl) 0 rfl rfl ?_
  refine k_getR G kc8 (dc d_Mo_wouldHinder 1 rfl) (okL_lt hu (o := 0) 0 rfl) (okL_k hu (o := 0) 0 rfl) 1 (by decide) rfl fl_RX11_7 (u + 1) (okL_r hu (o := 0) (c := 1) 0 rfl 0 rfl) ?_
  refine k_bipush G (dc d_Mo_wouldHinder 2 rfl) cB_41 ?_
  obtain ⟨x2, e1, h⟩ := kOk_b h
  refine k_ild G (dc d_Mo_wouldHinder 3 rfl) (okL_lt hu (o := 1) 1 rfl) (okL_k hu (o := 1) 1 rfl) (okL_n hu (o := 1) 1 rfl) e1 ?_
  refine k_bipush G (dc d_Mo_wouldHinder 4 rfl) cB_10 ?_
  refine k_icmp_ne G (dc d_Mo_wouldHinder 5 rfl) (tgt := 22) rfl (fun c3 => ?_) (fun c3 => ?_)
  · replace h := kOk_n c3 h
    refine k_aload_n G (dc d_Mo_wouldHinder 13 rfl) 0 rfl rfl ?_
    refine k_iload_n G (dc d_Mo_wouldHinder 14 rfl) 1 rfl rfl ?_
    refine k_iload_n G (dc d_Mo_wouldHinder 15 rfl) 2 rfl rfl ?_
    refine k_iload_n G (dc d_Mo_wouldHinder 16 rfl) 3 rfl rfl ?_
    refine k_iload G (dc d_Mo_wouldHinder 17 rfl) 4 rfl ?_
    obtain ⟨⟨x5, M6⟩, e4, h⟩ := kOk_b h
    refine k_cVI G (dc d_Mo_wouldHinder 18 rfl) kc8 (okL_lt hu (o := 0) 0 rfl) (okL_k hu (o := 0) 0 rfl) mi_Mo_gives mv_Mo_gives rfl ml_RX11_134 (c_Mo_gives (gst G) hu e4) rfl rfl ⟨rfl, rfl⟩ rfl ⟨rfl, rfl⟩ ⟨rfl, rfl⟩ ?_
    refine k_istore G (dc d_Mo_wouldHinder 19 rfl) (ls' := [(5, .int x5), (0, .ref (B.1 + u)), (1, .int p0), (2, .int p1), (3, .int p2), (4, .int p3)]) rfl rfl ?_
    refine k_aload_n G (dc d_Mo_wouldHinder 20 rfl) 1 rfl rfl ?_
    refine k_getR G kc8 (dc d_Mo_wouldHinder 21 rfl) (okL_lt hu (o := 0) 0 rfl) (okL_k hu (o := 0) 0 rfl) 1 (by decide) rfl fl_RX11_7 (u + 1) (okL_r hu (o := 0) (c := 1) 0 rfl 0 rfl) ?_
    refine k_bipush G (dc d_Mo_wouldHinder 22 rfl) cB_41 ?_
    refine k_dup2 G (dc d_Mo_wouldHinder 23 rfl) rfl rfl ?_
    obtain ⟨x8, e7, h⟩ := kOk_b h
    refine k_ild G (dc d_Mo_wouldHinder 24 rfl) (okL_lt hu (o := 1) 1 rfl) (okL_k hu (o := 1) 1 rfl) (okL_n hu (o := 1) 1 rfl) e7 ?_
    refine k_iload G (dc d_Mo_wouldHinder 25 rfl) 0 rfl ?_
    refine kJ h (fun r10 => KK X B L 6 0 0 M6 51 [(5, .int x5)] [.int r10, .int x8, .int 41, .ref (B.1 + (u + 1))]) (fun r10 h => ?_) (fun h => ?_)
    · obtain ⟨t9, rfl⟩ : ∃ z, z = r10 := ⟨_, rfl⟩
      show KK X B L 6 0 0 M6 51 [(5, .int x5)] [.int t9, .int x8, .int 41, .ref (B.1 + (u + 1))]
      refine k_isub G (dc d_Mo_wouldHinder 30 rfl) ?_
      obtain ⟨M12, e11, h⟩ := kOk_b h
      refine k_ist G (dc d_Mo_wouldHinder 31 rfl) (okL_lt hu (o := 1) 1 rfl) (okL_k hu (o := 1) 1 rfl) (okL_n hu (o := 1) 1 rfl) e11 ?_
      refine k_iload G (dc d_Mo_wouldHinder 32 rfl) 0 rfl ?_
      exact (kOk_s h) _ _ _ _ rfl rfl rfl (dc d_Mo_wouldHinder 33 rfl)
    · refine k_if_ne G (dc d_Mo_wouldHinder 26 rfl) (tgt := 50) rfl (fun c13 => ?_) (fun c13 => ?_)
      · replace h := kOk_n c13 h
        refine k_iconst G (dc d_Mo_wouldHinder 29 rfl) cI_0 ?_
        refine k_sub [0] rfl ?_
        have h9 := kOk_s h
        exact h9
      · replace h := kOk_p c13 h
        refine k_iconst G (dc d_Mo_wouldHinder 27 rfl) cI_1 ?_
        refine k_goto G (dc d_Mo_wouldHinder 28 rfl) (tgt := 51) rfl ?_
        refine k_sub [0] rfl ?_
        have h9 := kOk_s h
        exact h9
  · replace h := kOk_p c3 h
    refine k_aload_n G (dc d_Mo_wouldHinder 6 rfl) 0 rfl rfl ?_
    refine k_iload_n G (dc d_Mo_wouldHinder 7 rfl) 1 rfl rfl ?_
    refine k_iload_n G (dc d_Mo_wouldHinder 8 rfl) 2 rfl rfl ?_
    refine k_iload_n G (dc d_Mo_wouldHinder 9 rfl) 3 rfl rfl ?_
    refine k_iload G (dc d_Mo_wouldHinder 10 rfl) 4 rfl ?_
    obtain ⟨⟨x15, M16⟩, e14, h⟩ := kOk_b h
    refine k_cVI G (dc d_Mo_wouldHinder 11 rfl) kc8 (okL_lt hu (o := 0) 0 rfl) (okL_k hu (o := 0) 0 rfl) mi_Mo_wouldHinderMore mv_Mo_wouldHinderMore rfl ml_RX11_222 (c_Mo_wouldHinderMore (gst G) hu e14) rfl rfl ⟨rfl, rfl⟩ rfl ⟨rfl, rfl⟩ ⟨rfl, rfl⟩ ?_
    exact (kOk_s h) _ _ _ _ rfl rfl rfl (dc d_Mo_wouldHinder 12 rfl)
theorem c_Mo_wouldHinder {l : Launch} {B : KB} {L : KLay} {M : KMem} {u : Nat} {p0 : Int32} {p1 : Int32} {p2 : Int32} {p3 : Int32} (hst : l.stackTraces = false) (hu : okL L u moT) {r : Int32} {M' : KMem} (e : m_Mo_wouldHinder u p0 p1 p2 p3 M = some (r, M')) : CtrN l B yX11_wouldHinder cX11_wouldHinder 6 (some .int) rm_Mo_wouldHinder [.ref (B.1 + u), .int p0, .int p1, .int p2, .int p3] L M (some (.int r)) L M' :=
  mk_I rfl hst rfl (fun X hl G _ R => b_Mo_wouldHinder G hu ⟨_, e, R⟩)
def I_Mo_why : List (Nat × Instr × Nat) := [(0, .aload_n 0, 1), (1, .iload_n 1, 1), (2, .iload_n 2, 1), (3, .iload_n 3, 1), (4, .iload 4, 2), (6, .invokestatic 111, 3), (9, .ifCond .eq 7, 3), (12, .iconst 0, 1), (13, .goto 4, 3), (16, .iconst 1, 1), (17, .invokevirtual 164, 3), (20, .ifCond .eq 15, 3), (23, .aload_n 0, 1), (24, .iload_n 1, 1), (25, .iload_n 2, 1), (26, .iload_n 3, 1), (27, .iload 4, 2), (29, .invokevirtual 225, 3), (32, .goto 4, 3), (35, .iconst 0, 1), (36, .ireturn, 1)]
set_option maxRecDepth 100000 in
theorem d_Mo_why : decA cX11_why I_Mo_why = true := by decide +kernel
abbrev rm_Mo_why : Room := ({ frames := 8, cells := 0, slots := 0, locals := 198 } : Room)
def m_Mo_why (u : Nat) (p0 : Int32) (p1 : Int32) (p2 : Int32) (p3 : Int32) (M : KMem) : Option (Int32 × KMem) :=
 Option.bind (m_Mo_areArguments p0 p1 p2 p3) fun x2 =>
 Option.bind (α := Int32) (if x2 = 0 then
 (some 1)
 else
 (some 0)) fun t3 =>
 Option.bind (m_Mo_holds u t3 M) fun (x6, M7) =>
 Option.bind (α := Int32 × KMem) (if x6 = 0 then
 (some (0, M7))
 else
 (Option.bind (m_Mo_wouldHinder u p0 p1 p2 p3 M7) fun (x13, M14) =>
 some (x13, M14))) fun (t8, M9) =>
 some (t8, M9)
set_option maxHeartbeats 4000000 in
set_option maxRecDepth 100000 in
theorem b_Mo_why {X : KX} {B : KB} {L : KLay} {M : KMem} {u : Nat} {p0 : Int32} {p1 : Int32} {p2 : Int32} {p3 : Int32} (G : Good X B RX11 cX11_why 5 rm_Mo_why) (hu : okL L u moT) (h : kOk (m_Mo_why u p0 p1 p2 p3 M) (fun r => RI X B L 5 cX11_why .int rm_Mo_why r.1 r.2)) : KK X B L 5 0 0 M 0 [(0, .ref (B.1 + u)), (1, .int p0), (2, .int p1), (3, .int p2), (4, .int p3)] [] := by
  unfold m_Mo_why at h
  refine k_aload_n G (dc d_Mo_why 0 rfl) 0 rfl rfl ?_
  refine k_iload_n G (dc d_Mo_why 1 rfl) 1 rfl rfl ?_
  refine k_iload_n G (dc d_Mo_why 2 rfl) 2 rfl rfl ?_
  refine k_iload_n G (dc d_Mo_why 3 rfl) 3 rfl rfl ?_
  refine k_iload G (dc d_Mo_why 4 rfl) 4 rfl ?_
  obtain ⟨x2, e1, h⟩ := kOk_b h
  refine k_cSI G (dc d_Mo_why 5 rfl) mi_Mo_areArguments ms_Mo_areArguments ml_RX11_111 (c_Mo_areArguments (gst G)  e1) rfl rfl ⟨rfl, rfl⟩ rfl ⟨rfl, rfl⟩ ⟨rfl, rfl⟩ ?_
  refine kJ h (fun r4 => KK X B L 5 0 0 M 17 [(0, .ref (B.1 + u)), (1, .int p0), (2, .int p1), (3, .int p2), (4, .int p3)] [.int r4, .ref (B.1 + u)]) (fun r4 h => ?_) (fun h => ?_)
  · obtain ⟨t3, rfl⟩ : ∃ z, z = r4 := ⟨_, rfl⟩
    show KK X B L 5 0 0 M 17 [(0, .ref (B.1 + u)), (1, .int p0), (2, .int p1), (3, .int p2), (4, .int p3)] [.int t3, .ref (B.1 + u)]
    obtain ⟨⟨x6, M7⟩, e5, h⟩ := kOk_b h
    refine k_cVI G (dc d_Mo_why 10 rfl) kc8 (okL_lt hu (o := 0) 0 rfl) (okL_k hu (o := 0) 0 rfl) mi_Mo_holds mv_Mo_holds rfl ml_RX11_164 (c_Mo_holds (gst G) hu e5) rfl rfl ⟨rfl, rfl⟩ rfl ⟨rfl, rfl⟩ ⟨rfl, rfl⟩ ?_
    refine kJ h (fun r10 => KK X B L 5 0 0 r10.2 36 [] [.int r10.1]) (fun r10 h => ?_) (fun h => ?_)
    · obtain ⟨t8, M9⟩ := r10
      show KK X B L 5 0 0 M9 36 [] [.int t8]
      exact (kOk_s h) _ _ _ _ rfl rfl rfl (dc d_Mo_why 20 rfl)
    · refine k_if_eq G (dc d_Mo_why 11 rfl) (tgt := 35) rfl (fun c11 => ?_) (fun c11 => ?_)
      · replace h := kOk_p c11 h
        refine k_iconst G (dc d_Mo_why 19 rfl) cI_0 ?_
        refine k_sub [] rfl ?_
        have h9 := kOk_s h
        exact h9
      · replace h := kOk_n c11 h
        refine k_aload_n G (dc d_Mo_why 12 rfl) 0 rfl rfl ?_
        refine k_iload_n G (dc d_Mo_why 13 rfl) 1 rfl rfl ?_
        refine k_iload_n G (dc d_Mo_why 14 rfl) 2 rfl rfl ?_
        refine k_iload_n G (dc d_Mo_why 15 rfl) 3 rfl rfl ?_
        refine k_iload G (dc d_Mo_why 16 rfl) 4 rfl ?_
        obtain ⟨⟨x13, M14⟩, e12, h⟩ := kOk_b h
        refine k_cVI G (dc d_Mo_why 17 rfl) kc8 (okL_lt hu (o := 0) 0 rfl) (okL_k hu (o := 0) 0 rfl) mi_Mo_wouldHinder mv_Mo_wouldHinder rfl ml_RX11_225 (c_Mo_wouldHinder (gst G) hu e12) rfl rfl ⟨rfl, rfl⟩ rfl ⟨rfl, rfl⟩ ⟨rfl, rfl⟩ ?_
        refine k_goto G (dc d_Mo_why 18 rfl) (tgt := 36) rfl ?_
        refine k_sub [] rfl ?_
        have h9 := kOk_s h
        exact h9
  · refine k_if_eq G (dc d_Mo_why 6 rfl) (tgt := 16) rfl (fun c15 => ?_) (fun c15 => ?_)
    · replace h := kOk_p c15 h
      refine k_iconst G (dc d_Mo_why 9 rfl) cI_1 ?_
      have h9 := kOk_s h
      exact h9
    · replace h := kOk_n c15 h
      refine k_iconst G (dc d_Mo_why 7 rfl) cI_0 ?_
      refine k_goto G (dc d_Mo_why 8 rfl) (tgt := 17) rfl ?_
      have h9 := kOk_s h
      exact h9
theorem c_Mo_why {l : Launch} {B : KB} {L : KLay} {M : KMem} {u : Nat} {p0 : Int32} {p1 : Int32} {p2 : Int32} {p3 : Int32} (hst : l.stackTraces = false) (hu : okL L u moT) {r : Int32} {M' : KMem} (e : m_Mo_why u p0 p1 p2 p3 M = some (r, M')) : CtrN l B yX11_why cX11_why 5 (some .int) rm_Mo_why [.ref (B.1 + u), .int p0, .int p1, .int p2, .int p3] L M (some (.int r)) L M' :=
  mk_I rfl hst rfl (fun X hl G _ R => b_Mo_why G hu ⟨_, e, R⟩)
def I_Mo_droppable : List (Nat × Instr × Nat) := [(0, .aload_n 0, 1), (1, .iconst 0, 1), (2, .putfield 37, 3), (5, .iconst 0, 1), (6, .istore_n 1, 1), (7, .iconst 1, 1), (8, .istore_n 2, 1), (9, .iload_n 2, 1), (10, .bipush 6, 2), (12, .if_icmp .gt 32, 3), (15, .iload_n 1, 1), (16, .aload_n 0, 1), (17, .iconst 0, 1), (18, .iload_n 2, 1), (19, .iconst 0, 1), (20, .iconst 0, 1), (21, .invokevirtual 225, 3), (24, .ifCond .ne 11, 3), (27, .iconst 1, 1), (28, .iload_n 2, 1), (29, .iconst 1, 1), (30, .isub, 1), (31, .ishl, 1), (32, .goto 4, 3), (35, .iconst 0, 1), (36, .ior, 1), (37, .istore_n 1, 1), (38, .iinc 2 1, 3), (41, .goto (-32), 3), (44, .iload_n 1, 1), (45, .ireturn, 1)]
set_option maxRecDepth 100000 in
theorem d_Mo_droppable : decA cX11_droppable I_Mo_droppable = true := by decide +kernel
abbrev rm_Mo_droppable : Room := ({ frames := 8, cells := 0, slots := 0, locals := 198 } : Room)
def m_Mo_droppable_l9 (u : Nat) : (Int32 × Int32 × KMem) → Option ((Int32 × Int32 × KMem) ⊕ (Int32 × KMem)) := fun (v1_3, v2_4, M5) =>
 if 6 < v2_4 then
 (some (.inr (v1_3, M5)))
 else
 (Option.bind (m_Mo_wouldHinder u 0 v2_4 0 0 M5) fun (x8, M9) =>
 Option.bind (α := Int32) (if x8 = 0 then
 (some (jshl 1 (v2_4 - 1)))
 else
 (some 0)) fun t10 =>
 some (.inl (v1_3 ||| t10, v2_4 + 1, M9)))
def m_Mo_droppable (u : Nat) (M : KMem) : Option (Int32 × KMem) :=
 Option.bind (some (kup M u 0 0)) fun M2 =>
 Option.bind (α := Int32 × KMem) (kLp (m_Mo_droppable_l9 u) kFU (0, 1, M2)) fun (v1_13, M14) =>
 some (v1_13, M14)
set_option maxHeartbeats 4000000 in
set_option maxRecDepth 100000 in
theorem b_Mo_droppable {X : KX} {B : KB} {L : KLay} {M : KMem} {u : Nat} (G : Good X B RX11 cX11_droppable 3 rm_Mo_droppable) (hu : okL L u moT) (h : kOk (m_Mo_droppable u M) (fun r => RI X B L 3 cX11_droppable .int rm_Mo_droppable r.1 r.2)) : KK X B L 3 0 0 M 0 [(0, .ref (B.1 + u))] [] := by
  unfold m_Mo_droppable at h
  refine k_aload_n G (dc d_Mo_droppable 0 rfl) 0 rfl rfl ?_
  refine k_iconst G (dc d_Mo_droppable 1 rfl) cI_0 ?_
  obtain ⟨M2, e1, h⟩ := kOk_b h
  refine k_putI G kc8 (dc d_Mo_droppable 2 rfl) (okL_lt hu (o := 0) 0 rfl) (okL_k hu (o := 0) 0 rfl) 0 (by decide) rfl rfl fl_RX11_37 rfl rfl e1 ?_
  refine k_iconst G (dc d_Mo_droppable 3 rfl) cI_0 ?_
  refine k_istore_n G (dc d_Mo_droppable 4 rfl) (ls' := [(1, .int 0), (0, .ref (B.1 + u))]) rfl rfl rfl ?_
  refine k_iconst G (dc d_Mo_droppable 5 rfl) cI_1 ?_
  refine k_istore_n G (dc d_Mo_droppable 6 rfl) (ls' := [(2, .int 1), (1, .int 0), (0, .ref (B.1 + u))]) rfl rfl rfl ?_
  refine kJ h (fun r15 => KK X B L 3 0 0 r15.2 44 [(1, .int r15.1)] []) (fun r15 h => ?_) (fun h => ?_)
  · obtain ⟨v1_13, M14⟩ := r15
    show KK X B L 3 0 0 M14 44 [(1, .int v1_13)] []
    refine k_iload_n G (dc d_Mo_droppable 29 rfl) 0 rfl rfl ?_
    exact (kOk_s h) _ _ _ _ rfl rfl rfl (dc d_Mo_droppable 30 rfl)
  · refine k_sub [2, 1, 0] rfl ?_
    refine kLp_ok (P := fun s16 => KK X B L 3 0 0 s16.2.2 9 [(0, .ref (B.1 + u)), (1, .int s16.1), (2, .int s16.2.1)] []) (fun s16 h => ?_) kFU _ h
    obtain ⟨v1_3, v2_4, M5⟩ := s16
    unfold m_Mo_droppable_l9 at h
    show KK X B L 3 0 0 M5 9 [(0, .ref (B.1 + u)), (1, .int v1_3), (2, .int v2_4)] []
    refine k_iload_n G (dc d_Mo_droppable 7 rfl) 2 rfl rfl ?_
    refine k_bipush G (dc d_Mo_droppable 8 rfl) cB_6 ?_
    refine k_icmp_gt G (dc d_Mo_droppable 9 rfl) (tgt := 44) rfl (fun c6 => ?_) (fun c6 => ?_)
    · replace h := kOk_p c6 h
      refine k_sub [1] rfl ?_
      have h9 := kOk_s h
      exact h9
    · replace h := kOk_n c6 h
      refine k_iload_n G (dc d_Mo_droppable 10 rfl) 1 rfl rfl ?_
      refine k_aload_n G (dc d_Mo_droppable 11 rfl) 0 rfl rfl ?_
      refine k_iconst G (dc d_Mo_droppable 12 rfl) cI_0 ?_
      refine k_iload_n G (dc d_Mo_droppable 13 rfl) 2 rfl rfl ?_
      refine k_iconst G (dc d_Mo_droppable 14 rfl) cI_0 ?_
      refine k_iconst G (dc d_Mo_droppable 15 rfl) cI_0 ?_
      obtain ⟨⟨x8, M9⟩, e7, h⟩ := kOk_b h
      refine k_cVI G (dc d_Mo_droppable 16 rfl) kc8 (okL_lt hu (o := 0) 0 rfl) (okL_k hu (o := 0) 0 rfl) mi_Mo_wouldHinder mv_Mo_wouldHinder rfl ml_RX11_225 (c_Mo_wouldHinder (gst G) hu e7) rfl rfl ⟨rfl, rfl⟩ rfl ⟨rfl, rfl⟩ ⟨rfl, rfl⟩ ?_
      refine kJ h (fun r11 => KK X B L 3 0 0 M9 36 [(0, .ref (B.1 + u)), (2, .int v2_4)] [.int r11, .int v1_3]) (fun r11 h => ?_) (fun h => ?_)
      · obtain ⟨t10, rfl⟩ : ∃ z, z = r11 := ⟨_, rfl⟩
        show KK X B L 3 0 0 M9 36 [(0, .ref (B.1 + u)), (2, .int v2_4)] [.int t10, .int v1_3]
        refine k_ior G (dc d_Mo_droppable 25 rfl) ?_
        refine k_istore_n G (dc d_Mo_droppable 26 rfl) (ls' := [(1, .int (v1_3 ||| t10)), (0, .ref (B.1 + u)), (2, .int v2_4)]) rfl rfl rfl ?_
        refine k_iinc G (dc d_Mo_droppable 27 rfl) (ls' := [(2, .int (v2_4 + 1)), (1, .int (v1_3 ||| t10)), (0, .ref (B.1 + u))]) 2 rfl cI_1 rfl rfl ?_
        refine k_goto G (dc d_Mo_droppable 28 rfl) (tgt := 9) rfl ?_
        refine k_sub [2, 1, 0] rfl ?_
        have h9 := kOk_s h
        exact h9
      · refine k_if_ne G (dc d_Mo_droppable 17 rfl) (tgt := 35) rfl (fun c12 => ?_) (fun c12 => ?_)
        · replace h := kOk_n c12 h
          refine k_iconst G (dc d_Mo_droppable 24 rfl) cI_0 ?_
          refine k_sub [0, 2] rfl ?_
          have h9 := kOk_s h
          exact h9
        · replace h := kOk_p c12 h
          refine k_iconst G (dc d_Mo_droppable 18 rfl) cI_1 ?_
          refine k_iload_n G (dc d_Mo_droppable 19 rfl) 2 rfl rfl ?_
          refine k_iconst G (dc d_Mo_droppable 20 rfl) cI_1 ?_
          refine k_isub G (dc d_Mo_droppable 21 rfl) ?_
          refine k_ishl G (dc d_Mo_droppable 22 rfl) ?_
          refine k_goto G (dc d_Mo_droppable 23 rfl) (tgt := 36) rfl ?_
          refine k_sub [0, 2] rfl ?_
          have h9 := kOk_s h
          exact h9
theorem c_Mo_droppable {l : Launch} {B : KB} {L : KLay} {M : KMem} {u : Nat} (hst : l.stackTraces = false) (hu : okL L u moT) {r : Int32} {M' : KMem} (e : m_Mo_droppable u M = some (r, M')) : CtrN l B yX11_droppable cX11_droppable 3 (some .int) rm_Mo_droppable [.ref (B.1 + u)] L M (some (.int r)) L M' :=
  mk_I rfl hst rfl (fun X hl G _ R => b_Mo_droppable G hu ⟨_, e, R⟩)
def I_Mo_apart : List (Nat × Instr × Nat) := [(0, .aload_n 0, 1), (1, .aload_n 0, 1), (2, .iload_n 1, 1), (3, .invokevirtual 146, 3), (6, .ifCond .eq 15, 3), (9, .aload_n 0, 1), (10, .iload_n 2, 1), (11, .invokevirtual 146, 3), (14, .ifCond .eq 7, 3), (17, .iconst 0, 1), (18, .goto 4, 3), (21, .iconst 1, 1), (22, .invokevirtual 164, 3), (25, .ifCond .eq 20, 3), (28, .aload_n 0, 1), (29, .aload_n 0, 1), (30, .iload_n 1, 1), (31, .invokevirtual 73, 3), (34, .aload_n 0, 1), (35, .iload_n 2, 1), (36, .invokevirtual 73, 3), (39, .invokevirtual 79, 3), (42, .goto 4, 3), (45, .iconst 0, 1), (46, .ireturn, 1)]
set_option maxRecDepth 100000 in
theorem d_Mo_apart : decA cX11_apart I_Mo_apart = true := by decide +kernel
abbrev rm_Mo_apart : Room := ({ frames := 5, cells := 0, slots := 0, locals := 122 } : Room)
def m_Mo_apart (u : Nat) (p0 : Int32) (p1 : Int32) (M : KMem) : Option (Int32 × KMem) :=
 Option.bind (m_Mo_isSign u p0 M) fun x2 =>
 Option.bind (α := Int32) (if x2 = 0 then
 (some 1)
 else
 (Option.bind (m_Mo_isSign u p1 M) fun x21 =>
 if x21 = 0 then
 (some 1)
 else
 (some 0))) fun t3 =>
 Option.bind (m_Mo_holds u t3 M) fun (x6, M7) =>
 Option.bind (α := Int32 × KMem) (if x6 = 0 then
 (some (0, M7))
 else
 (Option.bind (m_Mo_rightOf u p0 M7) fun x13 =>
 Option.bind (m_Mo_rightOf u p1 M7) fun x15 =>
 Option.bind (m_Mo_apartOf u x13 x15 M7) fun (x17, M18) =>
 some (x17, M18))) fun (t8, M9) =>
 some (t8, M9)
set_option maxHeartbeats 4000000 in
set_option maxRecDepth 100000 in
theorem b_Mo_apart {X : KX} {B : KB} {L : KLay} {M : KMem} {u : Nat} {p0 : Int32} {p1 : Int32} (G : Good X B RX11 cX11_apart 3 rm_Mo_apart) (hu : okL L u moT) (h : kOk (m_Mo_apart u p0 p1 M) (fun r => RI X B L 3 cX11_apart .int rm_Mo_apart r.1 r.2)) : KK X B L 3 0 0 M 0 [(0, .ref (B.1 + u)), (1, .int p0), (2, .int p1)] [] := by
  unfold m_Mo_apart at h
  refine k_aload_n G (dc d_Mo_apart 0 rfl) 0 rfl rfl ?_
  refine k_aload_n G (dc d_Mo_apart 1 rfl) 0 rfl rfl ?_
  refine k_iload_n G (dc d_Mo_apart 2 rfl) 1 rfl rfl ?_
  obtain ⟨x2, e1, h⟩ := kOk_b h
  refine k_cVI G (dc d_Mo_apart 3 rfl) kc8 (okL_lt hu (o := 0) 0 rfl) (okL_k hu (o := 0) 0 rfl) mi_Mo_isSign mv_Mo_isSign rfl ml_RX11_146 (c_Mo_isSign (gst G) hu e1) rfl rfl ⟨rfl, rfl⟩ rfl ⟨rfl, rfl⟩ ⟨rfl, rfl⟩ ?_
  refine kJ h (fun r4 => KK X B L 3 0 0 M 22 [(0, .ref (B.1 + u)), (1, .int p0), (2, .int p1)] [.int r4, .ref (B.1 + u)]) (fun r4 h => ?_) (fun h => ?_)
  · obtain ⟨t3, rfl⟩ : ∃ z, z = r4 := ⟨_, rfl⟩
    show KK X B L 3 0 0 M 22 [(0, .ref (B.1 + u)), (1, .int p0), (2, .int p1)] [.int t3, .ref (B.1 + u)]
    obtain ⟨⟨x6, M7⟩, e5, h⟩ := kOk_b h
    refine k_cVI G (dc d_Mo_apart 12 rfl) kc8 (okL_lt hu (o := 0) 0 rfl) (okL_k hu (o := 0) 0 rfl) mi_Mo_holds mv_Mo_holds rfl ml_RX11_164 (c_Mo_holds (gst G) hu e5) rfl rfl ⟨rfl, rfl⟩ rfl ⟨rfl, rfl⟩ ⟨rfl, rfl⟩ ?_
    refine kJ h (fun r10 => KK X B L 3 0 0 r10.2 46 [] [.int r10.1]) (fun r10 h => ?_) (fun h => ?_)
    · obtain ⟨t8, M9⟩ := r10
      show KK X B L 3 0 0 M9 46 [] [.int t8]
      exact (kOk_s h) _ _ _ _ rfl rfl rfl (dc d_Mo_apart 24 rfl)
    · refine k_if_eq G (dc d_Mo_apart 13 rfl) (tgt := 45) rfl (fun c11 => ?_) (fun c11 => ?_)
      · replace h := kOk_p c11 h
        refine k_iconst G (dc d_Mo_apart 23 rfl) cI_0 ?_
        refine k_sub [] rfl ?_
        have h9 := kOk_s h
        exact h9
      · replace h := kOk_n c11 h
        refine k_aload_n G (dc d_Mo_apart 14 rfl) 0 rfl rfl ?_
        refine k_aload_n G (dc d_Mo_apart 15 rfl) 0 rfl rfl ?_
        refine k_iload_n G (dc d_Mo_apart 16 rfl) 1 rfl rfl ?_
        obtain ⟨x13, e12, h⟩ := kOk_b h
        refine k_cVI G (dc d_Mo_apart 17 rfl) kc8 (okL_lt hu (o := 0) 0 rfl) (okL_k hu (o := 0) 0 rfl) mi_Mo_rightOf mv_Mo_rightOf rfl ml_RX11_73 (c_Mo_rightOf (gst G) hu e12) rfl rfl ⟨rfl, rfl⟩ rfl ⟨rfl, rfl⟩ ⟨rfl, rfl⟩ ?_
        refine k_aload_n G (dc d_Mo_apart 18 rfl) 0 rfl rfl ?_
        refine k_iload_n G (dc d_Mo_apart 19 rfl) 2 rfl rfl ?_
        obtain ⟨x15, e14, h⟩ := kOk_b h
        refine k_cVI G (dc d_Mo_apart 20 rfl) kc8 (okL_lt hu (o := 0) 0 rfl) (okL_k hu (o := 0) 0 rfl) mi_Mo_rightOf mv_Mo_rightOf rfl ml_RX11_73 (c_Mo_rightOf (gst G) hu e14) rfl rfl ⟨rfl, rfl⟩ rfl ⟨rfl, rfl⟩ ⟨rfl, rfl⟩ ?_
        obtain ⟨⟨x17, M18⟩, e16, h⟩ := kOk_b h
        refine k_cVI G (dc d_Mo_apart 21 rfl) kc8 (okL_lt hu (o := 0) 0 rfl) (okL_k hu (o := 0) 0 rfl) mi_Mo_apartOf mv_Mo_apartOf rfl ml_RX11_79 (c_Mo_apartOf (gst G) hu e16) rfl rfl ⟨rfl, rfl⟩ rfl ⟨rfl, rfl⟩ ⟨rfl, rfl⟩ ?_
        refine k_goto G (dc d_Mo_apart 22 rfl) (tgt := 46) rfl ?_
        refine k_sub [] rfl ?_
        have h9 := kOk_s h
        exact h9
  · refine k_if_eq G (dc d_Mo_apart 4 rfl) (tgt := 21) rfl (fun c19 => ?_) (fun c19 => ?_)
    · replace h := kOk_p c19 h
      refine k_iconst G (dc d_Mo_apart 11 rfl) cI_1 ?_
      have h9 := kOk_s h
      exact h9
    · replace h := kOk_n c19 h
      refine k_aload_n G (dc d_Mo_apart 5 rfl) 0 rfl rfl ?_
      refine k_iload_n G (dc d_Mo_apart 6 rfl) 2 rfl rfl ?_
      obtain ⟨x21, e20, h⟩ := kOk_b h
      refine k_cVI G (dc d_Mo_apart 7 rfl) kc8 (okL_lt hu (o := 0) 0 rfl) (okL_k hu (o := 0) 0 rfl) mi_Mo_isSign mv_Mo_isSign rfl ml_RX11_146 (c_Mo_isSign (gst G) hu e20) rfl rfl ⟨rfl, rfl⟩ rfl ⟨rfl, rfl⟩ ⟨rfl, rfl⟩ ?_
      refine k_if_eq G (dc d_Mo_apart 8 rfl) (tgt := 21) rfl (fun c22 => ?_) (fun c22 => ?_)
      · replace h := kOk_p c22 h
        refine k_iconst G (dc d_Mo_apart 11 rfl) cI_1 ?_
        have h9 := kOk_s h
        exact h9
      · replace h := kOk_n c22 h
        refine k_iconst G (dc d_Mo_apart 9 rfl) cI_0 ?_
        refine k_goto G (dc d_Mo_apart 10 rfl) (tgt := 22) rfl ?_
        have h9 := kOk_s h
        exact h9
theorem c_Mo_apart {l : Launch} {B : KB} {L : KLay} {M : KMem} {u : Nat} {p0 : Int32} {p1 : Int32} (hst : l.stackTraces = false) (hu : okL L u moT) {r : Int32} {M' : KMem} (e : m_Mo_apart u p0 p1 M = some (r, M')) : CtrN l B yX11_apart cX11_apart 3 (some .int) rm_Mo_apart [.ref (B.1 + u), .int p0, .int p1] L M (some (.int r)) L M' :=
  mk_I rfl hst rfl (fun X hl G _ R => b_Mo_apart G hu ⟨_, e, R⟩)
def I_Mo_paidBy : List (Nat × Instr × Nat) := [(0, .iload_n 1, 1), (1, .istore_n 2, 1), (2, .iconst 0, 1), (3, .istore_n 3, 1), (4, .iconst 0, 1), (5, .istore 4, 2), (7, .iconst 1, 1), (8, .istore 5, 2), (10, .iload 5, 2), (12, .ifCond .eq 162, 3), (15, .iconst (-1), 1), (16, .istore 6, 2), (18, .iconst 0, 1), (19, .istore 7, 2), (21, .iload 7, 2), (23, .aload_n 0, 1), (24, .getfield 7, 3), (27, .iconst 0, 1), (28, .iaload, 1), (29, .if_icmp .ge 80, 3), (32, .iload 4, 2), (34, .iload 7, 2), (36, .ishr, 1), (37, .iconst 1, 1), (38, .iand, 1), (39, .ifCond .ne 26, 3), (42, .aload_n 0, 1), (43, .iload 7, 2), (45, .invokevirtual 85, 3), (48, .ifCond .eq 17, 3), (51, .aload_n 0, 1), (52, .iload 7, 2), (54, .invokevirtual 102, 3), (57, .iload_n 2, 1), (58, .if_icmp .gt 7, 3), (61, .iconst 1, 1), (62, .goto 4, 3), (65, .iconst 0, 1), (66, .istore 8, 2), (68, .iload 8, 2), (70, .ifCond .eq 29, 3), (73, .iload 6, 2), (75, .iconst (-1), 1), (76, .if_icmp .eq 18, 3), (79, .aload_n 0, 1), (80, .iload 7, 2), (82, .invokevirtual 102, 3), (85, .aload_n 0, 1), (86, .iload 6, 2), (88, .invokevirtual 102, 3), (91, .if_icmp .ge 8, 3), (94, .iload 7, 2), (96, .goto 5, 3), (99, .iload 6, 2), (101, .istore 6, 2), (103, .iinc 7 1, 3), (106, .goto (-85), 3), (109, .iload 6, 2), (111, .iconst (-1), 1), (112, .if_icmp .eq 7, 3), (115, .iconst 1, 1), (116, .goto 4, 3), (119, .iconst 0, 1), (120, .istore 5, 2), (122, .iload 4, 2), (124, .iload 5, 2), (126, .ifCond .eq 10, 3), (129, .iconst 1, 1), (130, .iload 6, 2), (132, .ishl, 1), (133, .goto 4, 3), (136, .iconst 0, 1), (137, .ior, 1), (138, .istore 4, 2), (140, .iload_n 2, 1), (141, .iload 5, 2), (143, .ifCond .eq 12, 3), (146, .aload_n 0, 1), (147, .iload 6, 2), (149, .invokevirtual 102, 3), (152, .goto 4, 3), (155, .iconst 0, 1), (156, .isub, 1), (157, .istore_n 2, 1), (158, .iload_n 3, 1), (159, .iload 5, 2), (161, .ifCond .eq 7, 3), (164, .iconst 1, 1), (165, .goto 4, 3), (168, .iconst 0, 1), (169, .iadd, 1), (170, .istore_n 3, 1), (171, .goto (-161), 3), (174, .iload_n 3, 1), (175, .ireturn, 1)]
set_option maxRecDepth 100000 in
theorem d_Mo_paidBy : decA cX11_paidBy I_Mo_paidBy = true := by decide +kernel
abbrev rm_Mo_paidBy : Room := ({ frames := 7, cells := 0, slots := 0, locals := 164 } : Room)
def m_Mo_paidBy_l21 (u : Nat) (v2_1 : Int32) (v4_3 : Int32) : (Int32 × Int32 × KMem) → Option ((Int32 × Int32 × KMem) ⊕ (Int32 × KMem)) := fun (v6_7, v7_8, M9) =>
 Option.bind (rdI M9 (u + 1) 108 0) fun x11 =>
 if x11 ≤ v7_8 then
 (some (.inr (v6_7, M9)))
 else
 (Option.bind (α := Int32 × KMem) (if ((jshr v4_3 v7_8) &&& 1) = 0 then
 (Option.bind (m_Mo_isWrong u v7_8 M9) fun x30 =>
 if x30 = 0 then
 (some (0, M9))
 else
 (Option.bind (m_Mo_costOf u v7_8 M9) fun (x33, M34) =>
 if v2_1 < x33 then
 (some (0, M34))
 else
 (some (1, M34))))
 else
 (some (0, M9))) fun (t13, M14) =>
 Option.bind (α := Int32 × KMem) (if t13 = 0 then
 (some (v6_7, M14))
 else
 (if v6_7 = (-1) then
 (some (v7_8, M14))
 else
 (Option.bind (m_Mo_costOf u v7_8 M14) fun (x22, M23) =>
 Option.bind (m_Mo_costOf u v6_7 M23) fun (x25, M26) =>
 if x25 ≤ x22 then
 (some (v6_7, M26))
 else
 (some (v7_8, M26))))) fun (t16, M17) =>
 some (.inl (t16, v7_8 + 1, M17)))
def m_Mo_paidBy_l10 (u : Nat) : (Int32 × Int32 × Int32 × Int32 × KMem) → Option ((Int32 × Int32 × Int32 × Int32 × KMem) ⊕ (Int32 × KMem)) := fun (v2_1, v3_2, v4_3, v5_4, M5) =>
 if v5_4 = 0 then
 (some (.inr (v3_2, M5)))
 else
 (Option.bind (α := Int32 × KMem) (kLp (m_Mo_paidBy_l21 u v2_1 v4_3) kFU ((-1), 0, M5)) fun (v6_36, M37) =>
 Option.bind (α := Int32) (if v6_36 = (-1) then
 (some 0)
 else
 (some 1)) fun t38 =>
 Option.bind (α := Int32) (if t38 = 0 then
 (some 0)
 else
 (some (jshl 1 v6_36))) fun t40 =>
 Option.bind (α := Int32 × KMem) (if t38 = 0 then
 (some (0, M37))
 else
 (Option.bind (m_Mo_costOf u v6_36 M37) fun (x50, M51) =>
 some (x50, M51))) fun (t42, M43) =>
 Option.bind (α := Int32) (if t38 = 0 then
 (some 0)
 else
 (some 1)) fun t45 =>
 some (.inl (v2_1 - t42, v3_2 + t45, v4_3 ||| t40, t38, M43)))
def m_Mo_paidBy (u : Nat) (p0 : Int32) (M : KMem) : Option (Int32 × KMem) :=
 Option.bind (α := Int32 × KMem) (kLp (m_Mo_paidBy_l10 u) kFU (p0, 0, 0, 1, M)) fun (v3_56, M57) =>
 some (v3_56, M57)
set_option maxHeartbeats 4000000 in
set_option maxRecDepth 100000 in
theorem b_Mo_paidBy {X : KX} {B : KB} {L : KLay} {M : KMem} {u : Nat} {p0 : Int32} (G : Good X B RX11 cX11_paidBy 9 rm_Mo_paidBy) (hu : okL L u moT) (h : kOk (m_Mo_paidBy u p0 M) (fun r => RI X B L 9 cX11_paidBy .int rm_Mo_paidBy r.1 r.2)) : KK X B L 9 0 0 M 0 [(0, .ref (B.1 + u)), (1, .int p0)] [] := by
  unfold m_Mo_paidBy at h
  refine k_iload_n G (dc d_Mo_paidBy 0 rfl) 1 rfl rfl ?_
  refine k_istore_n G (dc d_Mo_paidBy 1 rfl) (ls' := [(2, .int p0), (0, .ref (B.1 + u)), (1, .int p0)]) rfl rfl rfl ?_
  refine k_iconst G (dc d_Mo_paidBy 2 rfl) cI_0 ?_
  refine k_istore_n G (dc d_Mo_paidBy 3 rfl) (ls' := [(3, .int 0), (2, .int p0), (0, .ref (B.1 + u)), (1, .int p0)]) rfl rfl rfl ?_
  refine k_iconst G (dc d_Mo_paidBy 4 rfl) cI_0 ?_
  refine k_istore G (dc d_Mo_paidBy 5 rfl) (ls' := [(4, .int 0), (3, .int 0), (2, .int p0), (0, .ref (B.1 + u)), (1, .int p0)]) rfl rfl ?_
  refine k_iconst G (dc d_Mo_paidBy 6 rfl) cI_1 ?_
  refine k_istore G (dc d_Mo_paidBy 7 rfl) (ls' := [(5, .int 1), (4, .int 0), (3, .int 0), (2, .int p0), (0, .ref (B.1 + u)), (1, .int p0)]) rfl rfl ?_
  refine kJ h (fun r58 => KK X B L 9 0 0 r58.2 174 [(3, .int r58.1)] []) (fun r58 h => ?_) (fun h => ?_)
  · obtain ⟨v3_56, M57⟩ := r58
    show KK X B L 9 0 0 M57 174 [(3, .int v3_56)] []
    refine k_iload_n G (dc d_Mo_paidBy 93 rfl) 0 rfl rfl ?_
    exact (kOk_s h) _ _ _ _ rfl rfl rfl (dc d_Mo_paidBy 94 rfl)
  · refine k_sub [4, 3, 2, 1, 0] rfl ?_
    refine kLp_ok (P := fun s59 => KK X B L 9 0 0 s59.2.2.2.2 10 [(0, .ref (B.1 + u)), (2, .int s59.1), (3, .int s59.2.1), (4, .int s59.2.2.1), (5, .int s59.2.2.2.1)] []) (fun s59 h => ?_) kFU _ h
    obtain ⟨v2_1, v3_2, v4_3, v5_4, M5⟩ := s59
    unfold m_Mo_paidBy_l10 at h
    show KK X B L 9 0 0 M5 10 [(0, .ref (B.1 + u)), (2, .int v2_1), (3, .int v3_2), (4, .int v4_3), (5, .int v5_4)] []
    refine k_iload G (dc d_Mo_paidBy 8 rfl) 4 rfl ?_
    refine k_if_eq G (dc d_Mo_paidBy 9 rfl) (tgt := 174) rfl (fun c6 => ?_) (fun c6 => ?_)
    · replace h := kOk_p c6 h
      refine k_sub [2] rfl ?_
      have h9 := kOk_s h
      exact h9
    · replace h := kOk_n c6 h
      refine k_iconst G (dc d_Mo_paidBy 10 rfl) cI_m1 ?_
      refine k_istore G (dc d_Mo_paidBy 11 rfl) (ls' := [(6, .int (-1)), (0, .ref (B.1 + u)), (2, .int v2_1), (3, .int v3_2), (4, .int v4_3), (5, .int v5_4)]) rfl rfl ?_
      refine k_iconst G (dc d_Mo_paidBy 12 rfl) cI_0 ?_
      refine k_istore G (dc d_Mo_paidBy 13 rfl) (ls' := [(7, .int 0), (6, .int (-1)), (0, .ref (B.1 + u)), (2, .int v2_1), (3, .int v3_2), (4, .int v4_3), (5, .int v5_4)]) rfl rfl ?_
      refine kJ h (fun r54 => KK X B L 9 0 0 r54.2 109 [(0, .ref (B.1 + u)), (2, .int v2_1), (3, .int v3_2), (4, .int v4_3), (6, .int r54.1)] []) (fun r54 h => ?_) (fun h => ?_)
      · obtain ⟨v6_36, M37⟩ := r54
        show KK X B L 9 0 0 M37 109 [(0, .ref (B.1 + u)), (2, .int v2_1), (3, .int v3_2), (4, .int v4_3), (6, .int v6_36)] []
        refine k_iload G (dc d_Mo_paidBy 57 rfl) 4 rfl ?_
        refine k_iconst G (dc d_Mo_paidBy 58 rfl) cI_m1 ?_
        refine kJ h (fun r39 => KK X B L 9 0 0 M37 120 [(0, .ref (B.1 + u)), (2, .int v2_1), (3, .int v3_2), (4, .int v4_3), (6, .int v6_36)] [.int r39]) (fun r39 h => ?_) (fun h => ?_)
        · obtain ⟨t38, rfl⟩ : ∃ z, z = r39 := ⟨_, rfl⟩
          show KK X B L 9 0 0 M37 120 [(0, .ref (B.1 + u)), (2, .int v2_1), (3, .int v3_2), (4, .int v4_3), (6, .int v6_36)] [.int t38]
          refine k_istore G (dc d_Mo_paidBy 63 rfl) (ls' := [(5, .int t38), (0, .ref (B.1 + u)), (2, .int v2_1), (3, .int v3_2), (4, .int v4_3), (6, .int v6_36)]) rfl rfl ?_
          refine k_iload G (dc d_Mo_paidBy 64 rfl) 4 rfl ?_
          refine k_iload G (dc d_Mo_paidBy 65 rfl) 0 rfl ?_
          refine kJ h (fun r41 => KK X B L 9 0 0 M37 137 [(0, .ref (B.1 + u)), (2, .int v2_1), (3, .int v3_2), (5, .int t38), (6, .int v6_36)] [.int r41, .int v4_3]) (fun r41 h => ?_) (fun h => ?_)
          · obtain ⟨t40, rfl⟩ : ∃ z, z = r41 := ⟨_, rfl⟩
            show KK X B L 9 0 0 M37 137 [(0, .ref (B.1 + u)), (2, .int v2_1), (3, .int v3_2), (5, .int t38), (6, .int v6_36)] [.int t40, .int v4_3]
            refine k_ior G (dc d_Mo_paidBy 72 rfl) ?_
            refine k_istore G (dc d_Mo_paidBy 73 rfl) (ls' := [(4, .int (v4_3 ||| t40)), (0, .ref (B.1 + u)), (2, .int v2_1), (3, .int v3_2), (5, .int t38), (6, .int v6_36)]) rfl rfl ?_
            refine k_iload_n G (dc d_Mo_paidBy 74 rfl) 2 rfl rfl ?_
            refine k_iload G (dc d_Mo_paidBy 75 rfl) 4 rfl ?_
            refine kJ h (fun r44 => KK X B L 9 0 0 r44.2 156 [(0, .ref (B.1 + u)), (3, .int v3_2), (4, .int (v4_3 ||| t40)), (5, .int t38)] [.int r44.1, .int v2_1]) (fun r44 h => ?_) (fun h => ?_)
            · obtain ⟨t42, M43⟩ := r44
              show KK X B L 9 0 0 M43 156 [(0, .ref (B.1 + u)), (3, .int v3_2), (4, .int (v4_3 ||| t40)), (5, .int t38)] [.int t42, .int v2_1]
              refine k_isub G (dc d_Mo_paidBy 82 rfl) ?_
              refine k_istore_n G (dc d_Mo_paidBy 83 rfl) (ls' := [(2, .int (v2_1 - t42)), (0, .ref (B.1 + u)), (3, .int v3_2), (4, .int (v4_3 ||| t40)), (5, .int t38)]) rfl rfl rfl ?_
              refine k_iload_n G (dc d_Mo_paidBy 84 rfl) 2 rfl rfl ?_
              refine k_iload G (dc d_Mo_paidBy 85 rfl) 4 rfl ?_
              refine kJ h (fun r46 => KK X B L 9 0 0 M43 169 [(0, .ref (B.1 + u)), (2, .int (v2_1 - t42)), (4, .int (v4_3 ||| t40)), (5, .int t38)] [.int r46, .int v3_2]) (fun r46 h => ?_) (fun h => ?_)
              · obtain ⟨t45, rfl⟩ : ∃ z, z = r46 := ⟨_, rfl⟩
                show KK X B L 9 0 0 M43 169 [(0, .ref (B.1 + u)), (2, .int (v2_1 - t42)), (4, .int (v4_3 ||| t40)), (5, .int t38)] [.int t45, .int v3_2]
                refine k_iadd G (dc d_Mo_paidBy 90 rfl) ?_
                refine k_istore_n G (dc d_Mo_paidBy 91 rfl) (ls' := [(3, .int (v3_2 + t45)), (0, .ref (B.1 + u)), (2, .int (v2_1 - t42)), (4, .int (v4_3 ||| t40)), (5, .int t38)]) rfl rfl rfl ?_
                refine k_goto G (dc d_Mo_paidBy 92 rfl) (tgt := 10) rfl ?_
                refine k_sub [1, 2, 0, 3, 4] rfl ?_
                have h9 := kOk_s h
                exact h9
              · refine k_if_eq G (dc d_Mo_paidBy 86 rfl) (tgt := 168) rfl (fun c47 => ?_) (fun c47 => ?_)
                · replace h := kOk_p c47 h
                  refine k_iconst G (dc d_Mo_paidBy 89 rfl) cI_0 ?_
                  refine k_sub [1, 0, 3, 4] rfl ?_
                  have h9 := kOk_s h
                  exact h9
                · replace h := kOk_n c47 h
                  refine k_iconst G (dc d_Mo_paidBy 87 rfl) cI_1 ?_
                  refine k_goto G (dc d_Mo_paidBy 88 rfl) (tgt := 169) rfl ?_
                  refine k_sub [1, 0, 3, 4] rfl ?_
                  have h9 := kOk_s h
                  exact h9
            · refine k_if_eq G (dc d_Mo_paidBy 76 rfl) (tgt := 155) rfl (fun c48 => ?_) (fun c48 => ?_)
              · replace h := kOk_p c48 h
                refine k_iconst G (dc d_Mo_paidBy 81 rfl) cI_0 ?_
                refine k_sub [1, 3, 0, 4] rfl ?_
                have h9 := kOk_s h
                exact h9
              · replace h := kOk_n c48 h
                refine k_aload_n G (dc d_Mo_paidBy 77 rfl) 1 rfl rfl ?_
                refine k_iload G (dc d_Mo_paidBy 78 rfl) 5 rfl ?_
                obtain ⟨⟨x50, M51⟩, e49, h⟩ := kOk_b h
                refine k_cVI G (dc d_Mo_paidBy 79 rfl) kc8 (okL_lt hu (o := 0) 0 rfl) (okL_k hu (o := 0) 0 rfl) mi_Mo_costOf mv_Mo_costOf rfl ml_RX11_102 (c_Mo_costOf (gst G) hu e49) rfl rfl ⟨rfl, rfl⟩ rfl ⟨rfl, rfl⟩ ⟨rfl, rfl⟩ ?_
                refine k_goto G (dc d_Mo_paidBy 80 rfl) (tgt := 156) rfl ?_
                refine k_sub [1, 3, 0, 4] rfl ?_
                have h9 := kOk_s h
                exact h9
          · refine k_if_eq G (dc d_Mo_paidBy 66 rfl) (tgt := 136) rfl (fun c52 => ?_) (fun c52 => ?_)
            · replace h := kOk_p c52 h
              refine k_iconst G (dc d_Mo_paidBy 71 rfl) cI_0 ?_
              refine k_sub [1, 2, 3, 0, 5] rfl ?_
              have h9 := kOk_s h
              exact h9
            · replace h := kOk_n c52 h
              refine k_iconst G (dc d_Mo_paidBy 67 rfl) cI_1 ?_
              refine k_iload G (dc d_Mo_paidBy 68 rfl) 5 rfl ?_
              refine k_ishl G (dc d_Mo_paidBy 69 rfl) ?_
              refine k_goto G (dc d_Mo_paidBy 70 rfl) (tgt := 137) rfl ?_
              refine k_sub [1, 2, 3, 0, 5] rfl ?_
              have h9 := kOk_s h
              exact h9
        · refine k_icmp_eq G (dc d_Mo_paidBy 59 rfl) (tgt := 119) rfl (fun c53 => ?_) (fun c53 => ?_)
          · replace h := kOk_p c53 h
            refine k_iconst G (dc d_Mo_paidBy 62 rfl) cI_0 ?_
            have h9 := kOk_s h
            exact h9
          · replace h := kOk_n c53 h
            refine k_iconst G (dc d_Mo_paidBy 60 rfl) cI_1 ?_
            refine k_goto G (dc d_Mo_paidBy 61 rfl) (tgt := 120) rfl ?_
            have h9 := kOk_s h
            exact h9
      · refine k_sub [2, 3, 4, 5, 1, 0] rfl ?_
        refine kLp_ok (P := fun s55 => KK X B L 9 0 0 s55.2.2 21 [(0, .ref (B.1 + u)), (2, .int v2_1), (3, .int v3_2), (4, .int v4_3), (6, .int s55.1), (7, .int s55.2.1)] []) (fun s55 h => ?_) kFU _ h
        obtain ⟨v6_7, v7_8, M9⟩ := s55
        unfold m_Mo_paidBy_l21 at h
        show KK X B L 9 0 0 M9 21 [(0, .ref (B.1 + u)), (2, .int v2_1), (3, .int v3_2), (4, .int v4_3), (6, .int v6_7), (7, .int v7_8)] []
        refine k_iload G (dc d_Mo_paidBy 14 rfl) 5 rfl ?_
        refine k_aload_n G (dc d_Mo_paidBy 15 rfl) 0 rfl rfl ?_
        refine k_getR G kc8 (dc d_Mo_paidBy 16 rfl) (okL_lt hu (o := 0) 0 rfl) (okL_k hu (o := 0) 0 rfl) 1 (by decide) rfl fl_RX11_7 (u + 1) (okL_r hu (o := 0) (c := 1) 0 rfl 0 rfl) ?_
        refine k_iconst G (dc d_Mo_paidBy 17 rfl) cI_0 ?_
        obtain ⟨x11, e10, h⟩ := kOk_b h
        refine k_ild G (dc d_Mo_paidBy 18 rfl) (okL_lt hu (o := 1) 1 rfl) (okL_k hu (o := 1) 1 rfl) (okL_n hu (o := 1) 1 rfl) e10 ?_
        refine k_icmp_ge G (dc d_Mo_paidBy 19 rfl) (tgt := 109) rfl (fun c12 => ?_) (fun c12 => ?_)
        · replace h := kOk_p c12 h
          refine k_sub [0, 1, 2, 3, 4] rfl ?_
          have h9 := kOk_s h
          exact h9
        · replace h := kOk_n c12 h
          refine k_iload G (dc d_Mo_paidBy 20 rfl) 3 rfl ?_
          refine k_iload G (dc d_Mo_paidBy 21 rfl) 5 rfl ?_
          refine k_ishr G (dc d_Mo_paidBy 22 rfl) ?_
          refine k_iconst G (dc d_Mo_paidBy 23 rfl) cI_1 ?_
          refine k_iand G (dc d_Mo_paidBy 24 rfl) ?_
          refine kJ h (fun r15 => KK X B L 9 0 0 r15.2 66 [(0, .ref (B.1 + u)), (2, .int v2_1), (3, .int v3_2), (4, .int v4_3), (6, .int v6_7), (7, .int v7_8)] [.int r15.1]) (fun r15 h => ?_) (fun h => ?_)
          · obtain ⟨t13, M14⟩ := r15
            show KK X B L 9 0 0 M14 66 [(0, .ref (B.1 + u)), (2, .int v2_1), (3, .int v3_2), (4, .int v4_3), (6, .int v6_7), (7, .int v7_8)] [.int t13]
            refine k_istore G (dc d_Mo_paidBy 38 rfl) (ls' := [(8, .int t13), (0, .ref (B.1 + u)), (2, .int v2_1), (3, .int v3_2), (4, .int v4_3), (6, .int v6_7), (7, .int v7_8)]) rfl rfl ?_
            refine k_iload G (dc d_Mo_paidBy 39 rfl) 0 rfl ?_
            refine kJ h (fun r18 => KK X B L 9 0 0 r18.2 101 [(0, .ref (B.1 + u)), (2, .int v2_1), (3, .int v3_2), (4, .int v4_3), (7, .int v7_8)] [.int r18.1]) (fun r18 h => ?_) (fun h => ?_)
            · obtain ⟨t16, M17⟩ := r18
              show KK X B L 9 0 0 M17 101 [(0, .ref (B.1 + u)), (2, .int v2_1), (3, .int v3_2), (4, .int v4_3), (7, .int v7_8)] [.int t16]
              refine k_istore G (dc d_Mo_paidBy 54 rfl) (ls' := [(6, .int t16), (0, .ref (B.1 + u)), (2, .int v2_1), (3, .int v3_2), (4, .int v4_3), (7, .int v7_8)]) rfl rfl ?_
              refine k_iinc G (dc d_Mo_paidBy 55 rfl) (ls' := [(7, .int (v7_8 + 1)), (6, .int t16), (0, .ref (B.1 + u)), (2, .int v2_1), (3, .int v3_2), (4, .int v4_3)]) 5 rfl cI_1 rfl rfl ?_
              refine k_goto G (dc d_Mo_paidBy 56 rfl) (tgt := 21) rfl ?_
              refine k_sub [2, 3, 4, 5, 1, 0] rfl ?_
              have h9 := kOk_s h
              exact h9
            · refine k_if_eq G (dc d_Mo_paidBy 40 rfl) (tgt := 99) rfl (fun c19 => ?_) (fun c19 => ?_)
              · replace h := kOk_p c19 h
                refine k_iload G (dc d_Mo_paidBy 53 rfl) 5 rfl ?_
                refine k_sub [1, 2, 3, 4, 6] rfl ?_
                have h9 := kOk_s h
                exact h9
              · replace h := kOk_n c19 h
                refine k_iload G (dc d_Mo_paidBy 41 rfl) 5 rfl ?_
                refine k_iconst G (dc d_Mo_paidBy 42 rfl) cI_m1 ?_
                refine k_icmp_eq G (dc d_Mo_paidBy 43 rfl) (tgt := 94) rfl (fun c20 => ?_) (fun c20 => ?_)
                · replace h := kOk_p c20 h
                  refine k_iload G (dc d_Mo_paidBy 51 rfl) 6 rfl ?_
                  refine k_goto G (dc d_Mo_paidBy 52 rfl) (tgt := 101) rfl ?_
                  refine k_sub [1, 2, 3, 4, 6] rfl ?_
                  have h9 := kOk_s h
                  exact h9
                · replace h := kOk_n c20 h
                  refine k_aload_n G (dc d_Mo_paidBy 44 rfl) 1 rfl rfl ?_
                  refine k_iload G (dc d_Mo_paidBy 45 rfl) 6 rfl ?_
                  obtain ⟨⟨x22, M23⟩, e21, h⟩ := kOk_b h
                  refine k_cVI G (dc d_Mo_paidBy 46 rfl) kc8 (okL_lt hu (o := 0) 0 rfl) (okL_k hu (o := 0) 0 rfl) mi_Mo_costOf mv_Mo_costOf rfl ml_RX11_102 (c_Mo_costOf (gst G) hu e21) rfl rfl ⟨rfl, rfl⟩ rfl ⟨rfl, rfl⟩ ⟨rfl, rfl⟩ ?_
                  refine k_aload_n G (dc d_Mo_paidBy 47 rfl) 1 rfl rfl ?_
                  refine k_iload G (dc d_Mo_paidBy 48 rfl) 5 rfl ?_
                  obtain ⟨⟨x25, M26⟩, e24, h⟩ := kOk_b h
                  refine k_cVI G (dc d_Mo_paidBy 49 rfl) kc8 (okL_lt hu (o := 0) 0 rfl) (okL_k hu (o := 0) 0 rfl) mi_Mo_costOf mv_Mo_costOf rfl ml_RX11_102 (c_Mo_costOf (gst G) hu e24) rfl rfl ⟨rfl, rfl⟩ rfl ⟨rfl, rfl⟩ ⟨rfl, rfl⟩ ?_
                  refine k_icmp_ge G (dc d_Mo_paidBy 50 rfl) (tgt := 99) rfl (fun c27 => ?_) (fun c27 => ?_)
                  · replace h := kOk_p c27 h
                    refine k_iload G (dc d_Mo_paidBy 53 rfl) 5 rfl ?_
                    refine k_sub [1, 2, 3, 4, 6] rfl ?_
                    have h9 := kOk_s h
                    exact h9
                  · replace h := kOk_n c27 h
                    refine k_iload G (dc d_Mo_paidBy 51 rfl) 6 rfl ?_
                    refine k_goto G (dc d_Mo_paidBy 52 rfl) (tgt := 101) rfl ?_
                    refine k_sub [1, 2, 3, 4, 6] rfl ?_
                    have h9 := kOk_s h
                    exact h9
          · refine k_if_ne G (dc d_Mo_paidBy 25 rfl) (tgt := 65) rfl (fun c28 => ?_) (fun c28 => ?_)
            · replace h := kOk_n c28 h
              refine k_iconst G (dc d_Mo_paidBy 37 rfl) cI_0 ?_
              have h9 := kOk_s h
              exact h9
            · replace h := kOk_p c28 h
              refine k_aload_n G (dc d_Mo_paidBy 26 rfl) 0 rfl rfl ?_
              refine k_iload G (dc d_Mo_paidBy 27 rfl) 5 rfl ?_
              obtain ⟨x30, e29, h⟩ := kOk_b h
              refine k_cVI G (dc d_Mo_paidBy 28 rfl) kc8 (okL_lt hu (o := 0) 0 rfl) (okL_k hu (o := 0) 0 rfl) mi_Mo_isWrong mv_Mo_isWrong rfl ml_RX11_85 (c_Mo_isWrong (gst G) hu e29) rfl rfl ⟨rfl, rfl⟩ rfl ⟨rfl, rfl⟩ ⟨rfl, rfl⟩ ?_
              refine k_if_eq G (dc d_Mo_paidBy 29 rfl) (tgt := 65) rfl (fun c31 => ?_) (fun c31 => ?_)
              · replace h := kOk_p c31 h
                refine k_iconst G (dc d_Mo_paidBy 37 rfl) cI_0 ?_
                have h9 := kOk_s h
                exact h9
              · replace h := kOk_n c31 h
                refine k_aload_n G (dc d_Mo_paidBy 30 rfl) 0 rfl rfl ?_
                refine k_iload G (dc d_Mo_paidBy 31 rfl) 5 rfl ?_
                obtain ⟨⟨x33, M34⟩, e32, h⟩ := kOk_b h
                refine k_cVI G (dc d_Mo_paidBy 32 rfl) kc8 (okL_lt hu (o := 0) 0 rfl) (okL_k hu (o := 0) 0 rfl) mi_Mo_costOf mv_Mo_costOf rfl ml_RX11_102 (c_Mo_costOf (gst G) hu e32) rfl rfl ⟨rfl, rfl⟩ rfl ⟨rfl, rfl⟩ ⟨rfl, rfl⟩ ?_
                refine k_iload_n G (dc d_Mo_paidBy 33 rfl) 1 rfl rfl ?_
                refine k_icmp_gt G (dc d_Mo_paidBy 34 rfl) (tgt := 65) rfl (fun c35 => ?_) (fun c35 => ?_)
                · replace h := kOk_p c35 h
                  refine k_iconst G (dc d_Mo_paidBy 37 rfl) cI_0 ?_
                  have h9 := kOk_s h
                  exact h9
                · replace h := kOk_n c35 h
                  refine k_iconst G (dc d_Mo_paidBy 35 rfl) cI_1 ?_
                  refine k_goto G (dc d_Mo_paidBy 36 rfl) (tgt := 66) rfl ?_
                  have h9 := kOk_s h
                  exact h9
theorem c_Mo_paidBy {l : Launch} {B : KB} {L : KLay} {M : KMem} {u : Nat} {p0 : Int32} (hst : l.stackTraces = false) (hu : okL L u moT) {r : Int32} {M' : KMem} (e : m_Mo_paidBy u p0 M = some (r, M')) : CtrN l B yX11_paidBy cX11_paidBy 9 (some .int) rm_Mo_paidBy [.ref (B.1 + u), .int p0] L M (some (.int r)) L M' :=
  mk_I rfl hst rfl (fun X hl G _ R => b_Mo_paidBy G hu ⟨_, e, R⟩)
