/-! laid by wip/whole/lawgen2.py: THE LAW'S CASES -/
/-- a call of a static method with an exception table -/
theorem k_cSH {X : KX} {B : KB} {L : KLay} {own : String} {cc : ByteArray} {nL : Nat} {rm : Room} {cn sn : Nat} {M : KMem} {pc : Nat} {ls : List (Nat × Value)} {st rest : List Value} (G : Good X B own cc nL rm) {idx : Nat} (d : decode cc pc = .ok (.invokestatic idx, 3)) {y : MethodName} {bytes : ByteArray} {maxL n : Nat} {hh : List (Nat × Nat × Nat × Nat)} {rmc : Room} (m : MIH y bytes maxL hh n) (ms : Cond.static y ∈ GT) (hl : Cond.methodLink own idx y ∈ GT) {As : List Value} {v : Int32} {L' : KLay} {M' : KMem}
    (hM : CtrH (xL X) B y bytes maxL hh rmc As L M (some (.int v)) L' M') (hn : As.length = n) (hs : st = As.reverse ++ rest) (hR : Nat.ble (rmc.frames + 1) rm.frames = true ∧ Nat.ble (8 + (maxL + 11) + rmc.locals) rm.locals = true) (hr : Nat.ble ((rest.map fun v => v.category).sum) 8 = true) (hcs : Nat.ble (cn + rmc.cells) rm.cells = true ∧ Nat.ble (sn + rmc.slots) rm.slots = true)
    (kk : KK X B L' nL (cn + rmc.cells) (sn + rmc.slots) M' (pc + 3) ls (.int v :: rest)) : KK X B L nL cn sn M pc ls st := by
  intro H locs la hW hS hla
  have hrm : xR X = rm := G.2.2.2.2.2.2.2.2.2.2
  have hts := G.2.2.2.2.1
  obtain ⟨h1, h2, h3, h4⟩ := m
  refine k_run hS hla (vx_runSW (good_fix G) hM ⟨⟨rfl, rfl, by rw [hrm]; exact Nat.le_of_ble_eq_true hR.1, by rw [hrm]; exact Nat.le_of_ble_eq_true hR.2, fun w hw a' U hU => ?_, List.mem_cons_self⟩, hts _ h1, hts _ h2, h3, fun sig h => ?_, hts _ hl, hts _ ms⟩ ⟨kpc_blind, fun U hU hWm => ⟨rfl, good_kwo G hW hS hU hWm⟩⟩ rfl hn hla.1 hs (lv_room (Nat.le_of_ble_eq_true hr)) d (by rw [hrm]; exact ⟨Nat.le_of_ble_eq_true hcs.1, Nat.le_of_ble_eq_true hcs.2⟩)) kk
  · rcases List.mem_cons.mp hw with rfl | hw
    · exact word_at hU (gt_good h1) (hts _ h1)
    · exact word_at hU (gt_good hw) (hts _ hw)
  · rw [h] at h4
    exact (Option.some.inj h4).symm
/-- the law's frame, its script -/
def LG (X : KX) (B : KB) (L : KLay) (b Ln : Nat) (xs : Nat → Int32) : Prop := Good X B RL code 7 room_1 ∧ B.2.2.2 = false ∧ (okL L 0 srT ∧ okL L 235 moT ∧ arL L 244 12 1) ∧ va_X b Ln xs (xS X) (xS X).heap ∧ b < (xS X).heap.size ∧ b < B.1
theorem k_sld {X : KX} {B : KB} {L : KLay} {cn sn : Nat} {M : KMem} {pc b Ln : Nat} {xs : Nat → Int32} {ls : List (Nat × Value)} {st : List Value} (H : LG X B L b Ln xs) {i : Int32} (hin : vp_in i Ln) (d : decode code pc = .ok (.iaload, 1)) (kk : KK X B L 7 cn sn M (pc + 1) ls (.int (xs i.toNatClampNeg) :: st)) : KK X B L 7 cn sn M pc ls (.int i :: .ref b :: st) :=
  fun H0 locs la hW hS hla => va_sld H.1.1 H.1.2.1 H.2.2.2.1 H.2.2.2.2.1 (Nat.not_le.mpr H.2.2.2.2.2) hS hin d (kk H0 locs la hW hS hla)
theorem k_slen {X : KX} {B : KB} {L : KLay} {cn sn : Nat} {M : KMem} {pc b Ln : Nat} {xs : Nat → Int32} {ls : List (Nat × Value)} {st : List Value} (H : LG X B L b Ln xs) (d : decode code pc = .ok (.arraylength, 1)) (kk : KK X B L 7 cn sn M (pc + 1) ls (.int (nI Ln) :: st)) : KK X B L 7 cn sn M pc ls (.ref b :: st) :=
  fun H0 locs la hW hS hla => va_slen H.1.1 H.1.2.1 H.2.2.2.1 H.2.2.2.2.1 (Nat.not_le.mpr H.2.2.2.2.2) hS d (kk H0 locs la hW hS hla)
theorem k_wide {X : KX} {B : KB} {L : KLay} {nL cn sn k n : Nat} {M : KMem} {pc : Nat} {ls : List (Nat × Value)} {st : List Value} (h1 : cn ≤ k) (h2 : sn ≤ n) (kk : KK X B L nL k n M pc ls st) : KK X B L nL cn sn M pc ls st :=
  fun H0 locs la hW hS hla => W.widen h1 h2 (kk H0 locs la hW hS hla)
abbrev ls5 (B : KB) (b : Nat) (i : Int32) : List (Nat × Value) := [(0, .ref b), (1, .ref (B.1 + 0)), (2, .ref (B.1 + 235)), (3, .ref (B.1 + 244)), (4, .int i)]
theorem blC {cn k : Nat} (h : cn + 100 ≤ 601024) (hk : Nat.ble k 100 = true) : Nat.ble (cn + k) room_1.cells = true := Nat.ble_eq_true_of_le (by have := Nat.le_of_ble_eq_true hk; show cn + k ≤ 601024; omega)
theorem blS {sn k : Nat} (h : sn + 1000 ≤ 7293034) (hk : Nat.ble k 1000 = true) : Nat.ble (sn + k) room_1.slots = true := Nat.ble_eq_true_of_le (by have := Nat.le_of_ble_eq_true hk; show sn + k ≤ 7293034; omega)
theorem blC2 {cn a k : Nat} (h : cn + 100 ≤ 601024) (hk : Nat.ble (a + k) 100 = true) : Nat.ble (cn + a + k) room_1.cells = true := by rw [Nat.add_assoc]; exact blC h hk
theorem blS2 {sn a k : Nat} (h : sn + 1000 ≤ 7293034) (hk : Nat.ble (a + k) 1000 = true) : Nat.ble (sn + a + k) room_1.slots = true := by rw [Nat.add_assoc]; exact blS h hk
theorem leC {cn a N : Nat} (h : Nat.ble a N = true) : cn + a ≤ cn + N := Nat.add_le_add_left (Nat.le_of_ble_eq_true h) _
/-- both sides of a wrapped call -/
theorem pub_w {M : KMem} {xs : List String} {oc : Option ((String ⊕ Int32) × KMem)} {om : KMem → Option (Int32 × KMem)} (h : Pub M xs oc om) (hx : xs.length ≤ 3) : ∃ r M1 k M2 b M3, oc = some (r, M1) ∧ wk xs r M1 k M2 ∧ om M2 = some (b, M3) ∧ M3 235 0 = k ∧ (k = 0 → M3 244 0 = b) ∧ GI M3 := by
  obtain ⟨r, M1, e1, f1, hom⟩ := h
  cases r with
  | inr v =>
    obtain ⟨b, M3, e2, f2, ⟨t0, hv⟩, g⟩ := hom (kup M1 244 0 v) (frS.up rfl)
    refine ⟨_, M1, 0, kup M1 244 0 v, b, M3, e1, ⟨rfl, rfl⟩, e2, t0, fun _ => ?_, g⟩
    rw [f2 244 (by omega), kup_s, hv]
  | inl E =>
    obtain ⟨b, M3, e2, f2, ⟨i, hi, t0⟩, g⟩ := hom M1 rfl
    refine ⟨_, M1, nI (i + 1), M1, b, M3, e1, ⟨⟨i, hi, rfl⟩, rfl⟩, e2, t0, fun hk => ?_, g⟩
    have h6 := (List.getElem?_eq_some_iff.mp hi).1
    have := (nI_eq (a := i + 1) (b := 0) (by omega) (by omega)).mp hk
    omega
theorem wm_some {M M1 : KMem} {o : Option (String ⊕ Int32)} {r : String ⊕ Int32} (h : wm M o = some (r, M1)) : o = some r ∧ M1 = M := by
  unfold wm at h
  cases o with
  | none => cases h
  | some r' => cases h; exact ⟨rfl, rfl⟩
theorem lgc_self (x : Int64) : lg_cmp x x = 0 := by
  unfold lg_cmp
  rw [if_neg (fun z => Int64.lt_irrefl z), if_pos rfl]

def I_law_0 : List (Nat × Instr × Nat) := [(160, .aload_n 1, 1), (161, .aload_n 0, 1), (162, .iload 4, 2), (164, .iconst 1, 1), (165, .iadd, 1), (166, .iaload, 1), (167, .aload_n 3, 1), (168, .invokestatic 97, 3), (171, .istore 5, 2), (173, .aload_n 2, 1), (174, .aload_n 0, 1), (175, .iload 4, 2), (177, .iconst 1, 1), (178, .iadd, 1), (179, .iaload, 1), (180, .invokevirtual 102, 3), (183, .istore 6, 2), (185, .aload_n 2, 1), (186, .invokevirtual 103, 3), (189, .iload 5, 2), (191, .if_icmp .eq 5, 3), (194, .iconst 0, 1), (195, .ireturn, 1), (196, .iload 5, 2), (198, .ifCond .ne 15, 3), (201, .aload_n 3, 1), (202, .iconst 0, 1), (203, .laload, 1), (204, .iload 6, 2), (206, .i2l, 1), (207, .lcmp, 1), (208, .ifCond .eq 5, 3), (211, .iconst 0, 1), (212, .ireturn, 1), (213, .goto 1550, 3)]
set_option maxRecDepth 100000 in
theorem d_law_0 : decA code I_law_0 = true := by decide +kernel
def I_law_1 : List (Nat × Instr × Nat) := [(216, .aload_n 1, 1), (217, .invokevirtual 106, 3), (220, .aload_n 2, 1), (221, .invokevirtual 109, 3), (224, .if_icmp .eq 1539, 3), (227, .iconst 0, 1), (228, .ireturn, 1)]
set_option maxRecDepth 100000 in
theorem d_law_1 : decA code I_law_1 = true := by decide +kernel
theorem ld_RL_178 : Cond.constantLong RL 178 4294967295 ∈ GT := gt_in 1474 (by decide +kernel) rfl
theorem ml_RL_97 : Cond.methodLink RL 97 yL_append ∈ GT := gt_in 472 (by decide +kernel) rfl
set_option maxRecDepth 100000 in
theorem mi_Mo_append : MI yX11_append cX11_append 2 (some .int) 1 := ⟨gt_in 1140 (by rfl) rfl, gt_in 78 (by decide +kernel) rfl, by decide +kernel, by decide +kernel⟩
theorem mv_Mo_append : MV yX11_append := ⟨gt_in 1138 (by decide +kernel) rfl, gt_in 1139 (by decide +kernel) rfl⟩
theorem ml_RL_102 : Cond.methodLink RL 102 yX11_append ∈ GT := gt_in 1137 (by decide +kernel) rfl
set_option maxRecDepth 100000 in
theorem mi_Mo_thrown : MI yX11_thrown cX11_thrown 1 (some .int) 0 := ⟨gt_in 1136 (by rfl) rfl, gt_in 78 (by decide +kernel) rfl, by decide +kernel, by decide +kernel⟩
theorem mv_Mo_thrown : MV yX11_thrown := ⟨gt_in 1134 (by decide +kernel) rfl, gt_in 1135 (by decide +kernel) rfl⟩
theorem ml_RL_103 : Cond.methodLink RL 103 yX11_thrown ∈ GT := gt_in 1133 (by decide +kernel) rfl
set_option maxRecDepth 100000 in
theorem mi_SR_clearText : MI yX10_clearText cX10_clearText 2 (some .int) 0 := ⟨gt_in 312 (by rfl) rfl, gt_in 69 (by decide +kernel) rfl, by decide +kernel, by decide +kernel⟩
theorem mv_SR_clearText : MV yX10_clearText := ⟨gt_in 310 (by decide +kernel) rfl, gt_in 311 (by decide +kernel) rfl⟩
theorem ml_RL_106 : Cond.methodLink RL 106 yX10_clearText ∈ GT := gt_in 309 (by decide +kernel) rfl
set_option maxRecDepth 100000 in
theorem mi_Mo_clearText : MI yX11_clearText cX11_clearText 2 (some .int) 0 := ⟨gt_in 1151 (by rfl) rfl, gt_in 78 (by decide +kernel) rfl, by decide +kernel, by decide +kernel⟩
theorem mv_Mo_clearText : MV yX11_clearText := ⟨gt_in 1149 (by decide +kernel) rfl, gt_in 1150 (by decide +kernel) rfl⟩
theorem ml_RL_109 : Cond.methodLink RL 109 yX11_clearText ∈ GT := gt_in 1148 (by decide +kernel) rfl
theorem l_0 {X : KX} {B : KB} {L : KLay} {b Ln : Nat} {xs : Nat → Int32} {M : KMem} {cn sn : Nat} {i : Int32} (H : LG X B L b Ln xs) (hg : GI M) (h1 : vp_in (i + 1) Ln) (h2 : vp_in (i + 2) Ln) (h3 : vp_in (i + 3) Ln) (h4 : vp_in (i + 4) Ln) (hc : cn + 100 ≤ 601024) (hs : sn + 1000 ≤ 7293034) (K : ∀ M3 k n, GI M3 → k ≤ cn + 100 → n ≤ sn + 1000 → KK X B L 7 k n M3 1763 (ls5 B b i) []) : KK X B L 7 cn sn M 160 (ls5 B b i) [] := by
  obtain ⟨G, hx, ⟨hu, hv, ho⟩, -⟩ := id H
  obtain ⟨r, M1, k, M2, q, M3, e1, e2, e3, e4, e5, g3⟩ := pub_w (pub_append hg (xs (i + 1).toNatClampNeg)) (by decide)
  refine k_aload_n G (dc d_law_0 0 rfl) 1 rfl rfl ?_
  refine k_aload_n G (dc d_law_0 1 rfl) 0 rfl rfl ?_
  refine k_iload G (dc d_law_0 2 rfl) 4 rfl ?_
  refine k_iconst G (dc d_law_0 3 rfl) cI_1 ?_
  refine k_iadd G (dc d_law_0 4 rfl) ?_
  refine k_sld H h1 (dc d_law_0 5 rfl) ?_
  refine k_aload_n G (dc d_law_0 6 rfl) 3 rfl rfl ?_
  refine k_cSH G (dc d_law_0 7 rfl) mh_append mst_append ml_RL_97 (c_La_append (gst G) hx hu ho e1 e2) rfl rfl ⟨rfl, rfl⟩ rfl ⟨blC hc rfl, blS hs rfl⟩ ?_
  refine k_istore G (dc d_law_0 8 rfl) rfl rfl ?_
  refine k_aload_n G (dc d_law_0 9 rfl) 3 rfl rfl ?_
  refine k_aload_n G (dc d_law_0 10 rfl) 1 rfl rfl ?_
  refine k_iload G (dc d_law_0 11 rfl) 5 rfl ?_
  refine k_iconst G (dc d_law_0 12 rfl) cI_1 ?_
  refine k_iadd G (dc d_law_0 13 rfl) ?_
  refine k_sld H h1 (dc d_law_0 14 rfl) ?_
  refine k_cVI G (dc d_law_0 15 rfl) kc8 (okL_lt hv (o := 0) 0 rfl) (okL_k hv (o := 0) 0 rfl) mi_Mo_append mv_Mo_append rfl ml_RL_102 (c_Mo_append (gst G) hv e3) rfl rfl ⟨rfl, rfl⟩ rfl ⟨blC2 hc rfl, blS2 hs rfl⟩ ⟨rfl, rfl⟩ ?_
  refine k_istore G (dc d_law_0 16 rfl) rfl rfl ?_
  refine k_aload_n G (dc d_law_0 17 rfl) 4 rfl rfl ?_
  refine k_cVI G (dc d_law_0 18 rfl) kc8 (okL_lt hv (o := 0) 0 rfl) (okL_k hv (o := 0) 0 rfl) mi_Mo_thrown mv_Mo_thrown rfl ml_RL_103 (c_Mo_thrown (gst G) hv (show m_Mo_thrown 235 M3 = some (M3 235 0) from rfl)) rfl rfl ⟨rfl, rfl⟩ rfl ⟨blC2 hc rfl, blS2 hs rfl⟩ ⟨rfl, rfl⟩ ?_
  refine k_iload G (dc d_law_0 19 rfl) 1 rfl ?_
  refine k_icmp_eq G (dc d_law_0 20 rfl) (tgt := 196) rfl (fun _ => ?_) (fun c9 => (c9 e4).elim)
  refine k_iload G (dc d_law_0 23 rfl) 1 rfl ?_
  refine k_if_ne G (dc d_law_0 24 rfl) (tgt := 213) rfl (fun _ => ?_) (fun c9 => ?_)
  · refine k_goto G (dc d_law_0 34 rfl) (tgt := 1763) rfl ?_
    refine k_sub [2, 3, 4, 5, 6] rfl ?_
    exact K M3 _ _ g3 (leC rfl) (leC rfl)
  refine k_aload_n G (dc d_law_0 25 rfl) 5 rfl rfl ?_
  refine k_iconst G (dc d_law_0 26 rfl) cI_0 ?_
  refine k_lld G (dc d_law_0 27 rfl) ho.1 ho.2.1 ho.2.2 (rdN (j := 0) (by omega) (by omega)) ?_
  refine k_iload G (dc d_law_0 28 rfl) 0 rfl ?_
  refine k_i2l G (dc d_law_0 29 rfl) ?_
  refine k_lcmp G (dc d_law_0 30 rfl) ?_
  refine k_if_eq G (dc d_law_0 31 rfl) (tgt := 213) rfl (fun _ => ?_) (fun c8 => (c8 (by rw [e5 c9]; exact lgc_self _)).elim)
  refine k_goto G (dc d_law_0 34 rfl) (tgt := 1763) rfl ?_
  refine k_sub [2, 3, 4, 5, 6] rfl ?_
  exact K M3 _ _ g3 (leC rfl) (leC rfl)
theorem l_1 {X : KX} {B : KB} {L : KLay} {b Ln : Nat} {xs : Nat → Int32} {M : KMem} {cn sn : Nat} {i : Int32} (H : LG X B L b Ln xs) (hg : GI M) (h1 : vp_in (i + 1) Ln) (h2 : vp_in (i + 2) Ln) (h3 : vp_in (i + 3) Ln) (h4 : vp_in (i + 4) Ln) (hc : cn + 100 ≤ 601024) (hs : sn + 1000 ≤ 7293034) (K : ∀ M3 k n, GI M3 → k ≤ cn + 100 → n ≤ sn + 1000 → KK X B L 7 k n M3 1763 (ls5 B b i) []) : KK X B L 7 cn sn M 216 (ls5 B b i) [] := by
  obtain ⟨G, hx, ⟨hu, hv, ho⟩, -⟩ := id H
  obtain ⟨q, M1, e1, f1, M3, e3, f3, g3⟩ := pub_clearText hg
  refine k_aload_n G (dc d_law_1 0 rfl) 1 rfl rfl ?_
  refine k_cVI G (dc d_law_1 1 rfl) kc7 (okL_lt hu (o := 0) 0 rfl) (okL_k hu (o := 0) 0 rfl) mi_SR_clearText mv_SR_clearText rfl ml_RL_106 (c_SR_clearText (gst G) hu e1) rfl rfl ⟨rfl, rfl⟩ rfl ⟨blC hc rfl, blS hs rfl⟩ ⟨rfl, rfl⟩ ?_
  refine k_aload_n G (dc d_law_1 2 rfl) 2 rfl rfl ?_
  refine k_cVI G (dc d_law_1 3 rfl) kc8 (okL_lt hv (o := 0) 0 rfl) (okL_k hv (o := 0) 0 rfl) mi_Mo_clearText mv_Mo_clearText rfl ml_RL_109 (c_Mo_clearText (gst G) hv e3) rfl rfl ⟨rfl, rfl⟩ rfl ⟨blC hc rfl, blS hs rfl⟩ ⟨rfl, rfl⟩ ?_
  refine k_icmp_eq G (dc d_law_1 4 rfl) (tgt := 1763) rfl (fun _ => ?_) (fun c9 => (c9 rfl).elim)
  exact K M3 cn sn g3 (Nat.le_add_right _ _) (Nat.le_add_right _ _)
