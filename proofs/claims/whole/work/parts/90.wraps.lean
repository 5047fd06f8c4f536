/-! laid by wip/whole/lawgen.py: THE LAW'S WRAPPERS: methods with an exception table that catch what they name -/
def CtrH (l : Launch) (B : KB) (y : MethodName) (bytes : ByteArray) (maxL : Nat) (hh : List (Nat × Nat × Nat × Nat)) (rm : Room) (As : List Value) (L : KLay) (M : KMem) (v : Option Value) (L' : KLay) (M' : KMem) : Prop :=
  Met l y (Cond.codeWith y bytes maxL (some .int) hh :: GT) rm (KPc B L M As) (KQc B L' M' v) rm.cells rm.slots (kA B)
def MIH (y : MethodName) (bytes : ByteArray) (maxL : Nat) (hh : List (Nat × Nat × Nat × Nat)) (n : Nat) : Prop :=
  Cond.codeWith y bytes maxL (some .int) hh ∈ GT ∧ Cond.initialized y.cls ∈ GT ∧ (y.cls ≠ "java/lang/invoke/MethodHandle" ∧ y.cls ≠ "java/lang/invoke/VarHandle") ∧ (parseMethodDescriptor y.desc).map (fun d => d.parameters.length) = some n
theorem metH_ofW {l : Launch} {y : MethodName} {ws ws' : List Cond} {rm : Room} {Pc : Array Value → State → Prop} {Qc : Array Value → State → Outcome → State → Prop} {mc ms : Nat} {free : Addr → Prop} {cc : ByteArray} {maxL : Nat} {ret : Option FieldType} {hh : List (Nat × Nat × Nat × Nat)}
    (hy : plainName y.cls = true) (hw : ws = Cond.codeWith y cc maxL ret hh :: ws')
    (body : ∀ p e s m args below meth c s₁, BodyLoose p l y (headSpec ws rm) cc maxL ret e s m args below meth c s₁ → c.maxLocals = maxL → Pc args s →
      W p l e (headSpec ws rm).room s m args below meth c s.heap [] 0 0 (MQ below Qc args s mc ms free) (entryFrame m args maxL)) : Met l y ws rm Pc Qc mc ms free := by
  refine MetFree.of_bodyS (code := cc) (maxLocals := maxL) (ret := ret) hy ?_ ?_
  · intro args s m h hn
    obtain ⟨m9, meth, c, hn9, h1, h2, h3, h4, -, h5, h6, -⟩ := Cond.codeWith_spec (atoms_spec (ws := ws) h _ (by rw [hw]; exact List.mem_cons_self))
    cases hn.symm.trans hn9
    exact ⟨meth, c, h1, h2, h3, h4, h5, h6⟩
  · intro p e s m args below meth c s₁ B hml hP _
    have hh0 : s₁.heap = s.heap := by rw [B.state]; rfl
    obtain ⟨t, a1, o, b1, b2, b3⟩ := body p e s m args below meth c s₁ B hml hP s₁ hh0 (Stand.of_body B)
    exact ⟨t, o, a1, b1, b2, ⟨b3.1, b3.2⟩⟩
theorem mk_H {l : Launch} {B : KB} {y : MethodName} {bytes : ByteArray} {maxL : Nat} {hh : List (Nat × Nat × Nat × Nat)} {rm : Room} {As : List Value} {L L' : KLay} {M M' : KMem} {v : Int32} (hy : plainName y.cls = true) (hst : l.stackTraces = false) (hlen : Nat.ble (lg_sl As).length maxL = true)
    (body : ∀ X : KX, xL X = l → Good X B y.cls bytes maxL rm → (xC X).exceptionTable.toList = tableOf hh → RI X B L' maxL bytes .int rm v M' → KK X B L maxL 0 0 M 0 (lv_args 0 As) []) : CtrH l B y bytes maxL hh rm As L M (some (.int v)) L' M' := by
  refine metH_ofW hy rfl ?_
  intro p e s m args below meth c s₁ Bd hml hv
  obtain ⟨rfl, hW0, hK, hS0⟩ := hv
  have hts := atoms_spec (ws := Cond.codeWith y bytes maxL (some .int) hh :: GT) Bd.pre
  have G : Good (p, l, e, rm, s, m, As.toArray, below, meth, c, MQ below (KQc B L' M' (some (.int v))) As.toArray s rm.cells rm.slots (kA B)) B y.cls bytes maxL rm :=
    ⟨Bd.exec, Bd.bytes, hml, findClass_of_methodNamed Bd.named, fun w hw => hts w (List.mem_cons_of_mem _ hw), hK, hS0, hW0.2.2, Bd.notSynchronized, hst, rfl⟩
  have hb := body _ rfl G (vx_table (x := y) Bd (hts _ List.mem_cons_self)) ?_
  · rw [lg_entry_eq]
    exact hb s.heap [] _ hW0 va_S.rf (lv_entry As (Nat.le_of_ble_eq_true hlen))
  · intro cn sn pc ls h1 h2 hn d H locs la hW hS hla
    refine W.widen (k := rm.cells) (n := rm.slots) (Nat.le_of_ble_eq_true h1) (Nat.le_of_ble_eq_true h2) ?_
    exact W.zret (ty := .int) Bd.exec Bd.bytes Bd.returns hn (fun t ht hWm => ⟨rfl, by rw [ht]; exact hW, hS.F ht⟩) hS.2.2 d Bd.notSynchronized
/-- a row of the table that names the class catches -/
theorem k_catch {X : KX} {B : KB} {L : KLay} {own : String} {cc : ByteArray} {nL : Nat} {rm : Room} {cn sn : Nat} {M : KMem} {pc : Nat} {ls : List (Nat × Value)} {rest : List Value} {E : String} (G : Good X B own cc nL rm) (pre : List ExceptionTableEntry) (x : ExceptionTableEntry) (suf : List ExceptionTableEntry) (hsplit : (xC X).exceptionTable.toList = pre ++ x :: suf)
    (hpass : ∀ z ∈ pre, covers z pc = false ∨ (z.catchType ≠ 0 ∧ ∃ nm : String, Cond.classLink own z.catchType nm ∈ GT ∧ (E, nm) ∈ kNC)) (hx : covers x pc = true) (h0 : x.catchType ≠ 0) (hlink : Cond.classLink own x.catchType E ∈ GT) (hcast : Cond.castable E E ∈ lw_tbl ∧ nwWord (Cond.castable E E) = true)
    (kk : ∀ q, KK X B L nL cn sn M x.handlerPc ls [.ref q]) : KT X B L nL cn sn M pc ls rest E := by
  intro H locs la q ce hW hS hla hce hcv hcl
  have hg := G.2.2.2.2.1
  have hn := G.2.2.2.2.2.2.1.1.2.1
  exact vx_catch G.2.2.2.1 pre x suf hsplit (fun z hz => (hpass z hz).imp id (fun h => ⟨h.1, h.2.choose, hg _ h.2.choose_spec.1, hn _ h.2.choose_spec.2⟩)) hx h0 (hg _ hlink) (va_Nw.use (nw_tabs hcast.2) (G.2.2.2.2.2.2.1.1.1 _ hcast.1 hcast.2)) hce hcv hcl (kk q H locs la hW hS hla)
/-- what a wrapper answers and leaves in the long -/
def wk (xs : List String) (r : String ⊕ Int32) (M1 : KMem) (k : Int32) (M2 : KMem) : Prop := match r with
  | .inr v => k = 0 ∧ M2 = kup M1 244 0 v
  | .inl E => (∃ i, xs[i]? = some E ∧ k = nI (i + 1)) ∧ M2 = M1

theorem cl_L_13 : Cond.classLink RL 13 "java/lang/IllegalArgumentException" ∈ GT := gt_in 475 (by decide +kernel) rfl
theorem cl_L_15 : Cond.classLink RL 15 "java/lang/IllegalStateException" ∈ GT := gt_in 476 (by decide +kernel) rfl
theorem cl_L_28 : Cond.classLink RL 28 "java/lang/IndexOutOfBoundsException" ∈ GT := gt_in 728 (by decide +kernel) rfl
theorem ca_A : Cond.castable "java/lang/IllegalArgumentException" "java/lang/IllegalArgumentException" ∈ lw_tbl ∧ nwWord (Cond.castable "java/lang/IllegalArgumentException" "java/lang/IllegalArgumentException") = true := ⟨List.mem_of_getElem? (i := 483) (by decide +kernel), by decide +kernel⟩
theorem ca_S : Cond.castable "java/lang/IllegalStateException" "java/lang/IllegalStateException" ∈ lw_tbl ∧ nwWord (Cond.castable "java/lang/IllegalStateException" "java/lang/IllegalStateException") = true := ⟨List.mem_of_getElem? (i := 550) (by decide +kernel), by decide +kernel⟩
theorem ca_I : Cond.castable "java/lang/IndexOutOfBoundsException" "java/lang/IndexOutOfBoundsException" ∈ lw_tbl ∧ nwWord (Cond.castable "java/lang/IndexOutOfBoundsException" "java/lang/IndexOutOfBoundsException") = true := ⟨List.mem_of_getElem? (i := 740) (by decide +kernel), by decide +kernel⟩
set_option maxRecDepth 100000 in
theorem mi_SR_append : MI yX10_append cX10_append 2 (some .int) 1 := ⟨gt_in 480 (by rfl) rfl, gt_in 70 (by decide +kernel) rfl, by decide +kernel, by decide +kernel⟩
theorem mv_SR_append : MV yX10_append := ⟨gt_in 478 (by decide +kernel) rfl, gt_in 479 (by decide +kernel) rfl⟩
theorem ml_L_append : Cond.methodLink RL 7 yX10_append ∈ GT := gt_in 477 (by decide +kernel) rfl
set_option maxRecDepth 100000 in
theorem mh_append : MIH yL_append cL_append 4 [(0, 9, 12, 13), (0, 9, 15, 15)] 3 := ⟨gt_in 474 (by rfl) rfl, gt_in 69 (by decide +kernel) rfl, by decide +kernel, by decide +kernel⟩
theorem mst_append : Cond.static yL_append ∈ GT := gt_in 473 (by decide +kernel) rfl
def I_La_append : List (Nat × Instr × Nat) := [(0, .aload_n 2, 1), (1, .iconst 0, 1), (2, .aload_n 0, 1), (3, .iload_n 1, 1), (4, .invokevirtual 7, 3), (7, .i2l, 1), (8, .lastore, 1), (9, .goto 9, 3), (12, .astore_n 3, 1), (13, .iconst 1, 1), (14, .ireturn, 1), (15, .astore_n 3, 1), (16, .iconst 2, 1), (17, .ireturn, 1), (18, .iconst 0, 1), (19, .ireturn, 1)]
theorem d_La_append : decA cL_append I_La_append = true := by decide +kernel
abbrev rm_La_append : Room := { frames := rm_SR_append.frames + 1, cells := rm_SR_append.cells, slots := rm_SR_append.slots, locals := 8 + (2 + 11) + rm_SR_append.locals }
theorem b_La_append {X : KX} {B : KB} {L : KLay} {M M1 M2 : KMem} {p0 : Int32} {r : String ⊕ Int32} {k : Int32} (G : Good X B RL cL_append 4 rm_La_append) (hx : B.2.2.2 = false) (hu : okL L 0 srT) (ho : arL L 244 12 1) (hT : (xC X).exceptionTable.toList = tableOf [(0, 9, 12, 13), (0, 9, 15, 15)]) (e : m_SR_append 0 p0 M = some (r, M1)) (hk : wk [eA, eS] r M1 k M2) (R : RI X B L 4 cL_append .int rm_La_append k M2) : KK X B L 4 0 0 M 0 [(0, .ref (B.1 + 0)), (1, .int p0), (2, .ref (B.1 + 244))] [] := by
  refine k_aload_n G (dc d_La_append 0 rfl) 2 rfl rfl ?_
  refine k_iconst G (dc d_La_append 1 rfl) cI_0 ?_
  refine k_aload_n G (dc d_La_append 2 rfl) 0 rfl rfl ?_
  refine k_iload_n G (dc d_La_append 3 rfl) 1 rfl rfl ?_
  refine k_callVX G (dc d_La_append 4 rfl) kc7 (okL_lt hu (o := 0) 0 rfl) (okL_k hu (o := 0) 0 rfl) mi_SR_append mv_SR_append rfl ml_L_append (c_SR_append (gst G) hx hu e) rfl rfl ⟨rfl, rfl⟩ rfl ⟨rfl, rfl⟩ (fun v9 h9 => ?_) (fun E9 h9 => ?_)
  · obtain ⟨x9, rfl, rfl⟩ := rI_inr h9
    obtain ⟨rfl, rfl⟩ := hk
    refine k_i2l G (dc d_La_append 5 rfl) ?_
    refine k_lst G (dc d_La_append 6 rfl) ho.1 ho.2.1 ho.2.2 (wrN (j := 0) (by omega) (by omega)) ?_
    refine k_goto G (dc d_La_append 7 rfl) (tgt := 18) rfl ?_
    refine k_iconst G (dc d_La_append 14 rfl) cI_0 ?_
    exact R _ _ _ _ rfl rfl rfl (dc d_La_append 15 rfl)
  · have h8 := rI_inl h9
    subst h8
    obtain ⟨⟨i9, hi, rfl⟩, rfl⟩ := hk
    have h7 : i9 = 0 ∨ i9 = 1 := by have h6 := (List.getElem?_eq_some_iff.mp hi).1; simp only [List.length_cons, List.length_nil] at h6; omega
    rcases h7 with rfl | rfl
    · cases hi
      refine k_catch G [] _ _ hT (fun z hz => nomatch hz) rfl (by decide) cl_L_13 ca_A (fun q9 => ?_)
      refine k_astore_n G (dc d_La_append 8 rfl) rfl rfl rfl ?_
      refine k_iconst G (dc d_La_append 9 rfl) cI_1 ?_
      exact R _ _ _ _ rfl rfl rfl (dc d_La_append 10 rfl)
    · cases hi
      refine k_catch G [_] _ _ hT (by
      intro z hz
      simp only [List.mem_cons, List.not_mem_nil, or_false] at hz
      subst hz
      exact Or.inr ⟨by decide, _, cl_L_13, by decide +kernel⟩) rfl (by decide) cl_L_15 ca_S (fun q9 => ?_)
      refine k_astore_n G (dc d_La_append 11 rfl) rfl rfl rfl ?_
      refine k_iconst G (dc d_La_append 12 rfl) cI_2 ?_
      exact R _ _ _ _ rfl rfl rfl (dc d_La_append 13 rfl)
theorem c_La_append {l : Launch} {B : KB} {L : KLay} {M M1 M2 : KMem} {p0 : Int32} {r : String ⊕ Int32} {k : Int32} (hst : l.stackTraces = false) (hx : B.2.2.2 = false) (hu : okL L 0 srT) (ho : arL L 244 12 1) (e : m_SR_append 0 p0 M = some (r, M1)) (hk : wk [eA, eS] r M1 k M2) : CtrH l B yL_append cL_append 4 [(0, 9, 12, 13), (0, 9, 15, 15)] rm_La_append [.ref (B.1 + 0), .int p0, .ref (B.1 + 244)] L M (some (.int k)) L M2 :=
  mk_H rfl hst rfl (fun X hl G hT R => b_La_append G hx hu ho hT e hk R)
set_option maxRecDepth 100000 in
theorem mi_SR_load : MI yX10_load cX10_load 3 (some .int) 0 := ⟨gt_in 574 (by rfl) rfl, gt_in 70 (by decide +kernel) rfl, by decide +kernel, by decide +kernel⟩
theorem mv_SR_load : MV yX10_load := ⟨gt_in 572 (by decide +kernel) rfl, gt_in 573 (by decide +kernel) rfl⟩
theorem ml_L_load : Cond.methodLink RL 17 yX10_load ∈ GT := gt_in 571 (by decide +kernel) rfl
set_option maxRecDepth 100000 in
theorem mh_load : MIH yL_load cL_load 3 [(0, 8, 11, 15)] 2 := ⟨gt_in 570 (by rfl) rfl, gt_in 69 (by decide +kernel) rfl, by decide +kernel, by decide +kernel⟩
theorem mst_load : Cond.static yL_load ∈ GT := gt_in 569 (by decide +kernel) rfl
def I_La_load : List (Nat × Instr × Nat) := [(0, .aload_n 1, 1), (1, .iconst 0, 1), (2, .aload_n 0, 1), (3, .invokevirtual 17, 3), (6, .i2l, 1), (7, .lastore, 1), (8, .goto 6, 3), (11, .astore_n 2, 1), (12, .iconst 1, 1), (13, .ireturn, 1), (14, .iconst 0, 1), (15, .ireturn, 1)]
theorem d_La_load : decA cL_load I_La_load = true := by decide +kernel
abbrev rm_La_load : Room := { frames := rm_SR_load.frames + 1, cells := rm_SR_load.cells, slots := rm_SR_load.slots, locals := 8 + (3 + 11) + rm_SR_load.locals }
theorem b_La_load {X : KX} {B : KB} {L : KLay} {M M1 M2 : KMem}  {r : String ⊕ Int32} {k : Int32} (G : Good X B RL cL_load 3 rm_La_load) (hx : B.2.2.2 = false) (hu : okL L 0 srT) (ho : arL L 244 12 1) (hT : (xC X).exceptionTable.toList = tableOf [(0, 8, 11, 15)]) (e : m_SR_load 0 M = some (r, M1)) (hk : wk [eS] r M1 k M2) (R : RI X B L 3 cL_load .int rm_La_load k M2) : KK X B L 3 0 0 M 0 [(0, .ref (B.1 + 0)), (1, .ref (B.1 + 244))] [] := by
  refine k_aload_n G (dc d_La_load 0 rfl) 1 rfl rfl ?_
  refine k_iconst G (dc d_La_load 1 rfl) cI_0 ?_
  refine k_aload_n G (dc d_La_load 2 rfl) 0 rfl rfl ?_
  refine k_callVX G (dc d_La_load 3 rfl) kc7 (okL_lt hu (o := 0) 0 rfl) (okL_k hu (o := 0) 0 rfl) mi_SR_load mv_SR_load rfl ml_L_load (c_SR_load (gst G) hx hu e) rfl rfl ⟨rfl, rfl⟩ rfl ⟨rfl, rfl⟩ (fun v9 h9 => ?_) (fun E9 h9 => ?_)
  · obtain ⟨x9, rfl, rfl⟩ := rI_inr h9
    obtain ⟨rfl, rfl⟩ := hk
    refine k_i2l G (dc d_La_load 4 rfl) ?_
    refine k_lst G (dc d_La_load 5 rfl) ho.1 ho.2.1 ho.2.2 (wrN (j := 0) (by omega) (by omega)) ?_
    refine k_goto G (dc d_La_load 6 rfl) (tgt := 14) rfl ?_
    refine k_iconst G (dc d_La_load 10 rfl) cI_0 ?_
    exact R _ _ _ _ rfl rfl rfl (dc d_La_load 11 rfl)
  · have h8 := rI_inl h9
    subst h8
    obtain ⟨⟨i9, hi, rfl⟩, rfl⟩ := hk
    have h7 : i9 = 0 := by have h6 := (List.getElem?_eq_some_iff.mp hi).1; simp only [List.length_cons, List.length_nil] at h6; omega
    subst h7
    cases hi
    refine k_catch G [] _ _ hT (fun z hz => nomatch hz) rfl (by decide) cl_L_15 ca_S (fun q9 => ?_)
    refine k_astore_n G (dc d_La_load 7 rfl) rfl rfl rfl ?_
    refine k_iconst G (dc d_La_load 8 rfl) cI_1 ?_
    exact R _ _ _ _ rfl rfl rfl (dc d_La_load 9 rfl)
theorem c_La_load {l : Launch} {B : KB} {L : KLay} {M M1 M2 : KMem}  {r : String ⊕ Int32} {k : Int32} (hst : l.stackTraces = false) (hx : B.2.2.2 = false) (hu : okL L 0 srT) (ho : arL L 244 12 1) (e : m_SR_load 0 M = some (r, M1)) (hk : wk [eS] r M1 k M2) : CtrH l B yL_load cL_load 3 [(0, 8, 11, 15)] rm_La_load [.ref (B.1 + 0), .ref (B.1 + 244)] L M (some (.int k)) L M2 :=
  mk_H rfl hst rfl (fun X hl G hT R => b_La_load G hx hu ho hT e hk R)
set_option maxRecDepth 100000 in
theorem mi_SR_about : MI yX10_about cX10_about 2 (some .int) 1 := ⟨gt_in 706 (by rfl) rfl, gt_in 70 (by decide +kernel) rfl, by decide +kernel, by decide +kernel⟩
theorem mv_SR_about : MV yX10_about := ⟨gt_in 704 (by decide +kernel) rfl, gt_in 705 (by decide +kernel) rfl⟩
theorem ml_L_about : Cond.methodLink RL 21 yX10_about ∈ GT := gt_in 703 (by decide +kernel) rfl
set_option maxRecDepth 100000 in
theorem mh_about : MIH yL_about cL_about 4 [(0, 9, 12, 13)] 3 := ⟨gt_in 702 (by rfl) rfl, gt_in 69 (by decide +kernel) rfl, by decide +kernel, by decide +kernel⟩
theorem mst_about : Cond.static yL_about ∈ GT := gt_in 701 (by decide +kernel) rfl
def I_La_about : List (Nat × Instr × Nat) := [(0, .aload_n 2, 1), (1, .iconst 0, 1), (2, .aload_n 0, 1), (3, .iload_n 1, 1), (4, .invokevirtual 21, 3), (7, .i2l, 1), (8, .lastore, 1), (9, .goto 6, 3), (12, .astore_n 3, 1), (13, .iconst 1, 1), (14, .ireturn, 1), (15, .iconst 0, 1), (16, .ireturn, 1)]
theorem d_La_about : decA cL_about I_La_about = true := by decide +kernel
abbrev rm_La_about : Room := { frames := rm_SR_about.frames + 1, cells := rm_SR_about.cells, slots := rm_SR_about.slots, locals := 8 + (2 + 11) + rm_SR_about.locals }
theorem b_La_about {X : KX} {B : KB} {L : KLay} {M M1 M2 : KMem} {p0 : Int32} {r : String ⊕ Int32} {k : Int32} (G : Good X B RL cL_about 4 rm_La_about) (hx : B.2.2.2 = false) (hu : okL L 0 srT) (ho : arL L 244 12 1) (hT : (xC X).exceptionTable.toList = tableOf [(0, 9, 12, 13)]) (e : m_SR_about 0 p0 M = some (r, M1)) (hk : wk [eA] r M1 k M2) (R : RI X B L 4 cL_about .int rm_La_about k M2) : KK X B L 4 0 0 M 0 [(0, .ref (B.1 + 0)), (1, .int p0), (2, .ref (B.1 + 244))] [] := by
  refine k_aload_n G (dc d_La_about 0 rfl) 2 rfl rfl ?_
  refine k_iconst G (dc d_La_about 1 rfl) cI_0 ?_
  refine k_aload_n G (dc d_La_about 2 rfl) 0 rfl rfl ?_
  refine k_iload_n G (dc d_La_about 3 rfl) 1 rfl rfl ?_
  refine k_callVX G (dc d_La_about 4 rfl) kc7 (okL_lt hu (o := 0) 0 rfl) (okL_k hu (o := 0) 0 rfl) mi_SR_about mv_SR_about rfl ml_L_about (c_SR_about (gst G) hx hu e) rfl rfl ⟨rfl, rfl⟩ rfl ⟨rfl, rfl⟩ (fun v9 h9 => ?_) (fun E9 h9 => ?_)
  · obtain ⟨x9, rfl, rfl⟩ := rI_inr h9
    obtain ⟨rfl, rfl⟩ := hk
    refine k_i2l G (dc d_La_about 5 rfl) ?_
    refine k_lst G (dc d_La_about 6 rfl) ho.1 ho.2.1 ho.2.2 (wrN (j := 0) (by omega) (by omega)) ?_
    refine k_goto G (dc d_La_about 7 rfl) (tgt := 15) rfl ?_
    refine k_iconst G (dc d_La_about 11 rfl) cI_0 ?_
    exact R _ _ _ _ rfl rfl rfl (dc d_La_about 12 rfl)
  · have h8 := rI_inl h9
    subst h8
    obtain ⟨⟨i9, hi, rfl⟩, rfl⟩ := hk
    have h7 : i9 = 0 := by have h6 := (List.getElem?_eq_some_iff.mp hi).1; simp only [List.length_cons, List.length_nil] at h6; omega
    subst h7
    cases hi
    refine k_catch G [] _ _ hT (fun z hz => nomatch hz) rfl (by decide) cl_L_13 ca_A (fun q9 => ?_)
    refine k_astore_n G (dc d_La_about 8 rfl) rfl rfl rfl ?_
    refine k_iconst G (dc d_La_about 9 rfl) cI_1 ?_
    exact R _ _ _ _ rfl rfl rfl (dc d_La_about 10 rfl)
theorem c_La_about {l : Launch} {B : KB} {L : KLay} {M M1 M2 : KMem} {p0 : Int32} {r : String ⊕ Int32} {k : Int32} (hst : l.stackTraces = false) (hx : B.2.2.2 = false) (hu : okL L 0 srT) (ho : arL L 244 12 1) (e : m_SR_about 0 p0 M = some (r, M1)) (hk : wk [eA] r M1 k M2) : CtrH l B yL_about cL_about 4 [(0, 9, 12, 13)] rm_La_about [.ref (B.1 + 0), .int p0, .ref (B.1 + 244)] L M (some (.int k)) L M2 :=
  mk_H rfl hst rfl (fun X hl G hT R => b_La_about G hx hu ho hT e hk R)
set_option maxRecDepth 100000 in
theorem mi_SR_signOf : MI yX10_signOf cX10_signOf 3 (some .int) 2 := ⟨gt_in 732 (by rfl) rfl, gt_in 70 (by decide +kernel) rfl, by decide +kernel, by decide +kernel⟩
theorem mv_SR_signOf : MV yX10_signOf := ⟨gt_in 730 (by decide +kernel) rfl, gt_in 731 (by decide +kernel) rfl⟩
theorem ml_L_signOf : Cond.methodLink RL 24 yX10_signOf ∈ GT := gt_in 729 (by decide +kernel) rfl
set_option maxRecDepth 100000 in
theorem mh_signOf : MIH yL_signOf cL_signOf 5 [(0, 10, 13, 28), (0, 10, 17, 13)] 4 := ⟨gt_in 727 (by rfl) rfl, gt_in 69 (by decide +kernel) rfl, by decide +kernel, by decide +kernel⟩
theorem mst_signOf : Cond.static yL_signOf ∈ GT := gt_in 726 (by decide +kernel) rfl
def I_La_signOf : List (Nat × Instr × Nat) := [(0, .aload_n 3, 1), (1, .iconst 0, 1), (2, .aload_n 0, 1), (3, .iload_n 1, 1), (4, .iload_n 2, 1), (5, .invokevirtual 24, 3), (8, .i2l, 1), (9, .lastore, 1), (10, .goto 11, 3), (13, .astore 4, 2), (15, .iconst 1, 1), (16, .ireturn, 1), (17, .astore 4, 2), (19, .iconst 2, 1), (20, .ireturn, 1), (21, .iconst 0, 1), (22, .ireturn, 1)]
theorem d_La_signOf : decA cL_signOf I_La_signOf = true := by decide +kernel
abbrev rm_La_signOf : Room := { frames := rm_SR_signOf.frames + 1, cells := rm_SR_signOf.cells, slots := rm_SR_signOf.slots, locals := 8 + (3 + 11) + rm_SR_signOf.locals }
theorem b_La_signOf {X : KX} {B : KB} {L : KLay} {M M1 M2 : KMem} {p0 : Int32} {p1 : Int32} {r : String ⊕ Int32} {k : Int32} (G : Good X B RL cL_signOf 5 rm_La_signOf) (hx : B.2.2.2 = false) (hu : okL L 0 srT) (ho : arL L 244 12 1) (hT : (xC X).exceptionTable.toList = tableOf [(0, 10, 13, 28), (0, 10, 17, 13)]) (e : m_SR_signOf 0 p0 p1 M = some (r, M1)) (hk : wk [eI, eA] r M1 k M2) (R : RI X B L 5 cL_signOf .int rm_La_signOf k M2) : KK X B L 5 0 0 M 0 [(0, .ref (B.1 + 0)), (1, .int p0), (2, .int p1), (3, .ref (B.1 + 244))] [] := by
  refine k_aload_n G (dc d_La_signOf 0 rfl) 3 rfl rfl ?_
  refine k_iconst G (dc d_La_signOf 1 rfl) cI_0 ?_
  refine k_aload_n G (dc d_La_signOf 2 rfl) 0 rfl rfl ?_
  refine k_iload_n G (dc d_La_signOf 3 rfl) 1 rfl rfl ?_
  refine k_iload_n G (dc d_La_signOf 4 rfl) 2 rfl rfl ?_
  refine k_callVX G (dc d_La_signOf 5 rfl) kc7 (okL_lt hu (o := 0) 0 rfl) (okL_k hu (o := 0) 0 rfl) mi_SR_signOf mv_SR_signOf rfl ml_L_signOf (c_SR_signOf (gst G) hx hu e) rfl rfl ⟨rfl, rfl⟩ rfl ⟨rfl, rfl⟩ (fun v9 h9 => ?_) (fun E9 h9 => ?_)
  · obtain ⟨x9, rfl, rfl⟩ := rI_inr h9
    obtain ⟨rfl, rfl⟩ := hk
    refine k_i2l G (dc d_La_signOf 6 rfl) ?_
    refine k_lst G (dc d_La_signOf 7 rfl) ho.1 ho.2.1 ho.2.2 (wrN (j := 0) (by omega) (by omega)) ?_
    refine k_goto G (dc d_La_signOf 8 rfl) (tgt := 21) rfl ?_
    refine k_iconst G (dc d_La_signOf 15 rfl) cI_0 ?_
    exact R _ _ _ _ rfl rfl rfl (dc d_La_signOf 16 rfl)
  · have h8 := rI_inl h9
    subst h8
    obtain ⟨⟨i9, hi, rfl⟩, rfl⟩ := hk
    have h7 : i9 = 0 ∨ i9 = 1 := by have h6 := (List.getElem?_eq_some_iff.mp hi).1; simp only [List.length_cons, List.length_nil] at h6; omega
    rcases h7 with rfl | rfl
    · cases hi
      refine k_catch G [] _ _ hT (fun z hz => nomatch hz) rfl (by decide) cl_L_28 ca_I (fun q9 => ?_)
      refine k_astore G (dc d_La_signOf 9 rfl) rfl rfl ?_
      refine k_iconst G (dc d_La_signOf 10 rfl) cI_1 ?_
      exact R _ _ _ _ rfl rfl rfl (dc d_La_signOf 11 rfl)
    · cases hi
      refine k_catch G [_] _ _ hT (by
      intro z hz
      simp only [List.mem_cons, List.not_mem_nil, or_false] at hz
      subst hz
      exact Or.inr ⟨by decide, _, cl_L_28, by decide +kernel⟩) rfl (by decide) cl_L_13 ca_A (fun q9 => ?_)
      refine k_astore G (dc d_La_signOf 12 rfl) rfl rfl ?_
      refine k_iconst G (dc d_La_signOf 13 rfl) cI_2 ?_
      exact R _ _ _ _ rfl rfl rfl (dc d_La_signOf 14 rfl)
theorem c_La_signOf {l : Launch} {B : KB} {L : KLay} {M M1 M2 : KMem} {p0 : Int32} {p1 : Int32} {r : String ⊕ Int32} {k : Int32} (hst : l.stackTraces = false) (hx : B.2.2.2 = false) (hu : okL L 0 srT) (ho : arL L 244 12 1) (e : m_SR_signOf 0 p0 p1 M = some (r, M1)) (hk : wk [eI, eA] r M1 k M2) : CtrH l B yL_signOf cL_signOf 5 [(0, 10, 13, 28), (0, 10, 17, 13)] rm_La_signOf [.ref (B.1 + 0), .int p0, .int p1, .ref (B.1 + 244)] L M (some (.int k)) L M2 :=
  mk_H rfl hst rfl (fun X hl G hT R => b_La_signOf G hx hu ho hT e hk R)
set_option maxRecDepth 100000 in
theorem mi_SR_decreeOf : MI yX10_decreeOf cX10_decreeOf 3 (some .int) 2 := ⟨gt_in 765 (by rfl) rfl, gt_in 70 (by decide +kernel) rfl, by decide +kernel, by decide +kernel⟩
theorem mv_SR_decreeOf : MV yX10_decreeOf := ⟨gt_in 763 (by decide +kernel) rfl, gt_in 764 (by decide +kernel) rfl⟩
theorem ml_L_decreeOf : Cond.methodLink RL 30 yX10_decreeOf ∈ GT := gt_in 762 (by decide +kernel) rfl
set_option maxRecDepth 100000 in
theorem mh_decreeOf : MIH yL_decreeOf cL_decreeOf 5 [(0, 10, 13, 28), (0, 10, 17, 13)] 4 := ⟨gt_in 761 (by rfl) rfl, gt_in 69 (by decide +kernel) rfl, by decide +kernel, by decide +kernel⟩
theorem mst_decreeOf : Cond.static yL_decreeOf ∈ GT := gt_in 760 (by decide +kernel) rfl
def I_La_decreeOf : List (Nat × Instr × Nat) := [(0, .aload_n 3, 1), (1, .iconst 0, 1), (2, .aload_n 0, 1), (3, .iload_n 1, 1), (4, .iload_n 2, 1), (5, .invokevirtual 30, 3), (8, .i2l, 1), (9, .lastore, 1), (10, .goto 11, 3), (13, .astore 4, 2), (15, .iconst 1, 1), (16, .ireturn, 1), (17, .astore 4, 2), (19, .iconst 2, 1), (20, .ireturn, 1), (21, .iconst 0, 1), (22, .ireturn, 1)]
theorem d_La_decreeOf : decA cL_decreeOf I_La_decreeOf = true := by decide +kernel
abbrev rm_La_decreeOf : Room := { frames := rm_SR_decreeOf.frames + 1, cells := rm_SR_decreeOf.cells, slots := rm_SR_decreeOf.slots, locals := 8 + (3 + 11) + rm_SR_decreeOf.locals }
theorem b_La_decreeOf {X : KX} {B : KB} {L : KLay} {M M2 : KMem} {p0 : Int32} {p1 : Int32} {r : String ⊕ Int32} {k : Int32} (G : Good X B RL cL_decreeOf 5 rm_La_decreeOf) (hx : B.2.2.2 = false) (hu : okL L 0 srT) (ho : arL L 244 12 1) (hT : (xC X).exceptionTable.toList = tableOf [(0, 10, 13, 28), (0, 10, 17, 13)]) (e : m_SR_decreeOf 0 p0 p1 M = some r) (hk : wk [eI, eA] r M k M2) (R : RI X B L 5 cL_decreeOf .int rm_La_decreeOf k M2) : KK X B L 5 0 0 M 0 [(0, .ref (B.1 + 0)), (1, .int p0), (2, .int p1), (3, .ref (B.1 + 244))] [] := by
  refine k_aload_n G (dc d_La_decreeOf 0 rfl) 3 rfl rfl ?_
  refine k_iconst G (dc d_La_decreeOf 1 rfl) cI_0 ?_
  refine k_aload_n G (dc d_La_decreeOf 2 rfl) 0 rfl rfl ?_
  refine k_iload_n G (dc d_La_decreeOf 3 rfl) 1 rfl rfl ?_
  refine k_iload_n G (dc d_La_decreeOf 4 rfl) 2 rfl rfl ?_
  refine k_callVX G (dc d_La_decreeOf 5 rfl) kc7 (okL_lt hu (o := 0) 0 rfl) (okL_k hu (o := 0) 0 rfl) mi_SR_decreeOf mv_SR_decreeOf rfl ml_L_decreeOf (c_SR_decreeOf (gst G) hx hu e) rfl rfl ⟨rfl, rfl⟩ rfl ⟨rfl, rfl⟩ (fun v9 h9 => ?_) (fun E9 h9 => ?_)
  · obtain ⟨x9, rfl, rfl⟩ := rI_inr h9
    obtain ⟨rfl, rfl⟩ := hk
    refine k_i2l G (dc d_La_decreeOf 6 rfl) ?_
    refine k_lst G (dc d_La_decreeOf 7 rfl) ho.1 ho.2.1 ho.2.2 (wrN (j := 0) (by omega) (by omega)) ?_
    refine k_goto G (dc d_La_decreeOf 8 rfl) (tgt := 21) rfl ?_
    refine k_iconst G (dc d_La_decreeOf 15 rfl) cI_0 ?_
    exact R _ _ _ _ rfl rfl rfl (dc d_La_decreeOf 16 rfl)
  · have h8 := rI_inl h9
    subst h8
    obtain ⟨⟨i9, hi, rfl⟩, rfl⟩ := hk
    have h7 : i9 = 0 ∨ i9 = 1 := by have h6 := (List.getElem?_eq_some_iff.mp hi).1; simp only [List.length_cons, List.length_nil] at h6; omega
    rcases h7 with rfl | rfl
    · cases hi
      refine k_catch G [] _ _ hT (fun z hz => nomatch hz) rfl (by decide) cl_L_28 ca_I (fun q9 => ?_)
      refine k_astore G (dc d_La_decreeOf 9 rfl) rfl rfl ?_
      refine k_iconst G (dc d_La_decreeOf 10 rfl) cI_1 ?_
      exact R _ _ _ _ rfl rfl rfl (dc d_La_decreeOf 11 rfl)
    · cases hi
      refine k_catch G [_] _ _ hT (by
      intro z hz
      simp only [List.mem_cons, List.not_mem_nil, or_false] at hz
      subst hz
      exact Or.inr ⟨by decide, _, cl_L_28, by decide +kernel⟩) rfl (by decide) cl_L_13 ca_A (fun q9 => ?_)
      refine k_astore G (dc d_La_decreeOf 12 rfl) rfl rfl ?_
      refine k_iconst G (dc d_La_decreeOf 13 rfl) cI_2 ?_
      exact R _ _ _ _ rfl rfl rfl (dc d_La_decreeOf 14 rfl)
theorem c_La_decreeOf {l : Launch} {B : KB} {L : KLay} {M M2 : KMem} {p0 : Int32} {p1 : Int32} {r : String ⊕ Int32} {k : Int32} (hst : l.stackTraces = false) (hx : B.2.2.2 = false) (hu : okL L 0 srT) (ho : arL L 244 12 1) (e : m_SR_decreeOf 0 p0 p1 M = some r) (hk : wk [eI, eA] r M k M2) : CtrH l B yL_decreeOf cL_decreeOf 5 [(0, 10, 13, 28), (0, 10, 17, 13)] rm_La_decreeOf [.ref (B.1 + 0), .int p0, .int p1, .ref (B.1 + 244)] L M (some (.int k)) L M2 :=
  mk_H rfl hst rfl (fun X hl G hT R => b_La_decreeOf G hx hu ho hT e hk R)
set_option maxRecDepth 100000 in
theorem mi_SR_guildOf : MI yX10_guildOf cX10_guildOf 3 (some .int) 2 := ⟨gt_in 783 (by rfl) rfl, gt_in 70 (by decide +kernel) rfl, by decide +kernel, by decide +kernel⟩
theorem mv_SR_guildOf : MV yX10_guildOf := ⟨gt_in 781 (by decide +kernel) rfl, gt_in 782 (by decide +kernel) rfl⟩
theorem ml_L_guildOf : Cond.methodLink RL 33 yX10_guildOf ∈ GT := gt_in 780 (by decide +kernel) rfl
set_option maxRecDepth 100000 in
theorem mh_guildOf : MIH yL_guildOf cL_guildOf 5 [(0, 10, 13, 28), (0, 10, 17, 13)] 4 := ⟨gt_in 779 (by rfl) rfl, gt_in 69 (by decide +kernel) rfl, by decide +kernel, by decide +kernel⟩
theorem mst_guildOf : Cond.static yL_guildOf ∈ GT := gt_in 778 (by decide +kernel) rfl
def I_La_guildOf : List (Nat × Instr × Nat) := [(0, .aload_n 3, 1), (1, .iconst 0, 1), (2, .aload_n 0, 1), (3, .iload_n 1, 1), (4, .iload_n 2, 1), (5, .invokevirtual 33, 3), (8, .i2l, 1), (9, .lastore, 1), (10, .goto 11, 3), (13, .astore 4, 2), (15, .iconst 1, 1), (16, .ireturn, 1), (17, .astore 4, 2), (19, .iconst 2, 1), (20, .ireturn, 1), (21, .iconst 0, 1), (22, .ireturn, 1)]
theorem d_La_guildOf : decA cL_guildOf I_La_guildOf = true := by decide +kernel
abbrev rm_La_guildOf : Room := { frames := rm_SR_guildOf.frames + 1, cells := rm_SR_guildOf.cells, slots := rm_SR_guildOf.slots, locals := 8 + (3 + 11) + rm_SR_guildOf.locals }
theorem b_La_guildOf {X : KX} {B : KB} {L : KLay} {M M2 : KMem} {p0 : Int32} {p1 : Int32} {r : String ⊕ Int32} {k : Int32} (G : Good X B RL cL_guildOf 5 rm_La_guildOf) (hx : B.2.2.2 = false) (hu : okL L 0 srT) (ho : arL L 244 12 1) (hT : (xC X).exceptionTable.toList = tableOf [(0, 10, 13, 28), (0, 10, 17, 13)]) (e : m_SR_guildOf 0 p0 p1 M = some r) (hk : wk [eI, eA] r M k M2) (R : RI X B L 5 cL_guildOf .int rm_La_guildOf k M2) : KK X B L 5 0 0 M 0 [(0, .ref (B.1 + 0)), (1, .int p0), (2, .int p1), (3, .ref (B.1 + 244))] [] := by
  refine k_aload_n G (dc d_La_guildOf 0 rfl) 3 rfl rfl ?_
  refine k_iconst G (dc d_La_guildOf 1 rfl) cI_0 ?_
  refine k_aload_n G (dc d_La_guildOf 2 rfl) 0 rfl rfl ?_
  refine k_iload_n G (dc d_La_guildOf 3 rfl) 1 rfl rfl ?_
  refine k_iload_n G (dc d_La_guildOf 4 rfl) 2 rfl rfl ?_
  refine k_callVX G (dc d_La_guildOf 5 rfl) kc7 (okL_lt hu (o := 0) 0 rfl) (okL_k hu (o := 0) 0 rfl) mi_SR_guildOf mv_SR_guildOf rfl ml_L_guildOf (c_SR_guildOf (gst G) hx hu e) rfl rfl ⟨rfl, rfl⟩ rfl ⟨rfl, rfl⟩ (fun v9 h9 => ?_) (fun E9 h9 => ?_)
  · obtain ⟨x9, rfl, rfl⟩ := rI_inr h9
    obtain ⟨rfl, rfl⟩ := hk
    refine k_i2l G (dc d_La_guildOf 6 rfl) ?_
    refine k_lst G (dc d_La_guildOf 7 rfl) ho.1 ho.2.1 ho.2.2 (wrN (j := 0) (by omega) (by omega)) ?_
    refine k_goto G (dc d_La_guildOf 8 rfl) (tgt := 21) rfl ?_
    refine k_iconst G (dc d_La_guildOf 15 rfl) cI_0 ?_
    exact R _ _ _ _ rfl rfl rfl (dc d_La_guildOf 16 rfl)
  · have h8 := rI_inl h9
    subst h8
    obtain ⟨⟨i9, hi, rfl⟩, rfl⟩ := hk
    have h7 : i9 = 0 ∨ i9 = 1 := by have h6 := (List.getElem?_eq_some_iff.mp hi).1; simp only [List.length_cons, List.length_nil] at h6; omega
    rcases h7 with rfl | rfl
    · cases hi
      refine k_catch G [] _ _ hT (fun z hz => nomatch hz) rfl (by decide) cl_L_28 ca_I (fun q9 => ?_)
      refine k_astore G (dc d_La_guildOf 9 rfl) rfl rfl ?_
      refine k_iconst G (dc d_La_guildOf 10 rfl) cI_1 ?_
      exact R _ _ _ _ rfl rfl rfl (dc d_La_guildOf 11 rfl)
    · cases hi
      refine k_catch G [_] _ _ hT (by
      intro z hz
      simp only [List.mem_cons, List.not_mem_nil, or_false] at hz
      subst hz
      exact Or.inr ⟨by decide, _, cl_L_28, by decide +kernel⟩) rfl (by decide) cl_L_13 ca_A (fun q9 => ?_)
      refine k_astore G (dc d_La_guildOf 12 rfl) rfl rfl ?_
      refine k_iconst G (dc d_La_guildOf 13 rfl) cI_2 ?_
      exact R _ _ _ _ rfl rfl rfl (dc d_La_guildOf 14 rfl)
theorem c_La_guildOf {l : Launch} {B : KB} {L : KLay} {M M2 : KMem} {p0 : Int32} {p1 : Int32} {r : String ⊕ Int32} {k : Int32} (hst : l.stackTraces = false) (hx : B.2.2.2 = false) (hu : okL L 0 srT) (ho : arL L 244 12 1) (e : m_SR_guildOf 0 p0 p1 M = some r) (hk : wk [eI, eA] r M k M2) : CtrH l B yL_guildOf cL_guildOf 5 [(0, 10, 13, 28), (0, 10, 17, 13)] rm_La_guildOf [.ref (B.1 + 0), .int p0, .int p1, .ref (B.1 + 244)] L M (some (.int k)) L M2 :=
  mk_H rfl hst rfl (fun X hl G hT R => b_La_guildOf G hx hu ho hT e hk R)
set_option maxRecDepth 100000 in
theorem mi_SR_right : MI yX10_right cX10_right 3 (some .int) 2 := ⟨gt_in 803 (by rfl) rfl, gt_in 70 (by decide +kernel) rfl, by decide +kernel, by decide +kernel⟩
theorem mv_SR_right : MV yX10_right := ⟨gt_in 801 (by decide +kernel) rfl, gt_in 802 (by decide +kernel) rfl⟩
theorem ml_L_right : Cond.methodLink RL 36 yX10_right ∈ GT := gt_in 800 (by decide +kernel) rfl
set_option maxRecDepth 100000 in
theorem mh_right : MIH yL_right cL_right 5 [(0, 10, 13, 28), (0, 10, 17, 13)] 4 := ⟨gt_in 799 (by rfl) rfl, gt_in 69 (by decide +kernel) rfl, by decide +kernel, by decide +kernel⟩
theorem mst_right : Cond.static yL_right ∈ GT := gt_in 798 (by decide +kernel) rfl
def I_La_right : List (Nat × Instr × Nat) := [(0, .aload_n 3, 1), (1, .iconst 0, 1), (2, .aload_n 0, 1), (3, .iload_n 1, 1), (4, .iload_n 2, 1), (5, .invokevirtual 36, 3), (8, .i2l, 1), (9, .lastore, 1), (10, .goto 11, 3), (13, .astore 4, 2), (15, .iconst 1, 1), (16, .ireturn, 1), (17, .astore 4, 2), (19, .iconst 2, 1), (20, .ireturn, 1), (21, .iconst 0, 1), (22, .ireturn, 1)]
theorem d_La_right : decA cL_right I_La_right = true := by decide +kernel
abbrev rm_La_right : Room := { frames := rm_SR_right.frames + 1, cells := rm_SR_right.cells, slots := rm_SR_right.slots, locals := 8 + (3 + 11) + rm_SR_right.locals }
theorem b_La_right {X : KX} {B : KB} {L : KLay} {M M1 M2 : KMem} {p0 : Int32} {p1 : Int32} {r : String ⊕ Int32} {k : Int32} (G : Good X B RL cL_right 5 rm_La_right) (hx : B.2.2.2 = false) (hu : okL L 0 srT) (ho : arL L 244 12 1) (hT : (xC X).exceptionTable.toList = tableOf [(0, 10, 13, 28), (0, 10, 17, 13)]) (e : m_SR_right 0 p0 p1 M = some (r, M1)) (hk : wk [eI, eA] r M1 k M2) (R : RI X B L 5 cL_right .int rm_La_right k M2) : KK X B L 5 0 0 M 0 [(0, .ref (B.1 + 0)), (1, .int p0), (2, .int p1), (3, .ref (B.1 + 244))] [] := by
  refine k_aload_n G (dc d_La_right 0 rfl) 3 rfl rfl ?_
  refine k_iconst G (dc d_La_right 1 rfl) cI_0 ?_
  refine k_aload_n G (dc d_La_right 2 rfl) 0 rfl rfl ?_
  refine k_iload_n G (dc d_La_right 3 rfl) 1 rfl rfl ?_
  refine k_iload_n G (dc d_La_right 4 rfl) 2 rfl rfl ?_
  refine k_callVX G (dc d_La_right 5 rfl) kc7 (okL_lt hu (o := 0) 0 rfl) (okL_k hu (o := 0) 0 rfl) mi_SR_right mv_SR_right rfl ml_L_right (c_SR_right (gst G) hx hu e) rfl rfl ⟨rfl, rfl⟩ rfl ⟨rfl, rfl⟩ (fun v9 h9 => ?_) (fun E9 h9 => ?_)
  · obtain ⟨x9, rfl, rfl⟩ := rI_inr h9
    obtain ⟨rfl, rfl⟩ := hk
    refine k_i2l G (dc d_La_right 6 rfl) ?_
    refine k_lst G (dc d_La_right 7 rfl) ho.1 ho.2.1 ho.2.2 (wrN (j := 0) (by omega) (by omega)) ?_
    refine k_goto G (dc d_La_right 8 rfl) (tgt := 21) rfl ?_
    refine k_iconst G (dc d_La_right 15 rfl) cI_0 ?_
    exact R _ _ _ _ rfl rfl rfl (dc d_La_right 16 rfl)
  · have h8 := rI_inl h9
    subst h8
    obtain ⟨⟨i9, hi, rfl⟩, rfl⟩ := hk
    have h7 : i9 = 0 ∨ i9 = 1 := by have h6 := (List.getElem?_eq_some_iff.mp hi).1; simp only [List.length_cons, List.length_nil] at h6; omega
    rcases h7 with rfl | rfl
    · cases hi
      refine k_catch G [] _ _ hT (fun z hz => nomatch hz) rfl (by decide) cl_L_28 ca_I (fun q9 => ?_)
      refine k_astore G (dc d_La_right 9 rfl) rfl rfl ?_
      refine k_iconst G (dc d_La_right 10 rfl) cI_1 ?_
      exact R _ _ _ _ rfl rfl rfl (dc d_La_right 11 rfl)
    · cases hi
      refine k_catch G [_] _ _ hT (by
      intro z hz
      simp only [List.mem_cons, List.not_mem_nil, or_false] at hz
      subst hz
      exact Or.inr ⟨by decide, _, cl_L_28, by decide +kernel⟩) rfl (by decide) cl_L_13 ca_A (fun q9 => ?_)
      refine k_astore G (dc d_La_right 12 rfl) rfl rfl ?_
      refine k_iconst G (dc d_La_right 13 rfl) cI_2 ?_
      exact R _ _ _ _ rfl rfl rfl (dc d_La_right 14 rfl)
theorem c_La_right {l : Launch} {B : KB} {L : KLay} {M M1 M2 : KMem} {p0 : Int32} {p1 : Int32} {r : String ⊕ Int32} {k : Int32} (hst : l.stackTraces = false) (hx : B.2.2.2 = false) (hu : okL L 0 srT) (ho : arL L 244 12 1) (e : m_SR_right 0 p0 p1 M = some (r, M1)) (hk : wk [eI, eA] r M1 k M2) : CtrH l B yL_right cL_right 5 [(0, 10, 13, 28), (0, 10, 17, 13)] rm_La_right [.ref (B.1 + 0), .int p0, .int p1, .ref (B.1 + 244)] L M (some (.int k)) L M2 :=
  mk_H rfl hst rfl (fun X hl G hT R => b_La_right G hx hu ho hT e hk R)
set_option maxRecDepth 100000 in
theorem mi_SR_setting : MI yX10_setting cX10_setting 2 (some .int) 1 := ⟨gt_in 838 (by rfl) rfl, gt_in 70 (by decide +kernel) rfl, by decide +kernel, by decide +kernel⟩
theorem mv_SR_setting : MV yX10_setting := ⟨gt_in 836 (by decide +kernel) rfl, gt_in 837 (by decide +kernel) rfl⟩
theorem ml_L_setting : Cond.methodLink RL 39 yX10_setting ∈ GT := gt_in 835 (by decide +kernel) rfl
set_option maxRecDepth 100000 in
theorem mh_setting : MIH yL_setting cL_setting 4 [(0, 9, 12, 13)] 3 := ⟨gt_in 834 (by rfl) rfl, gt_in 69 (by decide +kernel) rfl, by decide +kernel, by decide +kernel⟩
theorem mst_setting : Cond.static yL_setting ∈ GT := gt_in 833 (by decide +kernel) rfl
def I_La_setting : List (Nat × Instr × Nat) := [(0, .aload_n 2, 1), (1, .iconst 0, 1), (2, .aload_n 0, 1), (3, .iload_n 1, 1), (4, .invokevirtual 39, 3), (7, .i2l, 1), (8, .lastore, 1), (9, .goto 6, 3), (12, .astore_n 3, 1), (13, .iconst 1, 1), (14, .ireturn, 1), (15, .iconst 0, 1), (16, .ireturn, 1)]
theorem d_La_setting : decA cL_setting I_La_setting = true := by decide +kernel
abbrev rm_La_setting : Room := { frames := rm_SR_setting.frames + 1, cells := rm_SR_setting.cells, slots := rm_SR_setting.slots, locals := 8 + (2 + 11) + rm_SR_setting.locals }
theorem b_La_setting {X : KX} {B : KB} {L : KLay} {M M2 : KMem} {p0 : Int32} {r : String ⊕ Int32} {k : Int32} (G : Good X B RL cL_setting 4 rm_La_setting) (hx : B.2.2.2 = false) (hu : okL L 0 srT) (ho : arL L 244 12 1) (hT : (xC X).exceptionTable.toList = tableOf [(0, 9, 12, 13)]) (e : m_SR_setting 0 p0 M = some r) (hk : wk [eA] r M k M2) (R : RI X B L 4 cL_setting .int rm_La_setting k M2) : KK X B L 4 0 0 M 0 [(0, .ref (B.1 + 0)), (1, .int p0), (2, .ref (B.1 + 244))] [] := by
  refine k_aload_n G (dc d_La_setting 0 rfl) 2 rfl rfl ?_
  refine k_iconst G (dc d_La_setting 1 rfl) cI_0 ?_
  refine k_aload_n G (dc d_La_setting 2 rfl) 0 rfl rfl ?_
  refine k_iload_n G (dc d_La_setting 3 rfl) 1 rfl rfl ?_
  refine k_callVX G (dc d_La_setting 4 rfl) kc7 (okL_lt hu (o := 0) 0 rfl) (okL_k hu (o := 0) 0 rfl) mi_SR_setting mv_SR_setting rfl ml_L_setting (c_SR_setting (gst G) hx hu e) rfl rfl ⟨rfl, rfl⟩ rfl ⟨rfl, rfl⟩ (fun v9 h9 => ?_) (fun E9 h9 => ?_)
  · obtain ⟨x9, rfl, rfl⟩ := rI_inr h9
    obtain ⟨rfl, rfl⟩ := hk
    refine k_i2l G (dc d_La_setting 5 rfl) ?_
    refine k_lst G (dc d_La_setting 6 rfl) ho.1 ho.2.1 ho.2.2 (wrN (j := 0) (by omega) (by omega)) ?_
    refine k_goto G (dc d_La_setting 7 rfl) (tgt := 15) rfl ?_
    refine k_iconst G (dc d_La_setting 11 rfl) cI_0 ?_
    exact R _ _ _ _ rfl rfl rfl (dc d_La_setting 12 rfl)
  · have h8 := rI_inl h9
    subst h8
    obtain ⟨⟨i9, hi, rfl⟩, rfl⟩ := hk
    have h7 : i9 = 0 := by have h6 := (List.getElem?_eq_some_iff.mp hi).1; simp only [List.length_cons, List.length_nil] at h6; omega
    subst h7
    cases hi
    refine k_catch G [] _ _ hT (fun z hz => nomatch hz) rfl (by decide) cl_L_13 ca_A (fun q9 => ?_)
    refine k_astore_n G (dc d_La_setting 8 rfl) rfl rfl rfl ?_
    refine k_iconst G (dc d_La_setting 9 rfl) cI_1 ?_
    exact R _ _ _ _ rfl rfl rfl (dc d_La_setting 10 rfl)
theorem c_La_setting {l : Launch} {B : KB} {L : KLay} {M M2 : KMem} {p0 : Int32} {r : String ⊕ Int32} {k : Int32} (hst : l.stackTraces = false) (hx : B.2.2.2 = false) (hu : okL L 0 srT) (ho : arL L 244 12 1) (e : m_SR_setting 0 p0 M = some r) (hk : wk [eA] r M k M2) : CtrH l B yL_setting cL_setting 4 [(0, 9, 12, 13)] rm_La_setting [.ref (B.1 + 0), .int p0, .ref (B.1 + 244)] L M (some (.int k)) L M2 :=
  mk_H rfl hst rfl (fun X hl G hT R => b_La_setting G hx hu ho hT e hk R)
set_option maxRecDepth 100000 in
theorem mi_SR_sign : MI yX10_sign cX10_sign 3 (some .int) 2 := ⟨gt_in 849 (by rfl) rfl, gt_in 70 (by decide +kernel) rfl, by decide +kernel, by decide +kernel⟩
theorem mv_SR_sign : MV yX10_sign := ⟨gt_in 847 (by decide +kernel) rfl, gt_in 848 (by decide +kernel) rfl⟩
theorem ml_L_sign : Cond.methodLink RL 42 yX10_sign ∈ GT := gt_in 846 (by decide +kernel) rfl
set_option maxRecDepth 100000 in
theorem mh_sign : MIH yL_sign cL_sign 5 [(0, 10, 13, 28), (0, 10, 17, 13), (0, 10, 21, 15)] 4 := ⟨gt_in 845 (by rfl) rfl, gt_in 69 (by decide +kernel) rfl, by decide +kernel, by decide +kernel⟩
theorem mst_sign : Cond.static yL_sign ∈ GT := gt_in 844 (by decide +kernel) rfl
def I_La_sign : List (Nat × Instr × Nat) := [(0, .aload_n 3, 1), (1, .iconst 0, 1), (2, .aload_n 0, 1), (3, .iload_n 1, 1), (4, .iload_n 2, 1), (5, .invokevirtual 42, 3), (8, .i2l, 1), (9, .lastore, 1), (10, .goto 15, 3), (13, .astore 4, 2), (15, .iconst 1, 1), (16, .ireturn, 1), (17, .astore 4, 2), (19, .iconst 2, 1), (20, .ireturn, 1), (21, .astore 4, 2), (23, .iconst 3, 1), (24, .ireturn, 1), (25, .iconst 0, 1), (26, .ireturn, 1)]
theorem d_La_sign : decA cL_sign I_La_sign = true := by decide +kernel
abbrev rm_La_sign : Room := { frames := rm_SR_sign.frames + 1, cells := rm_SR_sign.cells, slots := rm_SR_sign.slots, locals := 8 + (3 + 11) + rm_SR_sign.locals }
theorem b_La_sign {X : KX} {B : KB} {L : KLay} {M M1 M2 : KMem} {p0 : Int32} {p1 : Int32} {r : String ⊕ Int32} {k : Int32} (G : Good X B RL cL_sign 5 rm_La_sign) (hx : B.2.2.2 = false) (hu : okL L 0 srT) (ho : arL L 244 12 1) (hT : (xC X).exceptionTable.toList = tableOf [(0, 10, 13, 28), (0, 10, 17, 13), (0, 10, 21, 15)]) (e : m_SR_sign 0 p0 p1 M = some (r, M1)) (hk : wk [eI, eA, eS] r M1 k M2) (R : RI X B L 5 cL_sign .int rm_La_sign k M2) : KK X B L 5 0 0 M 0 [(0, .ref (B.1 + 0)), (1, .int p0), (2, .int p1), (3, .ref (B.1 + 244))] [] := by
  refine k_aload_n G (dc d_La_sign 0 rfl) 3 rfl rfl ?_
  refine k_iconst G (dc d_La_sign 1 rfl) cI_0 ?_
  refine k_aload_n G (dc d_La_sign 2 rfl) 0 rfl rfl ?_
  refine k_iload_n G (dc d_La_sign 3 rfl) 1 rfl rfl ?_
  refine k_iload_n G (dc d_La_sign 4 rfl) 2 rfl rfl ?_
  refine k_callVX G (dc d_La_sign 5 rfl) kc7 (okL_lt hu (o := 0) 0 rfl) (okL_k hu (o := 0) 0 rfl) mi_SR_sign mv_SR_sign rfl ml_L_sign (c_SR_sign (gst G) hx hu e) rfl rfl ⟨rfl, rfl⟩ rfl ⟨rfl, rfl⟩ (fun v9 h9 => ?_) (fun E9 h9 => ?_)
  · obtain ⟨x9, rfl, rfl⟩ := rI_inr h9
    obtain ⟨rfl, rfl⟩ := hk
    refine k_i2l G (dc d_La_sign 6 rfl) ?_
    refine k_lst G (dc d_La_sign 7 rfl) ho.1 ho.2.1 ho.2.2 (wrN (j := 0) (by omega) (by omega)) ?_
    refine k_goto G (dc d_La_sign 8 rfl) (tgt := 25) rfl ?_
    refine k_iconst G (dc d_La_sign 18 rfl) cI_0 ?_
    exact R _ _ _ _ rfl rfl rfl (dc d_La_sign 19 rfl)
  · have h8 := rI_inl h9
    subst h8
    obtain ⟨⟨i9, hi, rfl⟩, rfl⟩ := hk
    have h7 : i9 = 0 ∨ i9 = 1 ∨ i9 = 2 := by have h6 := (List.getElem?_eq_some_iff.mp hi).1; simp only [List.length_cons, List.length_nil] at h6; omega
    rcases h7 with rfl | rfl | rfl
    · cases hi
      refine k_catch G [] _ _ hT (fun z hz => nomatch hz) rfl (by decide) cl_L_28 ca_I (fun q9 => ?_)
      refine k_astore G (dc d_La_sign 9 rfl) rfl rfl ?_
      refine k_iconst G (dc d_La_sign 10 rfl) cI_1 ?_
      exact R _ _ _ _ rfl rfl rfl (dc d_La_sign 11 rfl)
    · cases hi
      refine k_catch G [_] _ _ hT (by
      intro z hz
      simp only [List.mem_cons, List.not_mem_nil, or_false] at hz
      subst hz
      exact Or.inr ⟨by decide, _, cl_L_28, by decide +kernel⟩) rfl (by decide) cl_L_13 ca_A (fun q9 => ?_)
      refine k_astore G (dc d_La_sign 12 rfl) rfl rfl ?_
      refine k_iconst G (dc d_La_sign 13 rfl) cI_2 ?_
      exact R _ _ _ _ rfl rfl rfl (dc d_La_sign 14 rfl)
    · cases hi
      refine k_catch G [_, _] _ _ hT (by
      intro z hz
      simp only [List.mem_cons, List.not_mem_nil, or_false] at hz
      rcases hz with rfl | rfl
      · exact Or.inr ⟨by decide, _, cl_L_28, by decide +kernel⟩
      · exact Or.inr ⟨by decide, _, cl_L_13, by decide +kernel⟩) rfl (by decide) cl_L_15 ca_S (fun q9 => ?_)
      refine k_astore G (dc d_La_sign 15 rfl) rfl rfl ?_
      refine k_iconst G (dc d_La_sign 16 rfl) cI_3 ?_
      exact R _ _ _ _ rfl rfl rfl (dc d_La_sign 17 rfl)
theorem c_La_sign {l : Launch} {B : KB} {L : KLay} {M M1 M2 : KMem} {p0 : Int32} {p1 : Int32} {r : String ⊕ Int32} {k : Int32} (hst : l.stackTraces = false) (hx : B.2.2.2 = false) (hu : okL L 0 srT) (ho : arL L 244 12 1) (e : m_SR_sign 0 p0 p1 M = some (r, M1)) (hk : wk [eI, eA, eS] r M1 k M2) : CtrH l B yL_sign cL_sign 5 [(0, 10, 13, 28), (0, 10, 17, 13), (0, 10, 21, 15)] rm_La_sign [.ref (B.1 + 0), .int p0, .int p1, .ref (B.1 + 244)] L M (some (.int k)) L M2 :=
  mk_H rfl hst rfl (fun X hl G hT R => b_La_sign G hx hu ho hT e hk R)
set_option maxRecDepth 100000 in
theorem mi_SR_decree : MI yX10_decree cX10_decree 5 (some .int) 4 := ⟨gt_in 882 (by rfl) rfl, gt_in 70 (by decide +kernel) rfl, by decide +kernel, by decide +kernel⟩
theorem mv_SR_decree : MV yX10_decree := ⟨gt_in 880 (by decide +kernel) rfl, gt_in 881 (by decide +kernel) rfl⟩
theorem ml_L_decree : Cond.methodLink RL 45 yX10_decree ∈ GT := gt_in 879 (by decide +kernel) rfl
set_option maxRecDepth 100000 in
theorem mh_decree : MIH yL_decree cL_decree 7 [(0, 14, 17, 13), (0, 14, 21, 15)] 6 := ⟨gt_in 878 (by rfl) rfl, gt_in 69 (by decide +kernel) rfl, by decide +kernel, by decide +kernel⟩
theorem mst_decree : Cond.static yL_decree ∈ GT := gt_in 877 (by decide +kernel) rfl
def I_La_decree : List (Nat × Instr × Nat) := [(0, .aload 5, 2), (2, .iconst 0, 1), (3, .aload_n 0, 1), (4, .iload_n 1, 1), (5, .iload_n 2, 1), (6, .iload_n 3, 1), (7, .iload 4, 2), (9, .invokevirtual 45, 3), (12, .i2l, 1), (13, .lastore, 1), (14, .goto 11, 3), (17, .astore 6, 2), (19, .iconst 1, 1), (20, .ireturn, 1), (21, .astore 6, 2), (23, .iconst 2, 1), (24, .ireturn, 1), (25, .iconst 0, 1), (26, .ireturn, 1)]
theorem d_La_decree : decA cL_decree I_La_decree = true := by decide +kernel
abbrev rm_La_decree : Room := { frames := rm_SR_decree.frames + 1, cells := rm_SR_decree.cells, slots := rm_SR_decree.slots, locals := 8 + (5 + 11) + rm_SR_decree.locals }
theorem b_La_decree {X : KX} {B : KB} {L : KLay} {M M1 M2 : KMem} {p0 : Int32} {p1 : Int32} {p2 : Int32} {p3 : Int32} {r : String ⊕ Int32} {k : Int32} (G : Good X B RL cL_decree 7 rm_La_decree) (hx : B.2.2.2 = false) (hu : okL L 0 srT) (ho : arL L 244 12 1) (hT : (xC X).exceptionTable.toList = tableOf [(0, 14, 17, 13), (0, 14, 21, 15)]) (e : m_SR_decree 0 p0 p1 p2 p3 M = some (r, M1)) (hk : wk [eA, eS] r M1 k M2) (R : RI X B L 7 cL_decree .int rm_La_decree k M2) : KK X B L 7 0 0 M 0 [(0, .ref (B.1 + 0)), (1, .int p0), (2, .int p1), (3, .int p2), (4, .int p3), (5, .ref (B.1 + 244))] [] := by
  refine k_aload G (dc d_La_decree 0 rfl) 5 rfl ?_
  refine k_iconst G (dc d_La_decree 1 rfl) cI_0 ?_
  refine k_aload_n G (dc d_La_decree 2 rfl) 0 rfl rfl ?_
  refine k_iload_n G (dc d_La_decree 3 rfl) 1 rfl rfl ?_
  refine k_iload_n G (dc d_La_decree 4 rfl) 2 rfl rfl ?_
  refine k_iload_n G (dc d_La_decree 5 rfl) 3 rfl rfl ?_
  refine k_iload G (dc d_La_decree 6 rfl) 4 rfl ?_
  refine k_callVX G (dc d_La_decree 7 rfl) kc7 (okL_lt hu (o := 0) 0 rfl) (okL_k hu (o := 0) 0 rfl) mi_SR_decree mv_SR_decree rfl ml_L_decree (c_SR_decree (gst G) hx hu e) rfl rfl ⟨rfl, rfl⟩ rfl ⟨rfl, rfl⟩ (fun v9 h9 => ?_) (fun E9 h9 => ?_)
  · obtain ⟨x9, rfl, rfl⟩ := rI_inr h9
    obtain ⟨rfl, rfl⟩ := hk
    refine k_i2l G (dc d_La_decree 8 rfl) ?_
    refine k_lst G (dc d_La_decree 9 rfl) ho.1 ho.2.1 ho.2.2 (wrN (j := 0) (by omega) (by omega)) ?_
    refine k_goto G (dc d_La_decree 10 rfl) (tgt := 25) rfl ?_
    refine k_iconst G (dc d_La_decree 17 rfl) cI_0 ?_
    exact R _ _ _ _ rfl rfl rfl (dc d_La_decree 18 rfl)
  · have h8 := rI_inl h9
    subst h8
    obtain ⟨⟨i9, hi, rfl⟩, rfl⟩ := hk
    have h7 : i9 = 0 ∨ i9 = 1 := by have h6 := (List.getElem?_eq_some_iff.mp hi).1; simp only [List.length_cons, List.length_nil] at h6; omega
    rcases h7 with rfl | rfl
    · cases hi
      refine k_catch G [] _ _ hT (fun z hz => nomatch hz) rfl (by decide) cl_L_13 ca_A (fun q9 => ?_)
      refine k_astore G (dc d_La_decree 11 rfl) rfl rfl ?_
      refine k_iconst G (dc d_La_decree 12 rfl) cI_1 ?_
      exact R _ _ _ _ rfl rfl rfl (dc d_La_decree 13 rfl)
    · cases hi
      refine k_catch G [_] _ _ hT (by
      intro z hz
      simp only [List.mem_cons, List.not_mem_nil, or_false] at hz
      subst hz
      exact Or.inr ⟨by decide, _, cl_L_13, by decide +kernel⟩) rfl (by decide) cl_L_15 ca_S (fun q9 => ?_)
      refine k_astore G (dc d_La_decree 14 rfl) rfl rfl ?_
      refine k_iconst G (dc d_La_decree 15 rfl) cI_2 ?_
      exact R _ _ _ _ rfl rfl rfl (dc d_La_decree 16 rfl)
theorem c_La_decree {l : Launch} {B : KB} {L : KLay} {M M1 M2 : KMem} {p0 : Int32} {p1 : Int32} {p2 : Int32} {p3 : Int32} {r : String ⊕ Int32} {k : Int32} (hst : l.stackTraces = false) (hx : B.2.2.2 = false) (hu : okL L 0 srT) (ho : arL L 244 12 1) (e : m_SR_decree 0 p0 p1 p2 p3 M = some (r, M1)) (hk : wk [eA, eS] r M1 k M2) : CtrH l B yL_decree cL_decree 7 [(0, 14, 17, 13), (0, 14, 21, 15)] rm_La_decree [.ref (B.1 + 0), .int p0, .int p1, .int p2, .int p3, .ref (B.1 + 244)] L M (some (.int k)) L M2 :=
  mk_H rfl hst rfl (fun X hl G hT R => b_La_decree G hx hu ho hT e hk R)
set_option maxRecDepth 100000 in
theorem mi_SR_revoke : MI yX10_revoke cX10_revoke 2 (some .int) 1 := ⟨gt_in 898 (by rfl) rfl, gt_in 70 (by decide +kernel) rfl, by decide +kernel, by decide +kernel⟩
theorem mv_SR_revoke : MV yX10_revoke := ⟨gt_in 896 (by decide +kernel) rfl, gt_in 897 (by decide +kernel) rfl⟩
theorem ml_L_revoke : Cond.methodLink RL 49 yX10_revoke ∈ GT := gt_in 895 (by decide +kernel) rfl
set_option maxRecDepth 100000 in
theorem mh_revoke : MIH yL_revoke cL_revoke 4 [(0, 9, 12, 28)] 3 := ⟨gt_in 894 (by rfl) rfl, gt_in 69 (by decide +kernel) rfl, by decide +kernel, by decide +kernel⟩
theorem mst_revoke : Cond.static yL_revoke ∈ GT := gt_in 893 (by decide +kernel) rfl
def I_La_revoke : List (Nat × Instr × Nat) := [(0, .aload_n 2, 1), (1, .iconst 0, 1), (2, .aload_n 0, 1), (3, .iload_n 1, 1), (4, .invokevirtual 49, 3), (7, .i2l, 1), (8, .lastore, 1), (9, .goto 6, 3), (12, .astore_n 3, 1), (13, .iconst 1, 1), (14, .ireturn, 1), (15, .iconst 0, 1), (16, .ireturn, 1)]
theorem d_La_revoke : decA cL_revoke I_La_revoke = true := by decide +kernel
abbrev rm_La_revoke : Room := { frames := rm_SR_revoke.frames + 1, cells := rm_SR_revoke.cells, slots := rm_SR_revoke.slots, locals := 8 + (2 + 11) + rm_SR_revoke.locals }
theorem b_La_revoke {X : KX} {B : KB} {L : KLay} {M M1 M2 : KMem} {p0 : Int32} {r : String ⊕ Int32} {k : Int32} (G : Good X B RL cL_revoke 4 rm_La_revoke) (hx : B.2.2.2 = false) (hu : okL L 0 srT) (ho : arL L 244 12 1) (hT : (xC X).exceptionTable.toList = tableOf [(0, 9, 12, 28)]) (e : m_SR_revoke 0 p0 M = some (r, M1)) (hk : wk [eI] r M1 k M2) (R : RI X B L 4 cL_revoke .int rm_La_revoke k M2) : KK X B L 4 0 0 M 0 [(0, .ref (B.1 + 0)), (1, .int p0), (2, .ref (B.1 + 244))] [] := by
  refine k_aload_n G (dc d_La_revoke 0 rfl) 2 rfl rfl ?_
  refine k_iconst G (dc d_La_revoke 1 rfl) cI_0 ?_
  refine k_aload_n G (dc d_La_revoke 2 rfl) 0 rfl rfl ?_
  refine k_iload_n G (dc d_La_revoke 3 rfl) 1 rfl rfl ?_
  refine k_callVX G (dc d_La_revoke 4 rfl) kc7 (okL_lt hu (o := 0) 0 rfl) (okL_k hu (o := 0) 0 rfl) mi_SR_revoke mv_SR_revoke rfl ml_L_revoke (c_SR_revoke (gst G) hx hu e) rfl rfl ⟨rfl, rfl⟩ rfl ⟨rfl, rfl⟩ (fun v9 h9 => ?_) (fun E9 h9 => ?_)
  · obtain ⟨x9, rfl, rfl⟩ := rI_inr h9
    obtain ⟨rfl, rfl⟩ := hk
    refine k_i2l G (dc d_La_revoke 5 rfl) ?_
    refine k_lst G (dc d_La_revoke 6 rfl) ho.1 ho.2.1 ho.2.2 (wrN (j := 0) (by omega) (by omega)) ?_
    refine k_goto G (dc d_La_revoke 7 rfl) (tgt := 15) rfl ?_
    refine k_iconst G (dc d_La_revoke 11 rfl) cI_0 ?_
    exact R _ _ _ _ rfl rfl rfl (dc d_La_revoke 12 rfl)
  · have h8 := rI_inl h9
    subst h8
    obtain ⟨⟨i9, hi, rfl⟩, rfl⟩ := hk
    have h7 : i9 = 0 := by have h6 := (List.getElem?_eq_some_iff.mp hi).1; simp only [List.length_cons, List.length_nil] at h6; omega
    subst h7
    cases hi
    refine k_catch G [] _ _ hT (fun z hz => nomatch hz) rfl (by decide) cl_L_28 ca_I (fun q9 => ?_)
    refine k_astore_n G (dc d_La_revoke 8 rfl) rfl rfl rfl ?_
    refine k_iconst G (dc d_La_revoke 9 rfl) cI_1 ?_
    exact R _ _ _ _ rfl rfl rfl (dc d_La_revoke 10 rfl)
theorem c_La_revoke {l : Launch} {B : KB} {L : KLay} {M M1 M2 : KMem} {p0 : Int32} {r : String ⊕ Int32} {k : Int32} (hst : l.stackTraces = false) (hx : B.2.2.2 = false) (hu : okL L 0 srT) (ho : arL L 244 12 1) (e : m_SR_revoke 0 p0 M = some (r, M1)) (hk : wk [eI] r M1 k M2) : CtrH l B yL_revoke cL_revoke 4 [(0, 9, 12, 28)] rm_La_revoke [.ref (B.1 + 0), .int p0, .ref (B.1 + 244)] L M (some (.int k)) L M2 :=
  mk_H rfl hst rfl (fun X hl G hT R => b_La_revoke G hx hu ho hT e hk R)
set_option maxRecDepth 100000 in
theorem mi_SR_paint : MI yX10_paint cX10_paint 2 (some .int) 1 := ⟨gt_in 905 (by rfl) rfl, gt_in 70 (by decide +kernel) rfl, by decide +kernel, by decide +kernel⟩
theorem mv_SR_paint : MV yX10_paint := ⟨gt_in 903 (by decide +kernel) rfl, gt_in 904 (by decide +kernel) rfl⟩
theorem ml_L_paint : Cond.methodLink RL 52 yX10_paint ∈ GT := gt_in 902 (by decide +kernel) rfl
set_option maxRecDepth 100000 in
theorem mh_paint : MIH yL_paint cL_paint 4 [(0, 9, 12, 28)] 3 := ⟨gt_in 901 (by rfl) rfl, gt_in 69 (by decide +kernel) rfl, by decide +kernel, by decide +kernel⟩
theorem mst_paint : Cond.static yL_paint ∈ GT := gt_in 900 (by decide +kernel) rfl
def I_La_paint : List (Nat × Instr × Nat) := [(0, .aload_n 2, 1), (1, .iconst 0, 1), (2, .aload_n 0, 1), (3, .iload_n 1, 1), (4, .invokevirtual 52, 3), (7, .i2l, 1), (8, .lastore, 1), (9, .goto 6, 3), (12, .astore_n 3, 1), (13, .iconst 1, 1), (14, .ireturn, 1), (15, .iconst 0, 1), (16, .ireturn, 1)]
theorem d_La_paint : decA cL_paint I_La_paint = true := by decide +kernel
abbrev rm_La_paint : Room := { frames := rm_SR_paint.frames + 1, cells := rm_SR_paint.cells, slots := rm_SR_paint.slots, locals := 8 + (2 + 11) + rm_SR_paint.locals }
theorem b_La_paint {X : KX} {B : KB} {L : KLay} {M M1 M2 : KMem} {p0 : Int32} {r : String ⊕ Int32} {k : Int32} (G : Good X B RL cL_paint 4 rm_La_paint) (hx : B.2.2.2 = false) (hu : okL L 0 srT) (ho : arL L 244 12 1) (hT : (xC X).exceptionTable.toList = tableOf [(0, 9, 12, 28)]) (e : m_SR_paint 0 p0 M = some (r, M1)) (hk : wk [eI] r M1 k M2) (R : RI X B L 4 cL_paint .int rm_La_paint k M2) : KK X B L 4 0 0 M 0 [(0, .ref (B.1 + 0)), (1, .int p0), (2, .ref (B.1 + 244))] [] := by
  refine k_aload_n G (dc d_La_paint 0 rfl) 2 rfl rfl ?_
  refine k_iconst G (dc d_La_paint 1 rfl) cI_0 ?_
  refine k_aload_n G (dc d_La_paint 2 rfl) 0 rfl rfl ?_
  refine k_iload_n G (dc d_La_paint 3 rfl) 1 rfl rfl ?_
  refine k_callVX G (dc d_La_paint 4 rfl) kc7 (okL_lt hu (o := 0) 0 rfl) (okL_k hu (o := 0) 0 rfl) mi_SR_paint mv_SR_paint rfl ml_L_paint (c_SR_paint (gst G) hx hu e) rfl rfl ⟨rfl, rfl⟩ rfl ⟨rfl, rfl⟩ (fun v9 h9 => ?_) (fun E9 h9 => ?_)
  · obtain ⟨x9, rfl, rfl⟩ := rI_inr h9
    obtain ⟨rfl, rfl⟩ := hk
    refine k_i2l G (dc d_La_paint 5 rfl) ?_
    refine k_lst G (dc d_La_paint 6 rfl) ho.1 ho.2.1 ho.2.2 (wrN (j := 0) (by omega) (by omega)) ?_
    refine k_goto G (dc d_La_paint 7 rfl) (tgt := 15) rfl ?_
    refine k_iconst G (dc d_La_paint 11 rfl) cI_0 ?_
    exact R _ _ _ _ rfl rfl rfl (dc d_La_paint 12 rfl)
  · have h8 := rI_inl h9
    subst h8
    obtain ⟨⟨i9, hi, rfl⟩, rfl⟩ := hk
    have h7 : i9 = 0 := by have h6 := (List.getElem?_eq_some_iff.mp hi).1; simp only [List.length_cons, List.length_nil] at h6; omega
    subst h7
    cases hi
    refine k_catch G [] _ _ hT (fun z hz => nomatch hz) rfl (by decide) cl_L_28 ca_I (fun q9 => ?_)
    refine k_astore_n G (dc d_La_paint 8 rfl) rfl rfl rfl ?_
    refine k_iconst G (dc d_La_paint 9 rfl) cI_1 ?_
    exact R _ _ _ _ rfl rfl rfl (dc d_La_paint 10 rfl)
theorem c_La_paint {l : Launch} {B : KB} {L : KLay} {M M1 M2 : KMem} {p0 : Int32} {r : String ⊕ Int32} {k : Int32} (hst : l.stackTraces = false) (hx : B.2.2.2 = false) (hu : okL L 0 srT) (ho : arL L 244 12 1) (e : m_SR_paint 0 p0 M = some (r, M1)) (hk : wk [eI] r M1 k M2) : CtrH l B yL_paint cL_paint 4 [(0, 9, 12, 28)] rm_La_paint [.ref (B.1 + 0), .int p0, .ref (B.1 + 244)] L M (some (.int k)) L M2 :=
  mk_H rfl hst rfl (fun X hl G hT R => b_La_paint G hx hu ho hT e hk R)
set_option maxRecDepth 100000 in
theorem mi_SR_months : MI yX10_months cX10_months 2 (some .int) 1 := ⟨gt_in 912 (by rfl) rfl, gt_in 70 (by decide +kernel) rfl, by decide +kernel, by decide +kernel⟩
theorem mv_SR_months : MV yX10_months := ⟨gt_in 910 (by decide +kernel) rfl, gt_in 911 (by decide +kernel) rfl⟩
theorem ml_L_months : Cond.methodLink RL 55 yX10_months ∈ GT := gt_in 909 (by decide +kernel) rfl
set_option maxRecDepth 100000 in
theorem mh_months : MIH yL_months cL_months 4 [(0, 9, 12, 13)] 3 := ⟨gt_in 908 (by rfl) rfl, gt_in 69 (by decide +kernel) rfl, by decide +kernel, by decide +kernel⟩
theorem mst_months : Cond.static yL_months ∈ GT := gt_in 907 (by decide +kernel) rfl
def I_La_months : List (Nat × Instr × Nat) := [(0, .aload_n 2, 1), (1, .iconst 0, 1), (2, .aload_n 0, 1), (3, .iload_n 1, 1), (4, .invokevirtual 55, 3), (7, .i2l, 1), (8, .lastore, 1), (9, .goto 6, 3), (12, .astore_n 3, 1), (13, .iconst 1, 1), (14, .ireturn, 1), (15, .iconst 0, 1), (16, .ireturn, 1)]
theorem d_La_months : decA cL_months I_La_months = true := by decide +kernel
abbrev rm_La_months : Room := { frames := rm_SR_months.frames + 1, cells := rm_SR_months.cells, slots := rm_SR_months.slots, locals := 8 + (2 + 11) + rm_SR_months.locals }
theorem b_La_months {X : KX} {B : KB} {L : KLay} {M M1 M2 : KMem} {p0 : Int32} {r : String ⊕ Int32} {k : Int32} (G : Good X B RL cL_months 4 rm_La_months) (hx : B.2.2.2 = false) (hu : okL L 0 srT) (ho : arL L 244 12 1) (hT : (xC X).exceptionTable.toList = tableOf [(0, 9, 12, 13)]) (e : m_SR_months 0 p0 M = some (r, M1)) (hk : wk [eA] r M1 k M2) (R : RI X B L 4 cL_months .int rm_La_months k M2) : KK X B L 4 0 0 M 0 [(0, .ref (B.1 + 0)), (1, .int p0), (2, .ref (B.1 + 244))] [] := by
  refine k_aload_n G (dc d_La_months 0 rfl) 2 rfl rfl ?_
  refine k_iconst G (dc d_La_months 1 rfl) cI_0 ?_
  refine k_aload_n G (dc d_La_months 2 rfl) 0 rfl rfl ?_
  refine k_iload_n G (dc d_La_months 3 rfl) 1 rfl rfl ?_
  refine k_callVX G (dc d_La_months 4 rfl) kc7 (okL_lt hu (o := 0) 0 rfl) (okL_k hu (o := 0) 0 rfl) mi_SR_months mv_SR_months rfl ml_L_months (c_SR_months (gst G) hx hu e) rfl rfl ⟨rfl, rfl⟩ rfl ⟨rfl, rfl⟩ (fun v9 h9 => ?_) (fun E9 h9 => ?_)
  · obtain ⟨x9, rfl, rfl⟩ := rI_inr h9
    obtain ⟨rfl, rfl⟩ := hk
    refine k_i2l G (dc d_La_months 5 rfl) ?_
    refine k_lst G (dc d_La_months 6 rfl) ho.1 ho.2.1 ho.2.2 (wrN (j := 0) (by omega) (by omega)) ?_
    refine k_goto G (dc d_La_months 7 rfl) (tgt := 15) rfl ?_
    refine k_iconst G (dc d_La_months 11 rfl) cI_0 ?_
    exact R _ _ _ _ rfl rfl rfl (dc d_La_months 12 rfl)
  · have h8 := rI_inl h9
    subst h8
    obtain ⟨⟨i9, hi, rfl⟩, rfl⟩ := hk
    have h7 : i9 = 0 := by have h6 := (List.getElem?_eq_some_iff.mp hi).1; simp only [List.length_cons, List.length_nil] at h6; omega
    subst h7
    cases hi
    refine k_catch G [] _ _ hT (fun z hz => nomatch hz) rfl (by decide) cl_L_13 ca_A (fun q9 => ?_)
    refine k_astore_n G (dc d_La_months 8 rfl) rfl rfl rfl ?_
    refine k_iconst G (dc d_La_months 9 rfl) cI_1 ?_
    exact R _ _ _ _ rfl rfl rfl (dc d_La_months 10 rfl)
theorem c_La_months {l : Launch} {B : KB} {L : KLay} {M M1 M2 : KMem} {p0 : Int32} {r : String ⊕ Int32} {k : Int32} (hst : l.stackTraces = false) (hx : B.2.2.2 = false) (hu : okL L 0 srT) (ho : arL L 244 12 1) (e : m_SR_months 0 p0 M = some (r, M1)) (hk : wk [eA] r M1 k M2) : CtrH l B yL_months cL_months 4 [(0, 9, 12, 13)] rm_La_months [.ref (B.1 + 0), .int p0, .ref (B.1 + 244)] L M (some (.int k)) L M2 :=
  mk_H rfl hst rfl (fun X hl G hT R => b_La_months G hx hu ho hT e hk R)
set_option maxRecDepth 100000 in
theorem mi_SR_amnesty : MI yX10_amnesty cX10_amnesty 2 (some .int) 1 := ⟨gt_in 920 (by rfl) rfl, gt_in 70 (by decide +kernel) rfl, by decide +kernel, by decide +kernel⟩
theorem mv_SR_amnesty : MV yX10_amnesty := ⟨gt_in 918 (by decide +kernel) rfl, gt_in 919 (by decide +kernel) rfl⟩
theorem ml_L_amnesty : Cond.methodLink RL 58 yX10_amnesty ∈ GT := gt_in 917 (by decide +kernel) rfl
set_option maxRecDepth 100000 in
theorem mh_amnesty : MIH yL_amnesty cL_amnesty 4 [(0, 9, 12, 13), (0, 9, 15, 15)] 3 := ⟨gt_in 916 (by rfl) rfl, gt_in 69 (by decide +kernel) rfl, by decide +kernel, by decide +kernel⟩
theorem mst_amnesty : Cond.static yL_amnesty ∈ GT := gt_in 915 (by decide +kernel) rfl
def I_La_amnesty : List (Nat × Instr × Nat) := [(0, .aload_n 2, 1), (1, .iconst 0, 1), (2, .aload_n 0, 1), (3, .iload_n 1, 1), (4, .invokevirtual 58, 3), (7, .i2l, 1), (8, .lastore, 1), (9, .goto 9, 3), (12, .astore_n 3, 1), (13, .iconst 1, 1), (14, .ireturn, 1), (15, .astore_n 3, 1), (16, .iconst 2, 1), (17, .ireturn, 1), (18, .iconst 0, 1), (19, .ireturn, 1)]
theorem d_La_amnesty : decA cL_amnesty I_La_amnesty = true := by decide +kernel
abbrev rm_La_amnesty : Room := { frames := rm_SR_amnesty.frames + 1, cells := rm_SR_amnesty.cells, slots := rm_SR_amnesty.slots, locals := 8 + (2 + 11) + rm_SR_amnesty.locals }
theorem b_La_amnesty {X : KX} {B : KB} {L : KLay} {M M1 M2 : KMem} {p0 : Int32} {r : String ⊕ Int32} {k : Int32} (G : Good X B RL cL_amnesty 4 rm_La_amnesty) (hx : B.2.2.2 = false) (hu : okL L 0 srT) (ho : arL L 244 12 1) (hT : (xC X).exceptionTable.toList = tableOf [(0, 9, 12, 13), (0, 9, 15, 15)]) (e : m_SR_amnesty 0 p0 M = some (r, M1)) (hk : wk [eA, eS] r M1 k M2) (R : RI X B L 4 cL_amnesty .int rm_La_amnesty k M2) : KK X B L 4 0 0 M 0 [(0, .ref (B.1 + 0)), (1, .int p0), (2, .ref (B.1 + 244))] [] := by
  refine k_aload_n G (dc d_La_amnesty 0 rfl) 2 rfl rfl ?_
  refine k_iconst G (dc d_La_amnesty 1 rfl) cI_0 ?_
  refine k_aload_n G (dc d_La_amnesty 2 rfl) 0 rfl rfl ?_
  refine k_iload_n G (dc d_La_amnesty 3 rfl) 1 rfl rfl ?_
  refine k_callVX G (dc d_La_amnesty 4 rfl) kc7 (okL_lt hu (o := 0) 0 rfl) (okL_k hu (o := 0) 0 rfl) mi_SR_amnesty mv_SR_amnesty rfl ml_L_amnesty (c_SR_amnesty (gst G) hx hu e) rfl rfl ⟨rfl, rfl⟩ rfl ⟨rfl, rfl⟩ (fun v9 h9 => ?_) (fun E9 h9 => ?_)
  · obtain ⟨x9, rfl, rfl⟩ := rI_inr h9
    obtain ⟨rfl, rfl⟩ := hk
    refine k_i2l G (dc d_La_amnesty 5 rfl) ?_
    refine k_lst G (dc d_La_amnesty 6 rfl) ho.1 ho.2.1 ho.2.2 (wrN (j := 0) (by omega) (by omega)) ?_
    refine k_goto G (dc d_La_amnesty 7 rfl) (tgt := 18) rfl ?_
    refine k_iconst G (dc d_La_amnesty 14 rfl) cI_0 ?_
    exact R _ _ _ _ rfl rfl rfl (dc d_La_amnesty 15 rfl)
  · have h8 := rI_inl h9
    subst h8
    obtain ⟨⟨i9, hi, rfl⟩, rfl⟩ := hk
    have h7 : i9 = 0 ∨ i9 = 1 := by have h6 := (List.getElem?_eq_some_iff.mp hi).1; simp only [List.length_cons, List.length_nil] at h6; omega
    rcases h7 with rfl | rfl
    · cases hi
      refine k_catch G [] _ _ hT (fun z hz => nomatch hz) rfl (by decide) cl_L_13 ca_A (fun q9 => ?_)
      refine k_astore_n G (dc d_La_amnesty 8 rfl) rfl rfl rfl ?_
      refine k_iconst G (dc d_La_amnesty 9 rfl) cI_1 ?_
      exact R _ _ _ _ rfl rfl rfl (dc d_La_amnesty 10 rfl)
    · cases hi
      refine k_catch G [_] _ _ hT (by
      intro z hz
      simp only [List.mem_cons, List.not_mem_nil, or_false] at hz
      subst hz
      exact Or.inr ⟨by decide, _, cl_L_13, by decide +kernel⟩) rfl (by decide) cl_L_15 ca_S (fun q9 => ?_)
      refine k_astore_n G (dc d_La_amnesty 11 rfl) rfl rfl rfl ?_
      refine k_iconst G (dc d_La_amnesty 12 rfl) cI_2 ?_
      exact R _ _ _ _ rfl rfl rfl (dc d_La_amnesty 13 rfl)
theorem c_La_amnesty {l : Launch} {B : KB} {L : KLay} {M M1 M2 : KMem} {p0 : Int32} {r : String ⊕ Int32} {k : Int32} (hst : l.stackTraces = false) (hx : B.2.2.2 = false) (hu : okL L 0 srT) (ho : arL L 244 12 1) (e : m_SR_amnesty 0 p0 M = some (r, M1)) (hk : wk [eA, eS] r M1 k M2) : CtrH l B yL_amnesty cL_amnesty 4 [(0, 9, 12, 13), (0, 9, 15, 15)] rm_La_amnesty [.ref (B.1 + 0), .int p0, .ref (B.1 + 244)] L M (some (.int k)) L M2 :=
  mk_H rfl hst rfl (fun X hl G hT R => b_La_amnesty G hx hu ho hT e hk R)
set_option maxRecDepth 100000 in
theorem mi_SR_set : MI yX10_set cX10_set 4 (some .int) 2 := ⟨gt_in 929 (by rfl) rfl, gt_in 70 (by decide +kernel) rfl, by decide +kernel, by decide +kernel⟩
theorem mv_SR_set : MV yX10_set := ⟨gt_in 927 (by decide +kernel) rfl, gt_in 928 (by decide +kernel) rfl⟩
theorem ml_L_set : Cond.methodLink RL 61 yX10_set ∈ GT := gt_in 926 (by decide +kernel) rfl
set_option maxRecDepth 100000 in
theorem mh_set : MIH yL_set cL_set 5 [(0, 10, 13, 13)] 4 := ⟨gt_in 925 (by rfl) rfl, gt_in 69 (by decide +kernel) rfl, by decide +kernel, by decide +kernel⟩
theorem mst_set : Cond.static yL_set ∈ GT := gt_in 924 (by decide +kernel) rfl
def I_La_set : List (Nat × Instr × Nat) := [(0, .aload_n 3, 1), (1, .iconst 0, 1), (2, .aload_n 0, 1), (3, .iload_n 1, 1), (4, .iload_n 2, 1), (5, .invokevirtual 61, 3), (8, .i2l, 1), (9, .lastore, 1), (10, .goto 7, 3), (13, .astore 4, 2), (15, .iconst 1, 1), (16, .ireturn, 1), (17, .iconst 0, 1), (18, .ireturn, 1)]
theorem d_La_set : decA cL_set I_La_set = true := by decide +kernel
abbrev rm_La_set : Room := { frames := rm_SR_set.frames + 1, cells := rm_SR_set.cells, slots := rm_SR_set.slots, locals := 8 + (4 + 11) + rm_SR_set.locals }
theorem b_La_set {X : KX} {B : KB} {L : KLay} {M M1 M2 : KMem} {p0 : Int32} {p1 : Int32} {r : String ⊕ Int32} {k : Int32} (G : Good X B RL cL_set 5 rm_La_set) (hx : B.2.2.2 = false) (hu : okL L 0 srT) (ho : arL L 244 12 1) (hT : (xC X).exceptionTable.toList = tableOf [(0, 10, 13, 13)]) (e : m_SR_set 0 p0 p1 M = some (r, M1)) (hk : wk [eA] r M1 k M2) (R : RI X B L 5 cL_set .int rm_La_set k M2) : KK X B L 5 0 0 M 0 [(0, .ref (B.1 + 0)), (1, .int p0), (2, .int p1), (3, .ref (B.1 + 244))] [] := by
  refine k_aload_n G (dc d_La_set 0 rfl) 3 rfl rfl ?_
  refine k_iconst G (dc d_La_set 1 rfl) cI_0 ?_
  refine k_aload_n G (dc d_La_set 2 rfl) 0 rfl rfl ?_
  refine k_iload_n G (dc d_La_set 3 rfl) 1 rfl rfl ?_
  refine k_iload_n G (dc d_La_set 4 rfl) 2 rfl rfl ?_
  refine k_callVX G (dc d_La_set 5 rfl) kc7 (okL_lt hu (o := 0) 0 rfl) (okL_k hu (o := 0) 0 rfl) mi_SR_set mv_SR_set rfl ml_L_set (c_SR_set (gst G) hx hu e) rfl rfl ⟨rfl, rfl⟩ rfl ⟨rfl, rfl⟩ (fun v9 h9 => ?_) (fun E9 h9 => ?_)
  · obtain ⟨x9, rfl, rfl⟩ := rI_inr h9
    obtain ⟨rfl, rfl⟩ := hk
    refine k_i2l G (dc d_La_set 6 rfl) ?_
    refine k_lst G (dc d_La_set 7 rfl) ho.1 ho.2.1 ho.2.2 (wrN (j := 0) (by omega) (by omega)) ?_
    refine k_goto G (dc d_La_set 8 rfl) (tgt := 17) rfl ?_
    refine k_iconst G (dc d_La_set 12 rfl) cI_0 ?_
    exact R _ _ _ _ rfl rfl rfl (dc d_La_set 13 rfl)
  · have h8 := rI_inl h9
    subst h8
    obtain ⟨⟨i9, hi, rfl⟩, rfl⟩ := hk
    have h7 : i9 = 0 := by have h6 := (List.getElem?_eq_some_iff.mp hi).1; simp only [List.length_cons, List.length_nil] at h6; omega
    subst h7
    cases hi
    refine k_catch G [] _ _ hT (fun z hz => nomatch hz) rfl (by decide) cl_L_13 ca_A (fun q9 => ?_)
    refine k_astore G (dc d_La_set 9 rfl) rfl rfl ?_
    refine k_iconst G (dc d_La_set 10 rfl) cI_1 ?_
    exact R _ _ _ _ rfl rfl rfl (dc d_La_set 11 rfl)
theorem c_La_set {l : Launch} {B : KB} {L : KLay} {M M1 M2 : KMem} {p0 : Int32} {p1 : Int32} {r : String ⊕ Int32} {k : Int32} (hst : l.stackTraces = false) (hx : B.2.2.2 = false) (hu : okL L 0 srT) (ho : arL L 244 12 1) (e : m_SR_set 0 p0 p1 M = some (r, M1)) (hk : wk [eA] r M1 k M2) : CtrH l B yL_set cL_set 5 [(0, 10, 13, 13)] rm_La_set [.ref (B.1 + 0), .int p0, .int p1, .ref (B.1 + 244)] L M (some (.int k)) L M2 :=
  mk_H rfl hst rfl (fun X hl G hT R => b_La_set G hx hu ho hT e hk R)
set_option maxRecDepth 100000 in
theorem mi_SR_undo : MI yX10_undo cX10_undo 1 (some .int) 0 := ⟨gt_in 937 (by rfl) rfl, gt_in 70 (by decide +kernel) rfl, by decide +kernel, by decide +kernel⟩
theorem mv_SR_undo : MV yX10_undo := ⟨gt_in 935 (by decide +kernel) rfl, gt_in 936 (by decide +kernel) rfl⟩
theorem ml_L_undo : Cond.methodLink RL 64 yX10_undo ∈ GT := gt_in 934 (by decide +kernel) rfl
set_option maxRecDepth 100000 in
theorem mh_undo : MIH yL_undo cL_undo 3 [(0, 8, 11, 15)] 2 := ⟨gt_in 933 (by rfl) rfl, gt_in 69 (by decide +kernel) rfl, by decide +kernel, by decide +kernel⟩
theorem mst_undo : Cond.static yL_undo ∈ GT := gt_in 932 (by decide +kernel) rfl
def I_La_undo : List (Nat × Instr × Nat) := [(0, .aload_n 1, 1), (1, .iconst 0, 1), (2, .aload_n 0, 1), (3, .invokevirtual 64, 3), (6, .i2l, 1), (7, .lastore, 1), (8, .goto 6, 3), (11, .astore_n 2, 1), (12, .iconst 1, 1), (13, .ireturn, 1), (14, .iconst 0, 1), (15, .ireturn, 1)]
theorem d_La_undo : decA cL_undo I_La_undo = true := by decide +kernel
abbrev rm_La_undo : Room := { frames := rm_SR_undo.frames + 1, cells := rm_SR_undo.cells, slots := rm_SR_undo.slots, locals := 8 + (1 + 11) + rm_SR_undo.locals }
theorem b_La_undo {X : KX} {B : KB} {L : KLay} {M M1 M2 : KMem}  {r : String ⊕ Int32} {k : Int32} (G : Good X B RL cL_undo 3 rm_La_undo) (hx : B.2.2.2 = false) (hu : okL L 0 srT) (ho : arL L 244 12 1) (hT : (xC X).exceptionTable.toList = tableOf [(0, 8, 11, 15)]) (e : m_SR_undo 0 M = some (r, M1)) (hk : wk [eS] r M1 k M2) (R : RI X B L 3 cL_undo .int rm_La_undo k M2) : KK X B L 3 0 0 M 0 [(0, .ref (B.1 + 0)), (1, .ref (B.1 + 244))] [] := by
  refine k_aload_n G (dc d_La_undo 0 rfl) 1 rfl rfl ?_
  refine k_iconst G (dc d_La_undo 1 rfl) cI_0 ?_
  refine k_aload_n G (dc d_La_undo 2 rfl) 0 rfl rfl ?_
  refine k_callVX G (dc d_La_undo 3 rfl) kc7 (okL_lt hu (o := 0) 0 rfl) (okL_k hu (o := 0) 0 rfl) mi_SR_undo mv_SR_undo rfl ml_L_undo (c_SR_undo (gst G) hx hu e) rfl rfl ⟨rfl, rfl⟩ rfl ⟨rfl, rfl⟩ (fun v9 h9 => ?_) (fun E9 h9 => ?_)
  · obtain ⟨x9, rfl, rfl⟩ := rI_inr h9
    obtain ⟨rfl, rfl⟩ := hk
    refine k_i2l G (dc d_La_undo 4 rfl) ?_
    refine k_lst G (dc d_La_undo 5 rfl) ho.1 ho.2.1 ho.2.2 (wrN (j := 0) (by omega) (by omega)) ?_
    refine k_goto G (dc d_La_undo 6 rfl) (tgt := 14) rfl ?_
    refine k_iconst G (dc d_La_undo 10 rfl) cI_0 ?_
    exact R _ _ _ _ rfl rfl rfl (dc d_La_undo 11 rfl)
  · have h8 := rI_inl h9
    subst h8
    obtain ⟨⟨i9, hi, rfl⟩, rfl⟩ := hk
    have h7 : i9 = 0 := by have h6 := (List.getElem?_eq_some_iff.mp hi).1; simp only [List.length_cons, List.length_nil] at h6; omega
    subst h7
    cases hi
    refine k_catch G [] _ _ hT (fun z hz => nomatch hz) rfl (by decide) cl_L_15 ca_S (fun q9 => ?_)
    refine k_astore_n G (dc d_La_undo 7 rfl) rfl rfl rfl ?_
    refine k_iconst G (dc d_La_undo 8 rfl) cI_1 ?_
    exact R _ _ _ _ rfl rfl rfl (dc d_La_undo 9 rfl)
theorem c_La_undo {l : Launch} {B : KB} {L : KLay} {M M1 M2 : KMem}  {r : String ⊕ Int32} {k : Int32} (hst : l.stackTraces = false) (hx : B.2.2.2 = false) (hu : okL L 0 srT) (ho : arL L 244 12 1) (e : m_SR_undo 0 M = some (r, M1)) (hk : wk [eS] r M1 k M2) : CtrH l B yL_undo cL_undo 3 [(0, 8, 11, 15)] rm_La_undo [.ref (B.1 + 0), .ref (B.1 + 244)] L M (some (.int k)) L M2 :=
  mk_H rfl hst rfl (fun X hl G hT R => b_La_undo G hx hu ho hT e hk R)
set_option maxRecDepth 100000 in
theorem mi_SR_why : MI yX10_why cX10_why 5 (some .int) 4 := ⟨gt_in 949 (by rfl) rfl, gt_in 70 (by decide +kernel) rfl, by decide +kernel, by decide +kernel⟩
theorem mv_SR_why : MV yX10_why := ⟨gt_in 947 (by decide +kernel) rfl, gt_in 948 (by decide +kernel) rfl⟩
theorem ml_L_why : Cond.methodLink RL 67 yX10_why ∈ GT := gt_in 946 (by decide +kernel) rfl
set_option maxRecDepth 100000 in
theorem mh_why : MIH yL_why cL_why 7 [(0, 14, 17, 13)] 6 := ⟨gt_in 945 (by rfl) rfl, gt_in 69 (by decide +kernel) rfl, by decide +kernel, by decide +kernel⟩
theorem mst_why : Cond.static yL_why ∈ GT := gt_in 944 (by decide +kernel) rfl
def I_La_why : List (Nat × Instr × Nat) := [(0, .aload 5, 2), (2, .iconst 0, 1), (3, .aload_n 0, 1), (4, .iload_n 1, 1), (5, .iload_n 2, 1), (6, .iload_n 3, 1), (7, .iload 4, 2), (9, .invokevirtual 67, 3), (12, .i2l, 1), (13, .lastore, 1), (14, .goto 7, 3), (17, .astore 6, 2), (19, .iconst 1, 1), (20, .ireturn, 1), (21, .iconst 0, 1), (22, .ireturn, 1)]
theorem d_La_why : decA cL_why I_La_why = true := by decide +kernel
abbrev rm_La_why : Room := { frames := rm_SR_why.frames + 1, cells := rm_SR_why.cells, slots := rm_SR_why.slots, locals := 8 + (5 + 11) + rm_SR_why.locals }
theorem b_La_why {X : KX} {B : KB} {L : KLay} {M M1 M2 : KMem} {p0 : Int32} {p1 : Int32} {p2 : Int32} {p3 : Int32} {r : String ⊕ Int32} {k : Int32} (G : Good X B RL cL_why 7 rm_La_why) (hx : B.2.2.2 = false) (hu : okL L 0 srT) (ho : arL L 244 12 1) (hT : (xC X).exceptionTable.toList = tableOf [(0, 14, 17, 13)]) (e : m_SR_why 0 p0 p1 p2 p3 M = some (r, M1)) (hk : wk [eA] r M1 k M2) (R : RI X B L 7 cL_why .int rm_La_why k M2) : KK X B L 7 0 0 M 0 [(0, .ref (B.1 + 0)), (1, .int p0), (2, .int p1), (3, .int p2), (4, .int p3), (5, .ref (B.1 + 244))] [] := by
  refine k_aload G (dc d_La_why 0 rfl) 5 rfl ?_
  refine k_iconst G (dc d_La_why 1 rfl) cI_0 ?_
  refine k_aload_n G (dc d_La_why 2 rfl) 0 rfl rfl ?_
  refine k_iload_n G (dc d_La_why 3 rfl) 1 rfl rfl ?_
  refine k_iload_n G (dc d_La_why 4 rfl) 2 rfl rfl ?_
  refine k_iload_n G (dc d_La_why 5 rfl) 3 rfl rfl ?_
  refine k_iload G (dc d_La_why 6 rfl) 4 rfl ?_
  refine k_callVX G (dc d_La_why 7 rfl) kc7 (okL_lt hu (o := 0) 0 rfl) (okL_k hu (o := 0) 0 rfl) mi_SR_why mv_SR_why rfl ml_L_why (c_SR_why (gst G) hx hu e) rfl rfl ⟨rfl, rfl⟩ rfl ⟨rfl, rfl⟩ (fun v9 h9 => ?_) (fun E9 h9 => ?_)
  · obtain ⟨x9, rfl, rfl⟩ := rI_inr h9
    obtain ⟨rfl, rfl⟩ := hk
    refine k_i2l G (dc d_La_why 8 rfl) ?_
    refine k_lst G (dc d_La_why 9 rfl) ho.1 ho.2.1 ho.2.2 (wrN (j := 0) (by omega) (by omega)) ?_
    refine k_goto G (dc d_La_why 10 rfl) (tgt := 21) rfl ?_
    refine k_iconst G (dc d_La_why 14 rfl) cI_0 ?_
    exact R _ _ _ _ rfl rfl rfl (dc d_La_why 15 rfl)
  · have h8 := rI_inl h9
    subst h8
    obtain ⟨⟨i9, hi, rfl⟩, rfl⟩ := hk
    have h7 : i9 = 0 := by have h6 := (List.getElem?_eq_some_iff.mp hi).1; simp only [List.length_cons, List.length_nil] at h6; omega
    subst h7
    cases hi
    refine k_catch G [] _ _ hT (fun z hz => nomatch hz) rfl (by decide) cl_L_13 ca_A (fun q9 => ?_)
    refine k_astore G (dc d_La_why 11 rfl) rfl rfl ?_
    refine k_iconst G (dc d_La_why 12 rfl) cI_1 ?_
    exact R _ _ _ _ rfl rfl rfl (dc d_La_why 13 rfl)
theorem c_La_why {l : Launch} {B : KB} {L : KLay} {M M1 M2 : KMem} {p0 : Int32} {p1 : Int32} {p2 : Int32} {p3 : Int32} {r : String ⊕ Int32} {k : Int32} (hst : l.stackTraces = false) (hx : B.2.2.2 = false) (hu : okL L 0 srT) (ho : arL L 244 12 1) (e : m_SR_why 0 p0 p1 p2 p3 M = some (r, M1)) (hk : wk [eA] r M1 k M2) : CtrH l B yL_why cL_why 7 [(0, 14, 17, 13)] rm_La_why [.ref (B.1 + 0), .int p0, .int p1, .int p2, .int p3, .ref (B.1 + 244)] L M (some (.int k)) L M2 :=
  mk_H rfl hst rfl (fun X hl G hT R => b_La_why G hx hu ho hT e hk R)
set_option maxRecDepth 100000 in
theorem mi_SR_apart : MI yX10_apart cX10_apart 3 (some .int) 2 := ⟨gt_in 956 (by rfl) rfl, gt_in 70 (by decide +kernel) rfl, by decide +kernel, by decide +kernel⟩
theorem mv_SR_apart : MV yX10_apart := ⟨gt_in 954 (by decide +kernel) rfl, gt_in 955 (by decide +kernel) rfl⟩
theorem ml_L_apart : Cond.methodLink RL 70 yX10_apart ∈ GT := gt_in 953 (by decide +kernel) rfl
set_option maxRecDepth 100000 in
theorem mh_apart : MIH yL_apart cL_apart 5 [(0, 10, 13, 28)] 4 := ⟨gt_in 952 (by rfl) rfl, gt_in 69 (by decide +kernel) rfl, by decide +kernel, by decide +kernel⟩
theorem mst_apart : Cond.static yL_apart ∈ GT := gt_in 951 (by decide +kernel) rfl
def I_La_apart : List (Nat × Instr × Nat) := [(0, .aload_n 3, 1), (1, .iconst 0, 1), (2, .aload_n 0, 1), (3, .iload_n 1, 1), (4, .iload_n 2, 1), (5, .invokevirtual 70, 3), (8, .i2l, 1), (9, .lastore, 1), (10, .goto 7, 3), (13, .astore 4, 2), (15, .iconst 1, 1), (16, .ireturn, 1), (17, .iconst 0, 1), (18, .ireturn, 1)]
theorem d_La_apart : decA cL_apart I_La_apart = true := by decide +kernel
abbrev rm_La_apart : Room := { frames := rm_SR_apart.frames + 1, cells := rm_SR_apart.cells, slots := rm_SR_apart.slots, locals := 8 + (3 + 11) + rm_SR_apart.locals }
theorem b_La_apart {X : KX} {B : KB} {L : KLay} {M M1 M2 : KMem} {p0 : Int32} {p1 : Int32} {r : String ⊕ Int32} {k : Int32} (G : Good X B RL cL_apart 5 rm_La_apart) (hx : B.2.2.2 = false) (hu : okL L 0 srT) (ho : arL L 244 12 1) (hT : (xC X).exceptionTable.toList = tableOf [(0, 10, 13, 28)]) (e : m_SR_apart 0 p0 p1 M = some (r, M1)) (hk : wk [eI] r M1 k M2) (R : RI X B L 5 cL_apart .int rm_La_apart k M2) : KK X B L 5 0 0 M 0 [(0, .ref (B.1 + 0)), (1, .int p0), (2, .int p1), (3, .ref (B.1 + 244))] [] := by
  refine k_aload_n G (dc d_La_apart 0 rfl) 3 rfl rfl ?_
  refine k_iconst G (dc d_La_apart 1 rfl) cI_0 ?_
  refine k_aload_n G (dc d_La_apart 2 rfl) 0 rfl rfl ?_
  refine k_iload_n G (dc d_La_apart 3 rfl) 1 rfl rfl ?_
  refine k_iload_n G (dc d_La_apart 4 rfl) 2 rfl rfl ?_
  refine k_callVX G (dc d_La_apart 5 rfl) kc7 (okL_lt hu (o := 0) 0 rfl) (okL_k hu (o := 0) 0 rfl) mi_SR_apart mv_SR_apart rfl ml_L_apart (c_SR_apart (gst G) hx hu e) rfl rfl ⟨rfl, rfl⟩ rfl ⟨rfl, rfl⟩ (fun v9 h9 => ?_) (fun E9 h9 => ?_)
  · obtain ⟨x9, rfl, rfl⟩ := rI_inr h9
    obtain ⟨rfl, rfl⟩ := hk
    refine k_i2l G (dc d_La_apart 6 rfl) ?_
    refine k_lst G (dc d_La_apart 7 rfl) ho.1 ho.2.1 ho.2.2 (wrN (j := 0) (by omega) (by omega)) ?_
    refine k_goto G (dc d_La_apart 8 rfl) (tgt := 17) rfl ?_
    refine k_iconst G (dc d_La_apart 12 rfl) cI_0 ?_
    exact R _ _ _ _ rfl rfl rfl (dc d_La_apart 13 rfl)
  · have h8 := rI_inl h9
    subst h8
    obtain ⟨⟨i9, hi, rfl⟩, rfl⟩ := hk
    have h7 : i9 = 0 := by have h6 := (List.getElem?_eq_some_iff.mp hi).1; simp only [List.length_cons, List.length_nil] at h6; omega
    subst h7
    cases hi
    refine k_catch G [] _ _ hT (fun z hz => nomatch hz) rfl (by decide) cl_L_28 ca_I (fun q9 => ?_)
    refine k_astore G (dc d_La_apart 9 rfl) rfl rfl ?_
    refine k_iconst G (dc d_La_apart 10 rfl) cI_1 ?_
    exact R _ _ _ _ rfl rfl rfl (dc d_La_apart 11 rfl)
theorem c_La_apart {l : Launch} {B : KB} {L : KLay} {M M1 M2 : KMem} {p0 : Int32} {p1 : Int32} {r : String ⊕ Int32} {k : Int32} (hst : l.stackTraces = false) (hx : B.2.2.2 = false) (hu : okL L 0 srT) (ho : arL L 244 12 1) (e : m_SR_apart 0 p0 p1 M = some (r, M1)) (hk : wk [eI] r M1 k M2) : CtrH l B yL_apart cL_apart 5 [(0, 10, 13, 28)] rm_La_apart [.ref (B.1 + 0), .int p0, .int p1, .ref (B.1 + 244)] L M (some (.int k)) L M2 :=
  mk_H rfl hst rfl (fun X hl G hT R => b_La_apart G hx hu ho hT e hk R)
set_option maxRecDepth 100000 in
theorem mi_SR_payable : MI yX10_payable cX10_payable 2 (some .int) 1 := ⟨gt_in 967 (by rfl) rfl, gt_in 70 (by decide +kernel) rfl, by decide +kernel, by decide +kernel⟩
theorem mv_SR_payable : MV yX10_payable := ⟨gt_in 965 (by decide +kernel) rfl, gt_in 966 (by decide +kernel) rfl⟩
theorem ml_L_payable : Cond.methodLink RL 73 yX10_payable ∈ GT := gt_in 964 (by decide +kernel) rfl
set_option maxRecDepth 100000 in
theorem mh_payable : MIH yL_payable cL_payable 4 [(0, 9, 12, 13)] 3 := ⟨gt_in 963 (by rfl) rfl, gt_in 69 (by decide +kernel) rfl, by decide +kernel, by decide +kernel⟩
theorem mst_payable : Cond.static yL_payable ∈ GT := gt_in 962 (by decide +kernel) rfl
def I_La_payable : List (Nat × Instr × Nat) := [(0, .aload_n 2, 1), (1, .iconst 0, 1), (2, .aload_n 0, 1), (3, .iload_n 1, 1), (4, .invokevirtual 73, 3), (7, .i2l, 1), (8, .lastore, 1), (9, .goto 6, 3), (12, .astore_n 3, 1), (13, .iconst 1, 1), (14, .ireturn, 1), (15, .iconst 0, 1), (16, .ireturn, 1)]
theorem d_La_payable : decA cL_payable I_La_payable = true := by decide +kernel
abbrev rm_La_payable : Room := { frames := rm_SR_payable.frames + 1, cells := rm_SR_payable.cells, slots := rm_SR_payable.slots, locals := 8 + (2 + 11) + rm_SR_payable.locals }
theorem b_La_payable {X : KX} {B : KB} {L : KLay} {M M1 M2 : KMem} {p0 : Int32} {r : String ⊕ Int32} {k : Int32} (G : Good X B RL cL_payable 4 rm_La_payable) (hx : B.2.2.2 = false) (hu : okL L 0 srT) (ho : arL L 244 12 1) (hT : (xC X).exceptionTable.toList = tableOf [(0, 9, 12, 13)]) (e : m_SR_payable 0 p0 M = some (r, M1)) (hk : wk [eA] r M1 k M2) (R : RI X B L 4 cL_payable .int rm_La_payable k M2) : KK X B L 4 0 0 M 0 [(0, .ref (B.1 + 0)), (1, .int p0), (2, .ref (B.1 + 244))] [] := by
  refine k_aload_n G (dc d_La_payable 0 rfl) 2 rfl rfl ?_
  refine k_iconst G (dc d_La_payable 1 rfl) cI_0 ?_
  refine k_aload_n G (dc d_La_payable 2 rfl) 0 rfl rfl ?_
  refine k_iload_n G (dc d_La_payable 3 rfl) 1 rfl rfl ?_
  refine k_callVX G (dc d_La_payable 4 rfl) kc7 (okL_lt hu (o := 0) 0 rfl) (okL_k hu (o := 0) 0 rfl) mi_SR_payable mv_SR_payable rfl ml_L_payable (c_SR_payable (gst G) hx hu e) rfl rfl ⟨rfl, rfl⟩ rfl ⟨rfl, rfl⟩ (fun v9 h9 => ?_) (fun E9 h9 => ?_)
  · obtain ⟨x9, rfl, rfl⟩ := rI_inr h9
    obtain ⟨rfl, rfl⟩ := hk
    refine k_i2l G (dc d_La_payable 5 rfl) ?_
    refine k_lst G (dc d_La_payable 6 rfl) ho.1 ho.2.1 ho.2.2 (wrN (j := 0) (by omega) (by omega)) ?_
    refine k_goto G (dc d_La_payable 7 rfl) (tgt := 15) rfl ?_
    refine k_iconst G (dc d_La_payable 11 rfl) cI_0 ?_
    exact R _ _ _ _ rfl rfl rfl (dc d_La_payable 12 rfl)
  · have h8 := rI_inl h9
    subst h8
    obtain ⟨⟨i9, hi, rfl⟩, rfl⟩ := hk
    have h7 : i9 = 0 := by have h6 := (List.getElem?_eq_some_iff.mp hi).1; simp only [List.length_cons, List.length_nil] at h6; omega
    subst h7
    cases hi
    refine k_catch G [] _ _ hT (fun z hz => nomatch hz) rfl (by decide) cl_L_13 ca_A (fun q9 => ?_)
    refine k_astore_n G (dc d_La_payable 8 rfl) rfl rfl rfl ?_
    refine k_iconst G (dc d_La_payable 9 rfl) cI_1 ?_
    exact R _ _ _ _ rfl rfl rfl (dc d_La_payable 10 rfl)
theorem c_La_payable {l : Launch} {B : KB} {L : KLay} {M M1 M2 : KMem} {p0 : Int32} {r : String ⊕ Int32} {k : Int32} (hst : l.stackTraces = false) (hx : B.2.2.2 = false) (hu : okL L 0 srT) (ho : arL L 244 12 1) (e : m_SR_payable 0 p0 M = some (r, M1)) (hk : wk [eA] r M1 k M2) : CtrH l B yL_payable cL_payable 4 [(0, 9, 12, 13)] rm_La_payable [.ref (B.1 + 0), .int p0, .ref (B.1 + 244)] L M (some (.int k)) L M2 :=
  mk_H rfl hst rfl (fun X hl G hT R => b_La_payable G hx hu ho hT e hk R)
set_option maxRecDepth 100000 in
theorem mi_SR_worthIn : MI yX10_worthIn cX10_worthIn 2 (some .int) 1 := ⟨gt_in 979 (by rfl) rfl, gt_in 70 (by decide +kernel) rfl, by decide +kernel, by decide +kernel⟩
theorem mv_SR_worthIn : MV yX10_worthIn := ⟨gt_in 977 (by decide +kernel) rfl, gt_in 978 (by decide +kernel) rfl⟩
theorem ml_L_worthIn : Cond.methodLink RL 76 yX10_worthIn ∈ GT := gt_in 976 (by decide +kernel) rfl
set_option maxRecDepth 100000 in
theorem mh_worthIn : MIH yL_worthIn cL_worthIn 4 [(0, 9, 12, 28)] 3 := ⟨gt_in 975 (by rfl) rfl, gt_in 69 (by decide +kernel) rfl, by decide +kernel, by decide +kernel⟩
theorem mst_worthIn : Cond.static yL_worthIn ∈ GT := gt_in 974 (by decide +kernel) rfl
def I_La_worthIn : List (Nat × Instr × Nat) := [(0, .aload_n 2, 1), (1, .iconst 0, 1), (2, .aload_n 0, 1), (3, .iload_n 1, 1), (4, .invokevirtual 76, 3), (7, .i2l, 1), (8, .lastore, 1), (9, .goto 6, 3), (12, .astore_n 3, 1), (13, .iconst 1, 1), (14, .ireturn, 1), (15, .iconst 0, 1), (16, .ireturn, 1)]
theorem d_La_worthIn : decA cL_worthIn I_La_worthIn = true := by decide +kernel
abbrev rm_La_worthIn : Room := { frames := rm_SR_worthIn.frames + 1, cells := rm_SR_worthIn.cells, slots := rm_SR_worthIn.slots, locals := 8 + (2 + 11) + rm_SR_worthIn.locals }
theorem b_La_worthIn {X : KX} {B : KB} {L : KLay} {M M1 M2 : KMem} {p0 : Int32} {r : String ⊕ Int32} {k : Int32} (G : Good X B RL cL_worthIn 4 rm_La_worthIn) (hx : B.2.2.2 = false) (hu : okL L 0 srT) (ho : arL L 244 12 1) (hT : (xC X).exceptionTable.toList = tableOf [(0, 9, 12, 28)]) (e : m_SR_worthIn 0 p0 M = some (r, M1)) (hk : wk [eI] r M1 k M2) (R : RI X B L 4 cL_worthIn .int rm_La_worthIn k M2) : KK X B L 4 0 0 M 0 [(0, .ref (B.1 + 0)), (1, .int p0), (2, .ref (B.1 + 244))] [] := by
  refine k_aload_n G (dc d_La_worthIn 0 rfl) 2 rfl rfl ?_
  refine k_iconst G (dc d_La_worthIn 1 rfl) cI_0 ?_
  refine k_aload_n G (dc d_La_worthIn 2 rfl) 0 rfl rfl ?_
  refine k_iload_n G (dc d_La_worthIn 3 rfl) 1 rfl rfl ?_
  refine k_callVX G (dc d_La_worthIn 4 rfl) kc7 (okL_lt hu (o := 0) 0 rfl) (okL_k hu (o := 0) 0 rfl) mi_SR_worthIn mv_SR_worthIn rfl ml_L_worthIn (c_SR_worthIn (gst G) hx hu e) rfl rfl ⟨rfl, rfl⟩ rfl ⟨rfl, rfl⟩ (fun v9 h9 => ?_) (fun E9 h9 => ?_)
  · obtain ⟨x9, rfl, rfl⟩ := rI_inr h9
    obtain ⟨rfl, rfl⟩ := hk
    refine k_i2l G (dc d_La_worthIn 5 rfl) ?_
    refine k_lst G (dc d_La_worthIn 6 rfl) ho.1 ho.2.1 ho.2.2 (wrN (j := 0) (by omega) (by omega)) ?_
    refine k_goto G (dc d_La_worthIn 7 rfl) (tgt := 15) rfl ?_
    refine k_iconst G (dc d_La_worthIn 11 rfl) cI_0 ?_
    exact R _ _ _ _ rfl rfl rfl (dc d_La_worthIn 12 rfl)
  · have h8 := rI_inl h9
    subst h8
    obtain ⟨⟨i9, hi, rfl⟩, rfl⟩ := hk
    have h7 : i9 = 0 := by have h6 := (List.getElem?_eq_some_iff.mp hi).1; simp only [List.length_cons, List.length_nil] at h6; omega
    subst h7
    cases hi
    refine k_catch G [] _ _ hT (fun z hz => nomatch hz) rfl (by decide) cl_L_28 ca_I (fun q9 => ?_)
    refine k_astore_n G (dc d_La_worthIn 8 rfl) rfl rfl rfl ?_
    refine k_iconst G (dc d_La_worthIn 9 rfl) cI_1 ?_
    exact R _ _ _ _ rfl rfl rfl (dc d_La_worthIn 10 rfl)
theorem c_La_worthIn {l : Launch} {B : KB} {L : KLay} {M M1 M2 : KMem} {p0 : Int32} {r : String ⊕ Int32} {k : Int32} (hst : l.stackTraces = false) (hx : B.2.2.2 = false) (hu : okL L 0 srT) (ho : arL L 244 12 1) (e : m_SR_worthIn 0 p0 M = some (r, M1)) (hk : wk [eI] r M1 k M2) : CtrH l B yL_worthIn cL_worthIn 4 [(0, 9, 12, 28)] rm_La_worthIn [.ref (B.1 + 0), .int p0, .ref (B.1 + 244)] L M (some (.int k)) L M2 :=
  mk_H rfl hst rfl (fun X hl G hT R => b_La_worthIn G hx hu ho hT e hk R)
set_option maxRecDepth 100000 in
theorem mi_SR_runScript : MI yX10_runScript cX10_runScript 7 (some .int) 2 := ⟨gt_in 990 (by rfl) rfl, gt_in 70 (by decide +kernel) rfl, by decide +kernel, by decide +kernel⟩
theorem mv_SR_runScript : MV yX10_runScript := ⟨gt_in 988 (by decide +kernel) rfl, gt_in 989 (by decide +kernel) rfl⟩
theorem ml_L_runScript : Cond.methodLink RL 79 yX10_runScript ∈ GT := gt_in 987 (by decide +kernel) rfl
set_option maxRecDepth 100000 in
theorem mh_runScript : MIH yL_runScript cL_runScript 6 [(0, 11, 14, 13)] 4 := ⟨gt_in 986 (by rfl) rfl, gt_in 69 (by decide +kernel) rfl, by decide +kernel, by decide +kernel⟩
theorem mst_runScript : Cond.static yL_runScript ∈ GT := gt_in 985 (by decide +kernel) rfl
def I_La_runScript : List (Nat × Instr × Nat) := [(0, .aload 4, 2), (2, .iconst 0, 1), (3, .aload_n 0, 1), (4, .iload_n 1, 1), (5, .lload_n 2, 1), (6, .invokevirtual 79, 3), (9, .i2l, 1), (10, .lastore, 1), (11, .goto 7, 3), (14, .astore 5, 2), (16, .iconst 1, 1), (17, .ireturn, 1), (18, .iconst 0, 1), (19, .ireturn, 1)]
theorem d_La_runScript : decA cL_runScript I_La_runScript = true := by decide +kernel
abbrev rm_La_runScript : Room := { frames := rm_SR_runScript.frames + 1, cells := rm_SR_runScript.cells, slots := rm_SR_runScript.slots, locals := 8 + (7 + 11) + rm_SR_runScript.locals }
theorem b_La_runScript {X : KX} {B : KB} {L : KLay} {M M1 M2 : KMem} {p0 : Int32} {p1 : Int64} {r : String ⊕ Int32} {k : Int32} (G : Good X B RL cL_runScript 6 rm_La_runScript) (hx : B.2.2.2 = false) (hu : okL L 0 srT) (ho : arL L 244 12 1) (hT : (xC X).exceptionTable.toList = tableOf [(0, 11, 14, 13)]) (e : m_SR_runScript 0 p0 p1 M = some (r, M1)) (hk : wk [eA] r M1 k M2) (R : RI X B L 6 cL_runScript .int rm_La_runScript k M2) : KK X B L 6 0 0 M 0 [(0, .ref (B.1 + 0)), (1, .int p0), (2, .long p1), (4, .ref (B.1 + 244))] [] := by
  refine k_aload G (dc d_La_runScript 0 rfl) 3 rfl ?_
  refine k_iconst G (dc d_La_runScript 1 rfl) cI_0 ?_
  refine k_aload_n G (dc d_La_runScript 2 rfl) 0 rfl rfl ?_
  refine k_iload_n G (dc d_La_runScript 3 rfl) 1 rfl rfl ?_
  refine k_lload_n G (dc d_La_runScript 4 rfl) 2 rfl rfl ?_
  refine k_callVX G (dc d_La_runScript 5 rfl) kc7 (okL_lt hu (o := 0) 0 rfl) (okL_k hu (o := 0) 0 rfl) mi_SR_runScript mv_SR_runScript rfl ml_L_runScript (c_SR_runScript (gst G) hx hu e) rfl rfl ⟨rfl, rfl⟩ rfl ⟨rfl, rfl⟩ (fun v9 h9 => ?_) (fun E9 h9 => ?_)
  · obtain ⟨x9, rfl, rfl⟩ := rI_inr h9
    obtain ⟨rfl, rfl⟩ := hk
    refine k_i2l G (dc d_La_runScript 6 rfl) ?_
    refine k_lst G (dc d_La_runScript 7 rfl) ho.1 ho.2.1 ho.2.2 (wrN (j := 0) (by omega) (by omega)) ?_
    refine k_goto G (dc d_La_runScript 8 rfl) (tgt := 18) rfl ?_
    refine k_iconst G (dc d_La_runScript 12 rfl) cI_0 ?_
    exact R _ _ _ _ rfl rfl rfl (dc d_La_runScript 13 rfl)
  · have h8 := rI_inl h9
    subst h8
    obtain ⟨⟨i9, hi, rfl⟩, rfl⟩ := hk
    have h7 : i9 = 0 := by have h6 := (List.getElem?_eq_some_iff.mp hi).1; simp only [List.length_cons, List.length_nil] at h6; omega
    subst h7
    cases hi
    refine k_catch G [] _ _ hT (fun z hz => nomatch hz) rfl (by decide) cl_L_13 ca_A (fun q9 => ?_)
    refine k_astore G (dc d_La_runScript 9 rfl) rfl rfl ?_
    refine k_iconst G (dc d_La_runScript 10 rfl) cI_1 ?_
    exact R _ _ _ _ rfl rfl rfl (dc d_La_runScript 11 rfl)
theorem c_La_runScript {l : Launch} {B : KB} {L : KLay} {M M1 M2 : KMem} {p0 : Int32} {p1 : Int64} {r : String ⊕ Int32} {k : Int32} (hst : l.stackTraces = false) (hx : B.2.2.2 = false) (hu : okL L 0 srT) (ho : arL L 244 12 1) (e : m_SR_runScript 0 p0 p1 M = some (r, M1)) (hk : wk [eA] r M1 k M2) : CtrH l B yL_runScript cL_runScript 6 [(0, 11, 14, 13)] rm_La_runScript [.ref (B.1 + 0), .int p0, .long p1, .ref (B.1 + 244)] L M (some (.int k)) L M2 :=
  mk_H rfl hst rfl (fun X hl G hT R => b_La_runScript G hx hu ho hT e hk R)
set_option maxRecDepth 100000 in
theorem mi_SR_simulate : MI yX10_simulate cX10_simulate 8 (some .int) 2 := ⟨gt_in 1019 (by rfl) rfl, gt_in 70 (by decide +kernel) rfl, by decide +kernel, by decide +kernel⟩
theorem mv_SR_simulate : MV yX10_simulate := ⟨gt_in 1017 (by decide +kernel) rfl, gt_in 1018 (by decide +kernel) rfl⟩
theorem ml_L_simulate : Cond.methodLink RL 83 yX10_simulate ∈ GT := gt_in 1016 (by decide +kernel) rfl
set_option maxRecDepth 100000 in
theorem mh_simulate : MIH yL_simulate cL_simulate 6 [(0, 11, 14, 13)] 4 := ⟨gt_in 1015 (by rfl) rfl, gt_in 69 (by decide +kernel) rfl, by decide +kernel, by decide +kernel⟩
theorem mst_simulate : Cond.static yL_simulate ∈ GT := gt_in 1014 (by decide +kernel) rfl
def I_La_simulate : List (Nat × Instr × Nat) := [(0, .aload 4, 2), (2, .iconst 0, 1), (3, .aload_n 0, 1), (4, .lload_n 1, 1), (5, .iload_n 3, 1), (6, .invokevirtual 83, 3), (9, .i2l, 1), (10, .lastore, 1), (11, .goto 7, 3), (14, .astore 5, 2), (16, .iconst 1, 1), (17, .ireturn, 1), (18, .iconst 0, 1), (19, .ireturn, 1)]
theorem d_La_simulate : decA cL_simulate I_La_simulate = true := by decide +kernel
abbrev rm_La_simulate : Room := { frames := rm_SR_simulate.frames + 1, cells := rm_SR_simulate.cells, slots := rm_SR_simulate.slots, locals := 8 + (8 + 11) + rm_SR_simulate.locals }
theorem b_La_simulate {X : KX} {B : KB} {L : KLay} {M M1 M2 : KMem} {p0 : Int64} {p1 : Int32} {r : String ⊕ Int32} {k : Int32} (G : Good X B RL cL_simulate 6 rm_La_simulate) (hx : B.2.2.2 = false) (hu : okL L 0 srT) (ho : arL L 244 12 1) (hT : (xC X).exceptionTable.toList = tableOf [(0, 11, 14, 13)]) (e : m_SR_simulate 0 p0 p1 M = some (r, M1)) (hk : wk [eA] r M1 k M2) (R : RI X B L 6 cL_simulate .int rm_La_simulate k M2) : KK X B L 6 0 0 M 0 [(0, .ref (B.1 + 0)), (1, .long p0), (3, .int p1), (4, .ref (B.1 + 244))] [] := by
  refine k_aload G (dc d_La_simulate 0 rfl) 3 rfl ?_
  refine k_iconst G (dc d_La_simulate 1 rfl) cI_0 ?_
  refine k_aload_n G (dc d_La_simulate 2 rfl) 0 rfl rfl ?_
  refine k_lload_n G (dc d_La_simulate 3 rfl) 1 rfl rfl ?_
  refine k_iload_n G (dc d_La_simulate 4 rfl) 2 rfl rfl ?_
  refine k_callVX G (dc d_La_simulate 5 rfl) kc7 (okL_lt hu (o := 0) 0 rfl) (okL_k hu (o := 0) 0 rfl) mi_SR_simulate mv_SR_simulate rfl ml_L_simulate (c_SR_simulate (gst G) hx hu e) rfl rfl ⟨rfl, rfl⟩ rfl ⟨rfl, rfl⟩ (fun v9 h9 => ?_) (fun E9 h9 => ?_)
  · obtain ⟨x9, rfl, rfl⟩ := rI_inr h9
    obtain ⟨rfl, rfl⟩ := hk
    refine k_i2l G (dc d_La_simulate 6 rfl) ?_
    refine k_lst G (dc d_La_simulate 7 rfl) ho.1 ho.2.1 ho.2.2 (wrN (j := 0) (by omega) (by omega)) ?_
    refine k_goto G (dc d_La_simulate 8 rfl) (tgt := 18) rfl ?_
    refine k_iconst G (dc d_La_simulate 12 rfl) cI_0 ?_
    exact R _ _ _ _ rfl rfl rfl (dc d_La_simulate 13 rfl)
  · have h8 := rI_inl h9
    subst h8
    obtain ⟨⟨i9, hi, rfl⟩, rfl⟩ := hk
    have h7 : i9 = 0 := by have h6 := (List.getElem?_eq_some_iff.mp hi).1; simp only [List.length_cons, List.length_nil] at h6; omega
    subst h7
    cases hi
    refine k_catch G [] _ _ hT (fun z hz => nomatch hz) rfl (by decide) cl_L_13 ca_A (fun q9 => ?_)
    refine k_astore G (dc d_La_simulate 9 rfl) rfl rfl ?_
    refine k_iconst G (dc d_La_simulate 10 rfl) cI_1 ?_
    exact R _ _ _ _ rfl rfl rfl (dc d_La_simulate 11 rfl)
theorem c_La_simulate {l : Launch} {B : KB} {L : KLay} {M M1 M2 : KMem} {p0 : Int64} {p1 : Int32} {r : String ⊕ Int32} {k : Int32} (hst : l.stackTraces = false) (hx : B.2.2.2 = false) (hu : okL L 0 srT) (ho : arL L 244 12 1) (e : m_SR_simulate 0 p0 p1 M = some (r, M1)) (hk : wk [eA] r M1 k M2) : CtrH l B yL_simulate cL_simulate 6 [(0, 11, 14, 13)] rm_La_simulate [.ref (B.1 + 0), .long p0, .int p1, .ref (B.1 + 244)] L M (some (.int k)) L M2 :=
  mk_H rfl hst rfl (fun X hl G hT R => b_La_simulate G hx hu ho hT e hk R)
set_option maxRecDepth 100000 in
theorem mi_SR_save : MI yX10_save cX10_save 2 (some .int) 1 := ⟨gt_in 1044 (by rfl) rfl, gt_in 70 (by decide +kernel) rfl, by decide +kernel, by decide +kernel⟩
theorem mv_SR_save : MV yX10_save := ⟨gt_in 1042 (by decide +kernel) rfl, gt_in 1043 (by decide +kernel) rfl⟩
theorem ml_L_save : Cond.methodLink RL 87 yX10_save ∈ GT := gt_in 1041 (by decide +kernel) rfl
set_option maxRecDepth 100000 in
theorem mh_save : MIH yL_save cL_save 4 [(0, 9, 12, 28)] 3 := ⟨gt_in 1040 (by rfl) rfl, gt_in 69 (by decide +kernel) rfl, by decide +kernel, by decide +kernel⟩
theorem mst_save : Cond.static yL_save ∈ GT := gt_in 1039 (by decide +kernel) rfl
def I_La_save : List (Nat × Instr × Nat) := [(0, .aload_n 2, 1), (1, .iconst 0, 1), (2, .aload_n 0, 1), (3, .iload_n 1, 1), (4, .invokevirtual 87, 3), (7, .i2l, 1), (8, .lastore, 1), (9, .goto 6, 3), (12, .astore_n 3, 1), (13, .iconst 1, 1), (14, .ireturn, 1), (15, .iconst 0, 1), (16, .ireturn, 1)]
theorem d_La_save : decA cL_save I_La_save = true := by decide +kernel
abbrev rm_La_save : Room := { frames := rm_SR_save.frames + 1, cells := rm_SR_save.cells, slots := rm_SR_save.slots, locals := 8 + (2 + 11) + rm_SR_save.locals }
theorem b_La_save {X : KX} {B : KB} {L : KLay} {M M1 M2 : KMem} {p0 : Int32} {r : String ⊕ Int32} {k : Int32} (G : Good X B RL cL_save 4 rm_La_save) (hx : B.2.2.2 = false) (hu : okL L 0 srT) (ho : arL L 244 12 1) (hT : (xC X).exceptionTable.toList = tableOf [(0, 9, 12, 28)]) (e : m_SR_save 0 p0 M = some (r, M1)) (hk : wk [eI] r M1 k M2) (R : RI X B L 4 cL_save .int rm_La_save k M2) : KK X B L 4 0 0 M 0 [(0, .ref (B.1 + 0)), (1, .int p0), (2, .ref (B.1 + 244))] [] := by
  refine k_aload_n G (dc d_La_save 0 rfl) 2 rfl rfl ?_
  refine k_iconst G (dc d_La_save 1 rfl) cI_0 ?_
  refine k_aload_n G (dc d_La_save 2 rfl) 0 rfl rfl ?_
  refine k_iload_n G (dc d_La_save 3 rfl) 1 rfl rfl ?_
  refine k_callVX G (dc d_La_save 4 rfl) kc7 (okL_lt hu (o := 0) 0 rfl) (okL_k hu (o := 0) 0 rfl) mi_SR_save mv_SR_save rfl ml_L_save (c_SR_save (gst G) hx hu e) rfl rfl ⟨rfl, rfl⟩ rfl ⟨rfl, rfl⟩ (fun v9 h9 => ?_) (fun E9 h9 => ?_)
  · obtain ⟨x9, rfl, rfl⟩ := rI_inr h9
    obtain ⟨rfl, rfl⟩ := hk
    refine k_i2l G (dc d_La_save 5 rfl) ?_
    refine k_lst G (dc d_La_save 6 rfl) ho.1 ho.2.1 ho.2.2 (wrN (j := 0) (by omega) (by omega)) ?_
    refine k_goto G (dc d_La_save 7 rfl) (tgt := 15) rfl ?_
    refine k_iconst G (dc d_La_save 11 rfl) cI_0 ?_
    exact R _ _ _ _ rfl rfl rfl (dc d_La_save 12 rfl)
  · have h8 := rI_inl h9
    subst h8
    obtain ⟨⟨i9, hi, rfl⟩, rfl⟩ := hk
    have h7 : i9 = 0 := by have h6 := (List.getElem?_eq_some_iff.mp hi).1; simp only [List.length_cons, List.length_nil] at h6; omega
    subst h7
    cases hi
    refine k_catch G [] _ _ hT (fun z hz => nomatch hz) rfl (by decide) cl_L_28 ca_I (fun q9 => ?_)
    refine k_astore_n G (dc d_La_save 8 rfl) rfl rfl rfl ?_
    refine k_iconst G (dc d_La_save 9 rfl) cI_1 ?_
    exact R _ _ _ _ rfl rfl rfl (dc d_La_save 10 rfl)
theorem c_La_save {l : Launch} {B : KB} {L : KLay} {M M1 M2 : KMem} {p0 : Int32} {r : String ⊕ Int32} {k : Int32} (hst : l.stackTraces = false) (hx : B.2.2.2 = false) (hu : okL L 0 srT) (ho : arL L 244 12 1) (e : m_SR_save 0 p0 M = some (r, M1)) (hk : wk [eI] r M1 k M2) : CtrH l B yL_save cL_save 4 [(0, 9, 12, 28)] rm_La_save [.ref (B.1 + 0), .int p0, .ref (B.1 + 244)] L M (some (.int k)) L M2 :=
  mk_H rfl hst rfl (fun X hl G hT R => b_La_save G hx hu ho hT e hk R)
set_option maxRecDepth 100000 in
theorem mi_SR_restore : MI yX10_restore cX10_restore 2 (some .int) 1 := ⟨gt_in 1059 (by rfl) rfl, gt_in 70 (by decide +kernel) rfl, by decide +kernel, by decide +kernel⟩
theorem mv_SR_restore : MV yX10_restore := ⟨gt_in 1057 (by decide +kernel) rfl, gt_in 1058 (by decide +kernel) rfl⟩
theorem ml_L_restore : Cond.methodLink RL 90 yX10_restore ∈ GT := gt_in 1056 (by decide +kernel) rfl
set_option maxRecDepth 100000 in
theorem mh_restore : MIH yL_restore cL_restore 4 [(0, 9, 12, 28), (0, 9, 15, 15)] 3 := ⟨gt_in 1055 (by rfl) rfl, gt_in 69 (by decide +kernel) rfl, by decide +kernel, by decide +kernel⟩
theorem mst_restore : Cond.static yL_restore ∈ GT := gt_in 1054 (by decide +kernel) rfl
def I_La_restore : List (Nat × Instr × Nat) := [(0, .aload_n 2, 1), (1, .iconst 0, 1), (2, .aload_n 0, 1), (3, .iload_n 1, 1), (4, .invokevirtual 90, 3), (7, .i2l, 1), (8, .lastore, 1), (9, .goto 9, 3), (12, .astore_n 3, 1), (13, .iconst 1, 1), (14, .ireturn, 1), (15, .astore_n 3, 1), (16, .iconst 2, 1), (17, .ireturn, 1), (18, .iconst 0, 1), (19, .ireturn, 1)]
theorem d_La_restore : decA cL_restore I_La_restore = true := by decide +kernel
abbrev rm_La_restore : Room := { frames := rm_SR_restore.frames + 1, cells := rm_SR_restore.cells, slots := rm_SR_restore.slots, locals := 8 + (2 + 11) + rm_SR_restore.locals }
theorem b_La_restore {X : KX} {B : KB} {L : KLay} {M M1 M2 : KMem} {p0 : Int32} {r : String ⊕ Int32} {k : Int32} (G : Good X B RL cL_restore 4 rm_La_restore) (hx : B.2.2.2 = false) (hu : okL L 0 srT) (ho : arL L 244 12 1) (hT : (xC X).exceptionTable.toList = tableOf [(0, 9, 12, 28), (0, 9, 15, 15)]) (e : m_SR_restore 0 p0 M = some (r, M1)) (hk : wk [eI, eS] r M1 k M2) (R : RI X B L 4 cL_restore .int rm_La_restore k M2) : KK X B L 4 0 0 M 0 [(0, .ref (B.1 + 0)), (1, .int p0), (2, .ref (B.1 + 244))] [] := by
  refine k_aload_n G (dc d_La_restore 0 rfl) 2 rfl rfl ?_
  refine k_iconst G (dc d_La_restore 1 rfl) cI_0 ?_
  refine k_aload_n G (dc d_La_restore 2 rfl) 0 rfl rfl ?_
  refine k_iload_n G (dc d_La_restore 3 rfl) 1 rfl rfl ?_
  refine k_callVX G (dc d_La_restore 4 rfl) kc7 (okL_lt hu (o := 0) 0 rfl) (okL_k hu (o := 0) 0 rfl) mi_SR_restore mv_SR_restore rfl ml_L_restore (c_SR_restore (gst G) hx hu e) rfl rfl ⟨rfl, rfl⟩ rfl ⟨rfl, rfl⟩ (fun v9 h9 => ?_) (fun E9 h9 => ?_)
  · obtain ⟨x9, rfl, rfl⟩ := rI_inr h9
    obtain ⟨rfl, rfl⟩ := hk
    refine k_i2l G (dc d_La_restore 5 rfl) ?_
    refine k_lst G (dc d_La_restore 6 rfl) ho.1 ho.2.1 ho.2.2 (wrN (j := 0) (by omega) (by omega)) ?_
    refine k_goto G (dc d_La_restore 7 rfl) (tgt := 18) rfl ?_
    refine k_iconst G (dc d_La_restore 14 rfl) cI_0 ?_
    exact R _ _ _ _ rfl rfl rfl (dc d_La_restore 15 rfl)
  · have h8 := rI_inl h9
    subst h8
    obtain ⟨⟨i9, hi, rfl⟩, rfl⟩ := hk
    have h7 : i9 = 0 ∨ i9 = 1 := by have h6 := (List.getElem?_eq_some_iff.mp hi).1; simp only [List.length_cons, List.length_nil] at h6; omega
    rcases h7 with rfl | rfl
    · cases hi
      refine k_catch G [] _ _ hT (fun z hz => nomatch hz) rfl (by decide) cl_L_28 ca_I (fun q9 => ?_)
      refine k_astore_n G (dc d_La_restore 8 rfl) rfl rfl rfl ?_
      refine k_iconst G (dc d_La_restore 9 rfl) cI_1 ?_
      exact R _ _ _ _ rfl rfl rfl (dc d_La_restore 10 rfl)
    · cases hi
      refine k_catch G [_] _ _ hT (by
      intro z hz
      simp only [List.mem_cons, List.not_mem_nil, or_false] at hz
      subst hz
      exact Or.inr ⟨by decide, _, cl_L_28, by decide +kernel⟩) rfl (by decide) cl_L_15 ca_S (fun q9 => ?_)
      refine k_astore_n G (dc d_La_restore 11 rfl) rfl rfl rfl ?_
      refine k_iconst G (dc d_La_restore 12 rfl) cI_2 ?_
      exact R _ _ _ _ rfl rfl rfl (dc d_La_restore 13 rfl)
theorem c_La_restore {l : Launch} {B : KB} {L : KLay} {M M1 M2 : KMem} {p0 : Int32} {r : String ⊕ Int32} {k : Int32} (hst : l.stackTraces = false) (hx : B.2.2.2 = false) (hu : okL L 0 srT) (ho : arL L 244 12 1) (e : m_SR_restore 0 p0 M = some (r, M1)) (hk : wk [eI, eS] r M1 k M2) : CtrH l B yL_restore cL_restore 4 [(0, 9, 12, 28), (0, 9, 15, 15)] rm_La_restore [.ref (B.1 + 0), .int p0, .ref (B.1 + 244)] L M (some (.int k)) L M2 :=
  mk_H rfl hst rfl (fun X hl G hT R => b_La_restore G hx hu ho hT e hk R)
