/-! laid by wip/p30/g30.py: La_changes, La_decrees, La_undoes -/
/-! laid by wip/whole/lawgen.py: THE LAW'S WRAPPERS: methods with an exception table that catch what they name -/
def CtrH (l : Launch) (B : KB) (y : MethodName) (bytes : ByteArray) (maxL : Nat) (hh : List (Nat × Nat × Nat × Nat)) (rm : Room) (As : List Value) (L : KLay) (M : KMem) (v : Option Value) (L' : KLay) (M' : KMem) : Prop :=
  Met l y (Cond.codeWith y bytes maxL (some .int) hh :: GT) rm (KPc B L M As) (KQc B L' M' v) rm.cells rm.slots (kA B)
def MIH (y : MethodName) (bytes : ByteArray) (maxL : Nat) (hh : List (Nat × Nat × Nat × Nat)) (n : Nat) : Prop :=
  Cond.codeWith y bytes maxL (some .int) hh ∈ GT ∧ Cond.initialized y.cls ∈ GT ∧ (y.cls ≠ "java/lang/invoke/MethodHandle" ∧ y.cls ≠ "java/lang/invoke/VarHandle") ∧ (parseMethodDescriptor y.desc).map (fun d => d.parameters.length) = some n
theorem metH_ofW {l : Launch} {y : MethodName} {ws ws' : List Cond} {rm : Room} {Pc : Array Value → State → Prop} {Qc : Array Value → State → Outcome → State → Prop} {mc ms : Nat} {free : Addr → Prop} {cc : ByteArray} {maxL : Nat} {ret : Option FieldType} {hh : List (Nat × Nat × Nat × Nat)}
    (hy : plainName y.cls = true) (hw : ws = Cond.codeWith y cc maxL ret hh :: ws')
    (body : ∀ p e s m args below meth c s₁, BodyLoose p l y (headSpec ws rm) cc maxL ret e s m args below meth c s₁ → c.maxLocals = maxL → Pc args s →
      W p l e (headSpec ws rm).room s m args below meth c s.heap [] 0 0 (MQ below Qc args s mc ms free) (entryFrame m args maxL)) : Met l y ws rm Pc Qc mc ms free := by
  refine MetFree.of_bodyS (code := cc) (maxLocals := maxL) (ret := ret) hy ?_ ?_
  · intro args s m h hn
    obtain ⟨m9, meth, c, hn9, h1, h2, h3, h4, -, h5, h6, -⟩ := Cond.codeWith_spec (atoms_spec (ws := ws) h _ (by rw [hw]; exact List.mem_cons_self))
    cases hn.symm.trans hn9
    exact ⟨meth, c, h1, h2, h3, h4, h5, h6⟩
  · intro p e s m args below meth c s₁ B hml hP _
    have hh0 : s₁.heap = s.heap := by rw [B.state]; rfl
    obtain ⟨t, a1, o, b1, b2, b3⟩ := body p e s m args below meth c s₁ B hml hP s₁ hh0 (Stand.of_body B)
    exact ⟨t, o, a1, b1, b2, ⟨b3.1, b3.2⟩⟩
theorem mk_H {l : Launch} {B : KB} {y : MethodName} {bytes : ByteArray} {maxL : Nat} {hh : List (Nat × Nat × Nat × Nat)} {rm : Room} {As : List Value} {L L' : KLay} {M M' : KMem} {v : Int32} (hy : plainName y.cls = true) (hst : l.stackTraces = false) (hlen : Nat.ble (lg_sl As).length maxL = true)
    (body : ∀ X : KX, xL X = l → Good X B y.cls bytes maxL rm → (xC X).exceptionTable.toList = tableOf hh → RI X B L' maxL bytes .int rm v M' → KK X B L maxL 0 0 M 0 (lv_args 0 As) []) : CtrH l B y bytes maxL hh rm As L M (some (.int v)) L' M' := by
  refine metH_ofW hy rfl ?_
  intro p e s m args below meth c s₁ Bd hml hv
  obtain ⟨rfl, hW0, hK, hS0⟩ := hv
  have hts := atoms_spec (ws := Cond.codeWith y bytes maxL (some .int) hh :: GT) Bd.pre
  have G : Good (p, l, e, rm, s, m, As.toArray, below, meth, c, MQ below (KQc B L' M' (some (.int v))) As.toArray s rm.cells rm.slots (kA B)) B y.cls bytes maxL rm :=
    ⟨Bd.exec, Bd.bytes, hml, findClass_of_methodNamed Bd.named, fun w hw => hts w (List.mem_cons_of_mem _ hw), hK, hS0, hW0.2.2, Bd.notSynchronized, hst, rfl⟩
  have hb := body _ rfl G (vx_table (x := y) Bd (hts _ List.mem_cons_self)) ?_
  · rw [lg_entry_eq]
    exact hb s.heap [] _ hW0 va_S.rf (lv_entry As (Nat.le_of_ble_eq_true hlen))
  · intro cn sn pc ls h1 h2 hn d H locs la hW hS hla
    refine W.widen (k := rm.cells) (n := rm.slots) (Nat.le_of_ble_eq_true h1) (Nat.le_of_ble_eq_true h2) ?_
    exact W.zret (ty := .int) Bd.exec Bd.bytes Bd.returns hn (fun t ht hWm => ⟨rfl, by rw [ht]; exact hW, hS.F ht⟩) hS.2.2 d Bd.notSynchronized
/-- a row of the table that names the class catches -/
theorem k_catch {X : KX} {B : KB} {L : KLay} {own : String} {cc : ByteArray} {nL : Nat} {rm : Room} {cn sn : Nat} {M : KMem} {pc : Nat} {ls : List (Nat × Value)} {rest : List Value} {E : String} (G : Good X B own cc nL rm) (pre : List ExceptionTableEntry) (x : ExceptionTableEntry) (suf : List ExceptionTableEntry) (hsplit : (xC X).exceptionTable.toList = pre ++ x :: suf)
    (hpass : ∀ z ∈ pre, covers z pc = false ∨ (z.catchType ≠ 0 ∧ ∃ nm : String, Cond.classLink own z.catchType nm ∈ GT ∧ (E, nm) ∈ kNC)) (hx : covers x pc = true) (h0 : x.catchType ≠ 0) (hlink : Cond.classLink own x.catchType E ∈ GT) (hcast : Cond.castable E E ∈ lw_tbl ∧ nwWord (Cond.castable E E) = true)
    (kk : ∀ q, KK X B L nL cn sn M x.handlerPc ls [.ref q]) : KT X B L nL cn sn M pc ls rest E := by
  intro H locs la q ce hW hS hla hce hcv hcl
  have hg := G.2.2.2.2.1
  have hn := G.2.2.2.2.2.2.1.1.2.1
  exact vx_catch G.2.2.2.1 pre x suf hsplit (fun z hz => (hpass z hz).imp id (fun h => ⟨h.1, h.2.choose, hg _ h.2.choose_spec.1, hn _ h.2.choose_spec.2⟩)) hx h0 (hg _ hlink) (va_Nw.use (nw_tabs hcast.2) (G.2.2.2.2.2.2.1.1.1 _ hcast.1 hcast.2)) hce hcv hcl (kk q H locs la hW hS hla)
/-- a call of a static method with an exception table -/
theorem k_cSH {X : KX} {B : KB} {L : KLay} {own : String} {cc : ByteArray} {nL : Nat} {rm : Room} {cn sn : Nat} {M : KMem} {pc : Nat} {ls : List (Nat × Value)} {st rest : List Value} (G : Good X B own cc nL rm) {idx : Nat} (d : decode cc pc = .ok (.invokestatic idx, 3)) {y : MethodName} {bytes : ByteArray} {maxL n : Nat} {hh : List (Nat × Nat × Nat × Nat)} {rmc : Room} (m : MIH y bytes maxL hh n) (ms : Cond.static y ∈ GT) (hl : Cond.methodLink own idx y ∈ GT) {As : List Value} {v : Int32} {L' : KLay} {M' : KMem}
    (hM : CtrH (xL X) B y bytes maxL hh rmc As L M (some (.int v)) L' M') (hn : As.length = n) (hs : st = As.reverse ++ rest) (hR : Nat.ble (rmc.frames + 1) rm.frames = true ∧ Nat.ble (8 + (maxL + 11) + rmc.locals) rm.locals = true) (hr : Nat.ble ((rest.map fun v => v.category).sum) 8 = true) (hcs : Nat.ble (cn + rmc.cells) rm.cells = true ∧ Nat.ble (sn + rmc.slots) rm.slots = true)
    (kk : KK X B L' nL (cn + rmc.cells) (sn + rmc.slots) M' (pc + 3) ls (.int v :: rest)) : KK X B L nL cn sn M pc ls st := by
  intro H locs la hW hS hla
  have hrm : xR X = rm := G.2.2.2.2.2.2.2.2.2.2
  have hts := G.2.2.2.2.1
  obtain ⟨h1, h2, h3, h4⟩ := m
  refine k_run hS hla (vx_runSW (good_fix G) hM ⟨⟨rfl, rfl, by rw [hrm]; exact Nat.le_of_ble_eq_true hR.1, by rw [hrm]; exact Nat.le_of_ble_eq_true hR.2, fun w hw a' U hU => ?_, List.mem_cons_self⟩, hts _ h1, hts _ h2, h3, fun sig h => ?_, hts _ hl, hts _ ms⟩ ⟨kpc_blind, fun U hU hWm => ⟨rfl, good_kwo G hW hS hU hWm⟩⟩ rfl hn hla.1 hs (lv_room (Nat.le_of_ble_eq_true hr)) d (by rw [hrm]; exact ⟨Nat.le_of_ble_eq_true hcs.1, Nat.le_of_ble_eq_true hcs.2⟩)) kk
  · rcases List.mem_cons.mp hw with rfl | hw
    · exact word_at hU (gt_good h1) (hts _ h1)
    · exact word_at hU (gt_good hw) (hts _ hw)
  · rw [h] at h4
    exact (Option.some.inj h4).symm
theorem k_wide {X : KX} {B : KB} {L : KLay} {nL cn sn k n : Nat} {M : KMem} {pc : Nat} {ls : List (Nat × Value)} {st : List Value} (h1 : cn ≤ k) (h2 : sn ≤ n) (kk : KK X B L nL k n M pc ls st) : KK X B L nL cn sn M pc ls st :=
  fun H0 locs la hW hS hla => W.widen h1 h2 (kk H0 locs la hW hS hla)
/-- a remainder by what may be 0 -/
def rmI (x y : Int32) : Option Int32 := if y = 0 then none else some (jrem x y)
theorem rmI_ok {x y z : Int32} (h : rmI x y = some z) : ¬ y = 0 ∧ z = jrem x y := by
  unfold rmI at h
  split at h
  · cases h
  · rename_i hn
    cases h
    exact ⟨hn, rfl⟩
theorem k_iremV {X : KX} {B : KB} {L : KLay} {own : String} {cc : ByteArray} {nL : Nat} {rm : Room} {cn sn : Nat} {M : KMem} {pc : Nat} {ls : List (Nat × Value)} {st : List Value} (G : Good X B own cc nL rm) {x y z : Int32} (d : decode cc pc = .ok (.irem, 1)) (e : rmI x y = some z) (k : KK X B L nL cn sn M (pc + 1) ls (.int z :: st)) : KK X B L nL cn sn M pc ls (.int y :: .int x :: st) := by
  obtain ⟨h1, rfl⟩ := rmI_ok e
  exact k_irem G d h1 k
set_option maxRecDepth 100000 in
theorem mh_La_changes : MIH yL_changes cL_changes 6 [(0, 75, 78, 30), (0, 75, 82, 32), (0, 75, 86, 34)] 5 := ⟨gt_in 419 (by rfl) rfl, gt_in 14 (by decide +kernel) rfl, by decide +kernel, by decide +kernel⟩
theorem ms_La_changes : Cond.static yL_changes ∈ GT := gt_in 418 (by decide +kernel) rfl
set_option maxRecDepth 100000 in
theorem mh_La_decrees : MIH yL_decrees cL_decrees 7 [(0, 13, 16, 32), (0, 13, 20, 34)] 6 := ⟨gt_in 578 (by rfl) rfl, gt_in 14 (by decide +kernel) rfl, by decide +kernel, by decide +kernel⟩
theorem ms_La_decrees : Cond.static yL_decrees ∈ GT := gt_in 577 (by decide +kernel) rfl
set_option maxRecDepth 100000 in
theorem mh_La_undoes : MIH yL_undoes cL_undoes 3 [(0, 7, 10, 34)] 2 := ⟨gt_in 373 (by rfl) rfl, gt_in 14 (by decide +kernel) rfl, by decide +kernel, by decide +kernel⟩
theorem ms_La_undoes : Cond.static yL_undoes ∈ GT := gt_in 372 (by decide +kernel) rfl
def I_La_changes : List (Nat × Instr × Nat) := [(0, .aload 4, 2), (2, .iconst 0, 1), (3, .iload_n 1, 1), (4, .ifCond .ne 12, 3), (7, .aload_n 0, 1), (8, .iload_n 2, 1), (9, .iload_n 3, 1), (10, .invokevirtual 8, 3), (13, .goto 61, 3), (16, .iload_n 1, 1), (17, .iconst 1, 1), (18, .if_icmp .ne 11, 3), (21, .aload_n 0, 1), (22, .iload_n 2, 1), (23, .invokevirtual 14, 3), (26, .goto 48, 3), (29, .iload_n 1, 1), (30, .iconst 2, 1), (31, .if_icmp .ne 11, 3), (34, .aload_n 0, 1), (35, .iload_n 2, 1), (36, .invokevirtual 18, 3), (39, .goto 35, 3), (42, .iload_n 1, 1), (43, .iconst 3, 1), (44, .if_icmp .ne 11, 3), (47, .aload_n 0, 1), (48, .iload_n 2, 1), (49, .invokevirtual 21, 3), (52, .goto 22, 3), (55, .iload_n 1, 1), (56, .iconst 4, 1), (57, .if_icmp .ne 11, 3), (60, .aload_n 0, 1), (61, .iload_n 2, 1), (62, .invokevirtual 24, 3), (65, .goto 9, 3), (68, .aload_n 0, 1), (69, .iload_n 2, 1), (70, .iload_n 3, 1), (71, .invokevirtual 27, 3), (74, .iastore, 1), (75, .goto 15, 3), (78, .astore 5, 2), (80, .iconst 1, 1), (81, .ireturn, 1), (82, .astore 5, 2), (84, .iconst 2, 1), (85, .ireturn, 1), (86, .astore 5, 2), (88, .iconst 3, 1), (89, .ireturn, 1), (90, .iconst 0, 1), (91, .ireturn, 1)]
set_option maxRecDepth 100000 in
theorem d_La_changes : decA cL_changes I_La_changes = true := by decide +kernel
abbrev rm_La_changes : Room := ({ frames := 8, cells := 2, slots := 12, locals := 158 } : Room)
def m_La_changes (p0 : Nat) (p1 : Int32) (p2 : Int32) (p3 : Int32) (p4 : Nat) (p4n : Nat) (M : KMem) : Option (Int32 × KMem) :=
 if p1 = 0 then
 (Option.bind (m_SR_sign p0 p2 p3 M) fun (r72, M75) => match r72 with
 | .inl E73 =>
 (if E73 = "java/lang/IndexOutOfBoundsException" then
 (some (1, M75))
 else
 (if E73 = "java/lang/IllegalArgumentException" then
 (some (2, M75))
 else
 (if E73 = "java/lang/IllegalStateException" then
 (some (3, M75))
 else
 (none))))
 | .inr x74 =>
 (Option.bind (wrI M75 p4 p4n 0 x74) fun M77 =>
 some (0, M77)))
 else
 (if p1 = 1 then
 (Option.bind (m_SR_revoke p0 p2 M) fun (r59, M62) => match r59 with
 | .inl E60 =>
 (if E60 = "java/lang/IndexOutOfBoundsException" then
 (some (1, M62))
 else
 (if E60 = "java/lang/IllegalArgumentException" then
 (some (2, M62))
 else
 (if E60 = "java/lang/IllegalStateException" then
 (some (3, M62))
 else
 (none))))
 | .inr x61 =>
 (Option.bind (wrI M62 p4 p4n 0 x61) fun M64 =>
 some (0, M64)))
 else
 (if p1 = 2 then
 (Option.bind (m_SR_paint p0 p2 M) fun (r46, M49) => match r46 with
 | .inl E47 =>
 (if E47 = "java/lang/IndexOutOfBoundsException" then
 (some (1, M49))
 else
 (if E47 = "java/lang/IllegalArgumentException" then
 (some (2, M49))
 else
 (if E47 = "java/lang/IllegalStateException" then
 (some (3, M49))
 else
 (none))))
 | .inr x48 =>
 (Option.bind (wrI M49 p4 p4n 0 x48) fun M51 =>
 some (0, M51)))
 else
 (if p1 = 3 then
 (Option.bind (m_SR_months p0 p2 M) fun (r33, M36) => match r33 with
 | .inl E34 =>
 (if E34 = "java/lang/IndexOutOfBoundsException" then
 (some (1, M36))
 else
 (if E34 = "java/lang/IllegalArgumentException" then
 (some (2, M36))
 else
 (if E34 = "java/lang/IllegalStateException" then
 (some (3, M36))
 else
 (none))))
 | .inr x35 =>
 (Option.bind (wrI M36 p4 p4n 0 x35) fun M38 =>
 some (0, M38)))
 else
 (if p1 = 4 then
 (Option.bind (m_SR_amnesty p0 p2 M) fun (r20, M23) => match r20 with
 | .inl E21 =>
 (if E21 = "java/lang/IndexOutOfBoundsException" then
 (some (1, M23))
 else
 (if E21 = "java/lang/IllegalArgumentException" then
 (some (2, M23))
 else
 (if E21 = "java/lang/IllegalStateException" then
 (some (3, M23))
 else
 (none))))
 | .inr x22 =>
 (Option.bind (wrI M23 p4 p4n 0 x22) fun M25 =>
 some (0, M25)))
 else
 (Option.bind (m_SR_set p0 p2 p3 M) fun (r7, M10) => match r7 with
 | .inl E8 =>
 (if E8 = "java/lang/IndexOutOfBoundsException" then
 (some (1, M10))
 else
 (if E8 = "java/lang/IllegalArgumentException" then
 (some (2, M10))
 else
 (if E8 = "java/lang/IllegalStateException" then
 (some (3, M10))
 else
 (none))))
 | .inr x9 =>
 (Option.bind (wrI M10 p4 p4n 0 x9) fun M12 =>
 some (0, M12)))))))
set_option maxHeartbeats 4000000 in
set_option maxRecDepth 100000 in
theorem b_La_changes {X : KX} {B : KB} {L : KLay} {M : KMem} {p0 : Nat} {p1 : Int32} {p2 : Int32} {p3 : Int32} {p4 : Nat} {p4n : Nat} (G : Good X B RL cL_changes 6 rm_La_changes) (hT : (xC X).exceptionTable.toList = tableOf [(0, 75, 78, 30), (0, 75, 82, 32), (0, 75, 86, 34)]) (hx : B.2.2.2 = false) (hp0 : okL L p0 srT) (hp4 : arL L p4 9 p4n) (h : kOk (m_La_changes p0 p1 p2 p3 p4 p4n M) (fun r => RI X B L 6 cL_changes .int rm_La_changes r.1 r.2)) : KK X B L 6 0 0 M 0 [(0, .ref (B.1 + p0)), (1, .int p1), (2, .int p2), (3, .int p3), (4, .ref (B.1 + p4))] [] := by
  unfold m_La_changes at h
  refine k_aload G (dc d_La_changes 0 rfl) 4 rfl ?_
  refine k_iconst G (dc d_La_changes 1 rfl) cI_0 ?_
  refine k_iload_n G (dc d_La_changes 2 rfl) 1 rfl rfl ?_
  refine k_if_ne G (dc d_La_changes 3 rfl) (tgt := 16) rfl (fun c1 => ?_) (fun c1 => ?_)
  · replace h := kOk_n c1 h
    refine k_iload_n G (dc d_La_changes 9 rfl) 1 rfl rfl ?_
    refine k_iconst G (dc d_La_changes 10 rfl) cI_1 ?_
    refine k_icmp_ne G (dc d_La_changes 11 rfl) (tgt := 29) rfl (fun c2 => ?_) (fun c2 => ?_)
    · replace h := kOk_n c2 h
      refine k_iload_n G (dc d_La_changes 16 rfl) 1 rfl rfl ?_
      refine k_iconst G (dc d_La_changes 17 rfl) cI_2 ?_
      refine k_icmp_ne G (dc d_La_changes 18 rfl) (tgt := 42) rfl (fun c3 => ?_) (fun c3 => ?_)
      · replace h := kOk_n c3 h
        refine k_iload_n G (dc d_La_changes 23 rfl) 1 rfl rfl ?_
        refine k_iconst G (dc d_La_changes 24 rfl) cI_3 ?_
        refine k_icmp_ne G (dc d_La_changes 25 rfl) (tgt := 55) rfl (fun c4 => ?_) (fun c4 => ?_)
        · replace h := kOk_n c4 h
          refine k_iload_n G (dc d_La_changes 30 rfl) 1 rfl rfl ?_
          refine k_iconst G (dc d_La_changes 31 rfl) cI_4 ?_
          refine k_icmp_ne G (dc d_La_changes 32 rfl) (tgt := 68) rfl (fun c5 => ?_) (fun c5 => ?_)
          · replace h := kOk_n c5 h
            refine k_aload_n G (dc d_La_changes 37 rfl) 0 rfl rfl ?_
            refine k_iload_n G (dc d_La_changes 38 rfl) 2 rfl rfl ?_
            refine k_iload_n G (dc d_La_changes 39 rfl) 3 rfl rfl ?_
            obtain ⟨⟨r7, M10⟩, e6, h⟩ := kOk_b h
            refine k_callVX G (dc d_La_changes 40 rfl) kc7 (okL_lt hp0 (o := 0) 0 rfl) (okL_k hp0 (o := 0) 0 rfl) mi_SR_set mv_SR_set rfl ml_RL_27 (c_SR_set (gst G) hx hp0 e6) rfl rfl ⟨rfl, rfl⟩ rfl ⟨rfl, rfl⟩ (fun v9 h9 => ?_) (fun E8 h9 => ?_)
            · obtain ⟨x9, rfl, rfl⟩ := rI_inr h9
              show KK X B L 6 2 12 M10 74 [(0, .ref (B.1 + p0)), (1, .int p1), (2, .int p2), (3, .int p3), (4, .ref (B.1 + p4))] [.int x9, .int 0, .ref (B.1 + p4)]
              obtain ⟨M12, e11, h⟩ := kOk_b h
              refine k_ist G (dc d_La_changes 41 rfl) hp4.1 hp4.2.1 hp4.2.2 e11 ?_
              refine k_goto G (dc d_La_changes 42 rfl) (tgt := 90) rfl ?_
              refine k_iconst G (dc d_La_changes 52 rfl) cI_0 ?_
              exact (kOk_s h) _ _ _ _ rfl rfl rfl (dc d_La_changes 53 rfl)
            · have h8 := rI_inl h9
              subst h8
              by_cases c13 : E8 = "java/lang/IndexOutOfBoundsException"
              · replace h := kOk_p c13 h
                subst c13
                refine k_catch G [] _ _ hT (fun z hz => nomatch hz) rfl (by decide) cl_L_30 ca_I (fun q14 => ?_)
                refine k_astore G (dc d_La_changes 43 rfl) (ls' := [(5, .ref q14), (0, .ref (B.1 + p0)), (1, .int p1), (2, .int p2), (3, .int p3), (4, .ref (B.1 + p4))]) rfl rfl ?_
                refine k_iconst G (dc d_La_changes 44 rfl) cI_1 ?_
                exact (kOk_s h) _ _ _ _ rfl rfl rfl (dc d_La_changes 45 rfl)
              · replace h := kOk_n c13 h
                by_cases c15 : E8 = "java/lang/IllegalArgumentException"
                · replace h := kOk_p c15 h
                  subst c15
                  refine k_catch G [_] _ _ hT (by
      intro z hz
      simp only [List.mem_cons, List.not_mem_nil, or_false] at hz
      subst hz
      exact Or.inr ⟨by decide, _, cl_L_30, by decide +kernel⟩) rfl (by decide) cl_L_32 ca_A (fun q16 => ?_)
                  refine k_astore G (dc d_La_changes 46 rfl) (ls' := [(5, .ref q16), (0, .ref (B.1 + p0)), (1, .int p1), (2, .int p2), (3, .int p3), (4, .ref (B.1 + p4))]) rfl rfl ?_
                  refine k_iconst G (dc d_La_changes 47 rfl) cI_2 ?_
                  exact (kOk_s h) _ _ _ _ rfl rfl rfl (dc d_La_changes 48 rfl)
                · replace h := kOk_n c15 h
                  by_cases c17 : E8 = "java/lang/IllegalStateException"
                  · replace h := kOk_p c17 h
                    subst c17
                    refine k_catch G [_, _] _ _ hT (by
        intro z hz
        simp only [List.mem_cons, List.not_mem_nil, or_false] at hz
        rcases hz with rfl | rfl
        · exact Or.inr ⟨by decide, _, cl_L_30, by decide +kernel⟩
        · exact Or.inr ⟨by decide, _, cl_L_32, by decide +kernel⟩) rfl (by decide) cl_L_34 ca_S (fun q18 => ?_)
                    refine k_astore G (dc d_La_changes 49 rfl) (ls' := [(5, .ref q18), (0, .ref (B.1 + p0)), (1, .int p1), (2, .int p2), (3, .int p3), (4, .ref (B.1 + p4))]) rfl rfl ?_
                    refine k_iconst G (dc d_La_changes 50 rfl) cI_3 ?_
                    exact (kOk_s h) _ _ _ _ rfl rfl rfl (dc d_La_changes 51 rfl)
                  · replace h := kOk_n c17 h
                    exact (kOk_none h).elim
          · replace h := kOk_p c5 h
            refine k_aload_n G (dc d_La_changes 33 rfl) 0 rfl rfl ?_
            refine k_iload_n G (dc d_La_changes 34 rfl) 2 rfl rfl ?_
            obtain ⟨⟨r20, M23⟩, e19, h⟩ := kOk_b h
            refine k_callVX G (dc d_La_changes 35 rfl) kc7 (okL_lt hp0 (o := 0) 0 rfl) (okL_k hp0 (o := 0) 0 rfl) mi_SR_amnesty mv_SR_amnesty rfl ml_RL_24 (c_SR_amnesty (gst G) hx hp0 e19) rfl rfl ⟨rfl, rfl⟩ rfl ⟨rfl, rfl⟩ (fun v9 h9 => ?_) (fun E21 h9 => ?_)
            · obtain ⟨x22, rfl, rfl⟩ := rI_inr h9
              show KK X B L 6 1 6 M23 65 [(0, .ref (B.1 + p0)), (1, .int p1), (2, .int p2), (3, .int p3), (4, .ref (B.1 + p4))] [.int x22, .int 0, .ref (B.1 + p4)]
              refine k_goto G (dc d_La_changes 36 rfl) (tgt := 74) rfl ?_
              obtain ⟨M25, e24, h⟩ := kOk_b h
              refine k_ist G (dc d_La_changes 41 rfl) hp4.1 hp4.2.1 hp4.2.2 e24 ?_
              refine k_goto G (dc d_La_changes 42 rfl) (tgt := 90) rfl ?_
              refine k_iconst G (dc d_La_changes 52 rfl) cI_0 ?_
              exact (kOk_s h) _ _ _ _ rfl rfl rfl (dc d_La_changes 53 rfl)
            · have h8 := rI_inl h9
              subst h8
              by_cases c26 : E21 = "java/lang/IndexOutOfBoundsException"
              · replace h := kOk_p c26 h
                subst c26
                refine k_catch G [] _ _ hT (fun z hz => nomatch hz) rfl (by decide) cl_L_30 ca_I (fun q27 => ?_)
                refine k_astore G (dc d_La_changes 43 rfl) (ls' := [(5, .ref q27), (0, .ref (B.1 + p0)), (1, .int p1), (2, .int p2), (3, .int p3), (4, .ref (B.1 + p4))]) rfl rfl ?_
                refine k_iconst G (dc d_La_changes 44 rfl) cI_1 ?_
                exact (kOk_s h) _ _ _ _ rfl rfl rfl (dc d_La_changes 45 rfl)
              · replace h := kOk_n c26 h
                by_cases c28 : E21 = "java/lang/IllegalArgumentException"
                · replace h := kOk_p c28 h
                  subst c28
                  refine k_catch G [_] _ _ hT (by
      intro z hz
      simp only [List.mem_cons, List.not_mem_nil, or_false] at hz
      subst hz
      exact Or.inr ⟨by decide, _, cl_L_30, by decide +kernel⟩) rfl (by decide) cl_L_32 ca_A (fun q29 => ?_)
                  refine k_astore G (dc d_La_changes 46 rfl) (ls' := [(5, .ref q29), (0, .ref (B.1 + p0)), (1, .int p1), (2, .int p2), (3, .int p3), (4, .ref (B.1 + p4))]) rfl rfl ?_
                  refine k_iconst G (dc d_La_changes 47 rfl) cI_2 ?_
                  exact (kOk_s h) _ _ _ _ rfl rfl rfl (dc d_La_changes 48 rfl)
                · replace h := kOk_n c28 h
                  by_cases c30 : E21 = "java/lang/IllegalStateException"
                  · replace h := kOk_p c30 h
                    subst c30
                    refine k_catch G [_, _] _ _ hT (by
        intro z hz
        simp only [List.mem_cons, List.not_mem_nil, or_false] at hz
        rcases hz with rfl | rfl
        · exact Or.inr ⟨by decide, _, cl_L_30, by decide +kernel⟩
        · exact Or.inr ⟨by decide, _, cl_L_32, by decide +kernel⟩) rfl (by decide) cl_L_34 ca_S (fun q31 => ?_)
                    refine k_astore G (dc d_La_changes 49 rfl) (ls' := [(5, .ref q31), (0, .ref (B.1 + p0)), (1, .int p1), (2, .int p2), (3, .int p3), (4, .ref (B.1 + p4))]) rfl rfl ?_
                    refine k_iconst G (dc d_La_changes 50 rfl) cI_3 ?_
                    exact (kOk_s h) _ _ _ _ rfl rfl rfl (dc d_La_changes 51 rfl)
                  · replace h := kOk_n c30 h
                    exact (kOk_none h).elim
        · replace h := kOk_p c4 h
          refine k_aload_n G (dc d_La_changes 26 rfl) 0 rfl rfl ?_
          refine k_iload_n G (dc d_La_changes 27 rfl) 2 rfl rfl ?_
          obtain ⟨⟨r33, M36⟩, e32, h⟩ := kOk_b h
          refine k_callVX G (dc d_La_changes 28 rfl) kc7 (okL_lt hp0 (o := 0) 0 rfl) (okL_k hp0 (o := 0) 0 rfl) mi_SR_months mv_SR_months rfl ml_RL_21 (c_SR_months (gst G) hx hp0 e32) rfl rfl ⟨rfl, rfl⟩ rfl ⟨rfl, rfl⟩ (fun v9 h9 => ?_) (fun E34 h9 => ?_)
          · obtain ⟨x35, rfl, rfl⟩ := rI_inr h9
            show KK X B L 6 1 6 M36 52 [(0, .ref (B.1 + p0)), (1, .int p1), (2, .int p2), (3, .int p3), (4, .ref (B.1 + p4))] [.int x35, .int 0, .ref (B.1 + p4)]
            refine k_goto G (dc d_La_changes 29 rfl) (tgt := 74) rfl ?_
            obtain ⟨M38, e37, h⟩ := kOk_b h
            refine k_ist G (dc d_La_changes 41 rfl) hp4.1 hp4.2.1 hp4.2.2 e37 ?_
            refine k_goto G (dc d_La_changes 42 rfl) (tgt := 90) rfl ?_
            refine k_iconst G (dc d_La_changes 52 rfl) cI_0 ?_
            exact (kOk_s h) _ _ _ _ rfl rfl rfl (dc d_La_changes 53 rfl)
          · have h8 := rI_inl h9
            subst h8
            by_cases c39 : E34 = "java/lang/IndexOutOfBoundsException"
            · replace h := kOk_p c39 h
              subst c39
              refine k_catch G [] _ _ hT (fun z hz => nomatch hz) rfl (by decide) cl_L_30 ca_I (fun q40 => ?_)
              refine k_astore G (dc d_La_changes 43 rfl) (ls' := [(5, .ref q40), (0, .ref (B.1 + p0)), (1, .int p1), (2, .int p2), (3, .int p3), (4, .ref (B.1 + p4))]) rfl rfl ?_
              refine k_iconst G (dc d_La_changes 44 rfl) cI_1 ?_
              exact (kOk_s h) _ _ _ _ rfl rfl rfl (dc d_La_changes 45 rfl)
            · replace h := kOk_n c39 h
              by_cases c41 : E34 = "java/lang/IllegalArgumentException"
              · replace h := kOk_p c41 h
                subst c41
                refine k_catch G [_] _ _ hT (by
      intro z hz
      simp only [List.mem_cons, List.not_mem_nil, or_false] at hz
      subst hz
      exact Or.inr ⟨by decide, _, cl_L_30, by decide +kernel⟩) rfl (by decide) cl_L_32 ca_A (fun q42 => ?_)
                refine k_astore G (dc d_La_changes 46 rfl) (ls' := [(5, .ref q42), (0, .ref (B.1 + p0)), (1, .int p1), (2, .int p2), (3, .int p3), (4, .ref (B.1 + p4))]) rfl rfl ?_
                refine k_iconst G (dc d_La_changes 47 rfl) cI_2 ?_
                exact (kOk_s h) _ _ _ _ rfl rfl rfl (dc d_La_changes 48 rfl)
              · replace h := kOk_n c41 h
                by_cases c43 : E34 = "java/lang/IllegalStateException"
                · replace h := kOk_p c43 h
                  subst c43
                  refine k_catch G [_, _] _ _ hT (by
        intro z hz
        simp only [List.mem_cons, List.not_mem_nil, or_false] at hz
        rcases hz with rfl | rfl
        · exact Or.inr ⟨by decide, _, cl_L_30, by decide +kernel⟩
        · exact Or.inr ⟨by decide, _, cl_L_32, by decide +kernel⟩) rfl (by decide) cl_L_34 ca_S (fun q44 => ?_)
                  refine k_astore G (dc d_La_changes 49 rfl) (ls' := [(5, .ref q44), (0, .ref (B.1 + p0)), (1, .int p1), (2, .int p2), (3, .int p3), (4, .ref (B.1 + p4))]) rfl rfl ?_
                  refine k_iconst G (dc d_La_changes 50 rfl) cI_3 ?_
                  exact (kOk_s h) _ _ _ _ rfl rfl rfl (dc d_La_changes 51 rfl)
                · replace h := kOk_n c43 h
                  exact (kOk_none h).elim
      · replace h := kOk_p c3 h
        refine k_aload_n G (dc d_La_changes 19 rfl) 0 rfl rfl ?_
        refine k_iload_n G (dc d_La_changes 20 rfl) 2 rfl rfl ?_
        obtain ⟨⟨r46, M49⟩, e45, h⟩ := kOk_b h
        refine k_callVX G (dc d_La_changes 21 rfl) kc7 (okL_lt hp0 (o := 0) 0 rfl) (okL_k hp0 (o := 0) 0 rfl) mi_SR_paint mv_SR_paint rfl ml_RL_18 (c_SR_paint (gst G) hx hp0 e45) rfl rfl ⟨rfl, rfl⟩ rfl ⟨rfl, rfl⟩ (fun v9 h9 => ?_) (fun E47 h9 => ?_)
        · obtain ⟨x48, rfl, rfl⟩ := rI_inr h9
          show KK X B L 6 1 6 M49 39 [(0, .ref (B.1 + p0)), (1, .int p1), (2, .int p2), (3, .int p3), (4, .ref (B.1 + p4))] [.int x48, .int 0, .ref (B.1 + p4)]
          refine k_goto G (dc d_La_changes 22 rfl) (tgt := 74) rfl ?_
          obtain ⟨M51, e50, h⟩ := kOk_b h
          refine k_ist G (dc d_La_changes 41 rfl) hp4.1 hp4.2.1 hp4.2.2 e50 ?_
          refine k_goto G (dc d_La_changes 42 rfl) (tgt := 90) rfl ?_
          refine k_iconst G (dc d_La_changes 52 rfl) cI_0 ?_
          exact (kOk_s h) _ _ _ _ rfl rfl rfl (dc d_La_changes 53 rfl)
        · have h8 := rI_inl h9
          subst h8
          by_cases c52 : E47 = "java/lang/IndexOutOfBoundsException"
          · replace h := kOk_p c52 h
            subst c52
            refine k_catch G [] _ _ hT (fun z hz => nomatch hz) rfl (by decide) cl_L_30 ca_I (fun q53 => ?_)
            refine k_astore G (dc d_La_changes 43 rfl) (ls' := [(5, .ref q53), (0, .ref (B.1 + p0)), (1, .int p1), (2, .int p2), (3, .int p3), (4, .ref (B.1 + p4))]) rfl rfl ?_
            refine k_iconst G (dc d_La_changes 44 rfl) cI_1 ?_
            exact (kOk_s h) _ _ _ _ rfl rfl rfl (dc d_La_changes 45 rfl)
          · replace h := kOk_n c52 h
            by_cases c54 : E47 = "java/lang/IllegalArgumentException"
            · replace h := kOk_p c54 h
              subst c54
              refine k_catch G [_] _ _ hT (by
      intro z hz
      simp only [List.mem_cons, List.not_mem_nil, or_false] at hz
      subst hz
      exact Or.inr ⟨by decide, _, cl_L_30, by decide +kernel⟩) rfl (by decide) cl_L_32 ca_A (fun q55 => ?_)
              refine k_astore G (dc d_La_changes 46 rfl) (ls' := [(5, .ref q55), (0, .ref (B.1 + p0)), (1, .int p1), (2, .int p2), (3, .int p3), (4, .ref (B.1 + p4))]) rfl rfl ?_
              refine k_iconst G (dc d_La_changes 47 rfl) cI_2 ?_
              exact (kOk_s h) _ _ _ _ rfl rfl rfl (dc d_La_changes 48 rfl)
            · replace h := kOk_n c54 h
              by_cases c56 : E47 = "java/lang/IllegalStateException"
              · replace h := kOk_p c56 h
                subst c56
                refine k_catch G [_, _] _ _ hT (by
        intro z hz
        simp only [List.mem_cons, List.not_mem_nil, or_false] at hz
        rcases hz with rfl | rfl
        · exact Or.inr ⟨by decide, _, cl_L_30, by decide +kernel⟩
        · exact Or.inr ⟨by decide, _, cl_L_32, by decide +kernel⟩) rfl (by decide) cl_L_34 ca_S (fun q57 => ?_)
                refine k_astore G (dc d_La_changes 49 rfl) (ls' := [(5, .ref q57), (0, .ref (B.1 + p0)), (1, .int p1), (2, .int p2), (3, .int p3), (4, .ref (B.1 + p4))]) rfl rfl ?_
                refine k_iconst G (dc d_La_changes 50 rfl) cI_3 ?_
                exact (kOk_s h) _ _ _ _ rfl rfl rfl (dc d_La_changes 51 rfl)
              · replace h := kOk_n c56 h
                exact (kOk_none h).elim
    · replace h := kOk_p c2 h
      refine k_aload_n G (dc d_La_changes 12 rfl) 0 rfl rfl ?_
      refine k_iload_n G (dc d_La_changes 13 rfl) 2 rfl rfl ?_
      obtain ⟨⟨r59, M62⟩, e58, h⟩ := kOk_b h
      refine k_callVX G (dc d_La_changes 14 rfl) kc7 (okL_lt hp0 (o := 0) 0 rfl) (okL_k hp0 (o := 0) 0 rfl) mi_SR_revoke mv_SR_revoke rfl ml_RL_14 (c_SR_revoke (gst G) hx hp0 e58) rfl rfl ⟨rfl, rfl⟩ rfl ⟨rfl, rfl⟩ (fun v9 h9 => ?_) (fun E60 h9 => ?_)
      · obtain ⟨x61, rfl, rfl⟩ := rI_inr h9
        show KK X B L 6 1 6 M62 26 [(0, .ref (B.1 + p0)), (1, .int p1), (2, .int p2), (3, .int p3), (4, .ref (B.1 + p4))] [.int x61, .int 0, .ref (B.1 + p4)]
        refine k_goto G (dc d_La_changes 15 rfl) (tgt := 74) rfl ?_
        obtain ⟨M64, e63, h⟩ := kOk_b h
        refine k_ist G (dc d_La_changes 41 rfl) hp4.1 hp4.2.1 hp4.2.2 e63 ?_
        refine k_goto G (dc d_La_changes 42 rfl) (tgt := 90) rfl ?_
        refine k_iconst G (dc d_La_changes 52 rfl) cI_0 ?_
        exact (kOk_s h) _ _ _ _ rfl rfl rfl (dc d_La_changes 53 rfl)
      · have h8 := rI_inl h9
        subst h8
        by_cases c65 : E60 = "java/lang/IndexOutOfBoundsException"
        · replace h := kOk_p c65 h
          subst c65
          refine k_catch G [] _ _ hT (fun z hz => nomatch hz) rfl (by decide) cl_L_30 ca_I (fun q66 => ?_)
          refine k_astore G (dc d_La_changes 43 rfl) (ls' := [(5, .ref q66), (0, .ref (B.1 + p0)), (1, .int p1), (2, .int p2), (3, .int p3), (4, .ref (B.1 + p4))]) rfl rfl ?_
          refine k_iconst G (dc d_La_changes 44 rfl) cI_1 ?_
          exact (kOk_s h) _ _ _ _ rfl rfl rfl (dc d_La_changes 45 rfl)
        · replace h := kOk_n c65 h
          by_cases c67 : E60 = "java/lang/IllegalArgumentException"
          · replace h := kOk_p c67 h
            subst c67
            refine k_catch G [_] _ _ hT (by
      intro z hz
      simp only [List.mem_cons, List.not_mem_nil, or_false] at hz
      subst hz
      exact Or.inr ⟨by decide, _, cl_L_30, by decide +kernel⟩) rfl (by decide) cl_L_32 ca_A (fun q68 => ?_)
            refine k_astore G (dc d_La_changes 46 rfl) (ls' := [(5, .ref q68), (0, .ref (B.1 + p0)), (1, .int p1), (2, .int p2), (3, .int p3), (4, .ref (B.1 + p4))]) rfl rfl ?_
            refine k_iconst G (dc d_La_changes 47 rfl) cI_2 ?_
            exact (kOk_s h) _ _ _ _ rfl rfl rfl (dc d_La_changes 48 rfl)
          · replace h := kOk_n c67 h
            by_cases c69 : E60 = "java/lang/IllegalStateException"
            · replace h := kOk_p c69 h
              subst c69
              refine k_catch G [_, _] _ _ hT (by
        intro z hz
        simp only [List.mem_cons, List.not_mem_nil, or_false] at hz
        rcases hz with rfl | rfl
        · exact Or.inr ⟨by decide, _, cl_L_30, by decide +kernel⟩
        · exact Or.inr ⟨by decide, _, cl_L_32, by decide +kernel⟩) rfl (by decide) cl_L_34 ca_S (fun q70 => ?_)
              refine k_astore G (dc d_La_changes 49 rfl) (ls' := [(5, .ref q70), (0, .ref (B.1 + p0)), (1, .int p1), (2, .int p2), (3, .int p3), (4, .ref (B.1 + p4))]) rfl rfl ?_
              refine k_iconst G (dc d_La_changes 50 rfl) cI_3 ?_
              exact (kOk_s h) _ _ _ _ rfl rfl rfl (dc d_La_changes 51 rfl)
            · replace h := kOk_n c69 h
              exact (kOk_none h).elim
  · replace h := kOk_p c1 h
    refine k_aload_n G (dc d_La_changes 4 rfl) 0 rfl rfl ?_
    refine k_iload_n G (dc d_La_changes 5 rfl) 2 rfl rfl ?_
    refine k_iload_n G (dc d_La_changes 6 rfl) 3 rfl rfl ?_
    obtain ⟨⟨r72, M75⟩, e71, h⟩ := kOk_b h
    refine k_callVX G (dc d_La_changes 7 rfl) kc7 (okL_lt hp0 (o := 0) 0 rfl) (okL_k hp0 (o := 0) 0 rfl) mi_SR_sign mv_SR_sign rfl ml_RL_8 (c_SR_sign (gst G) hx hp0 e71) rfl rfl ⟨rfl, rfl⟩ rfl ⟨rfl, rfl⟩ (fun v9 h9 => ?_) (fun E73 h9 => ?_)
    · obtain ⟨x74, rfl, rfl⟩ := rI_inr h9
      show KK X B L 6 2 12 M75 13 [(0, .ref (B.1 + p0)), (1, .int p1), (2, .int p2), (3, .int p3), (4, .ref (B.1 + p4))] [.int x74, .int 0, .ref (B.1 + p4)]
      refine k_goto G (dc d_La_changes 8 rfl) (tgt := 74) rfl ?_
      obtain ⟨M77, e76, h⟩ := kOk_b h
      refine k_ist G (dc d_La_changes 41 rfl) hp4.1 hp4.2.1 hp4.2.2 e76 ?_
      refine k_goto G (dc d_La_changes 42 rfl) (tgt := 90) rfl ?_
      refine k_iconst G (dc d_La_changes 52 rfl) cI_0 ?_
      exact (kOk_s h) _ _ _ _ rfl rfl rfl (dc d_La_changes 53 rfl)
    · have h8 := rI_inl h9
      subst h8
      by_cases c78 : E73 = "java/lang/IndexOutOfBoundsException"
      · replace h := kOk_p c78 h
        subst c78
        refine k_catch G [] _ _ hT (fun z hz => nomatch hz) rfl (by decide) cl_L_30 ca_I (fun q79 => ?_)
        refine k_astore G (dc d_La_changes 43 rfl) (ls' := [(5, .ref q79), (0, .ref (B.1 + p0)), (1, .int p1), (2, .int p2), (3, .int p3), (4, .ref (B.1 + p4))]) rfl rfl ?_
        refine k_iconst G (dc d_La_changes 44 rfl) cI_1 ?_
        exact (kOk_s h) _ _ _ _ rfl rfl rfl (dc d_La_changes 45 rfl)
      · replace h := kOk_n c78 h
        by_cases c80 : E73 = "java/lang/IllegalArgumentException"
        · replace h := kOk_p c80 h
          subst c80
          refine k_catch G [_] _ _ hT (by
      intro z hz
      simp only [List.mem_cons, List.not_mem_nil, or_false] at hz
      subst hz
      exact Or.inr ⟨by decide, _, cl_L_30, by decide +kernel⟩) rfl (by decide) cl_L_32 ca_A (fun q81 => ?_)
          refine k_astore G (dc d_La_changes 46 rfl) (ls' := [(5, .ref q81), (0, .ref (B.1 + p0)), (1, .int p1), (2, .int p2), (3, .int p3), (4, .ref (B.1 + p4))]) rfl rfl ?_
          refine k_iconst G (dc d_La_changes 47 rfl) cI_2 ?_
          exact (kOk_s h) _ _ _ _ rfl rfl rfl (dc d_La_changes 48 rfl)
        · replace h := kOk_n c80 h
          by_cases c82 : E73 = "java/lang/IllegalStateException"
          · replace h := kOk_p c82 h
            subst c82
            refine k_catch G [_, _] _ _ hT (by
        intro z hz
        simp only [List.mem_cons, List.not_mem_nil, or_false] at hz
        rcases hz with rfl | rfl
        · exact Or.inr ⟨by decide, _, cl_L_30, by decide +kernel⟩
        · exact Or.inr ⟨by decide, _, cl_L_32, by decide +kernel⟩) rfl (by decide) cl_L_34 ca_S (fun q83 => ?_)
            refine k_astore G (dc d_La_changes 49 rfl) (ls' := [(5, .ref q83), (0, .ref (B.1 + p0)), (1, .int p1), (2, .int p2), (3, .int p3), (4, .ref (B.1 + p4))]) rfl rfl ?_
            refine k_iconst G (dc d_La_changes 50 rfl) cI_3 ?_
            exact (kOk_s h) _ _ _ _ rfl rfl rfl (dc d_La_changes 51 rfl)
          · replace h := kOk_n c82 h
            exact (kOk_none h).elim
theorem c_La_changes {l : Launch} {B : KB} {L : KLay} {M : KMem} {p0 : Nat} {p1 : Int32} {p2 : Int32} {p3 : Int32} {p4 : Nat} {p4n : Nat} (hst : l.stackTraces = false) (hx : B.2.2.2 = false) (hp0 : okL L p0 srT) (hp4 : arL L p4 9 p4n) {r : Int32} {M' : KMem} (e : m_La_changes p0 p1 p2 p3 p4 p4n M = some (r, M')) : CtrH l B yL_changes cL_changes 6 [(0, 75, 78, 30), (0, 75, 82, 32), (0, 75, 86, 34)] rm_La_changes [.ref (B.1 + p0), .int p1, .int p2, .int p3, .ref (B.1 + p4)] L M (some (.int r)) L M' :=
  mk_H rfl hst rfl (fun X hl G hT R => b_La_changes G hT hx hp0 hp4 ⟨_, e, R⟩)
def I_La_decrees : List (Nat × Instr × Nat) := [(0, .aload 5, 2), (2, .iconst 0, 1), (3, .aload_n 0, 1), (4, .iload_n 1, 1), (5, .iload_n 2, 1), (6, .iload_n 3, 1), (7, .iload 4, 2), (9, .invokevirtual 36, 3), (12, .iastore, 1), (13, .goto 11, 3), (16, .astore 6, 2), (18, .iconst 2, 1), (19, .ireturn, 1), (20, .astore 6, 2), (22, .iconst 3, 1), (23, .ireturn, 1), (24, .iconst 0, 1), (25, .ireturn, 1)]
set_option maxRecDepth 100000 in
theorem d_La_decrees : decA cL_decrees I_La_decrees = true := by decide +kernel
abbrev rm_La_decrees : Room := ({ frames := 8, cells := 2, slots := 12, locals := 148 } : Room)
def m_La_decrees (p0 : Nat) (p1 : Int32) (p2 : Int32) (p3 : Int32) (p4 : Int32) (p5 : Nat) (p5n : Nat) (M : KMem) : Option (Int32 × KMem) :=
 Option.bind (m_SR_decree p0 p1 p2 p3 p4 M) fun (r2, M5) => match r2 with
 | .inl E3 =>
 (if E3 = "java/lang/IllegalArgumentException" then
 (some (2, M5))
 else
 (if E3 = "java/lang/IllegalStateException" then
 (some (3, M5))
 else
 (none)))
 | .inr x4 =>
 (Option.bind (wrI M5 p5 p5n 0 x4) fun M7 =>
 some (0, M7))
set_option maxHeartbeats 4000000 in
set_option maxRecDepth 100000 in
theorem b_La_decrees {X : KX} {B : KB} {L : KLay} {M : KMem} {p0 : Nat} {p1 : Int32} {p2 : Int32} {p3 : Int32} {p4 : Int32} {p5 : Nat} {p5n : Nat} (G : Good X B RL cL_decrees 7 rm_La_decrees) (hT : (xC X).exceptionTable.toList = tableOf [(0, 13, 16, 32), (0, 13, 20, 34)]) (hx : B.2.2.2 = false) (hp0 : okL L p0 srT) (hp5 : arL L p5 9 p5n) (h : kOk (m_La_decrees p0 p1 p2 p3 p4 p5 p5n M) (fun r => RI X B L 7 cL_decrees .int rm_La_decrees r.1 r.2)) : KK X B L 7 0 0 M 0 [(0, .ref (B.1 + p0)), (1, .int p1), (2, .int p2), (3, .int p3), (4, .int p4), (5, .ref (B.1 + p5))] [] := by
  unfold m_La_decrees at h
  refine k_aload G (dc d_La_decrees 0 rfl) 5 rfl ?_
  refine k_iconst G (dc d_La_decrees 1 rfl) cI_0 ?_
  refine k_aload_n G (dc d_La_decrees 2 rfl) 0 rfl rfl ?_
  refine k_iload_n G (dc d_La_decrees 3 rfl) 1 rfl rfl ?_
  refine k_iload_n G (dc d_La_decrees 4 rfl) 2 rfl rfl ?_
  refine k_iload_n G (dc d_La_decrees 5 rfl) 3 rfl rfl ?_
  refine k_iload G (dc d_La_decrees 6 rfl) 4 rfl ?_
  obtain ⟨⟨r2, M5⟩, e1, h⟩ := kOk_b h
  refine k_callVX G (dc d_La_decrees 7 rfl) kc7 (okL_lt hp0 (o := 0) 0 rfl) (okL_k hp0 (o := 0) 0 rfl) mi_SR_decree mv_SR_decree rfl ml_RL_36 (c_SR_decree (gst G) hx hp0 e1) rfl rfl ⟨rfl, rfl⟩ rfl ⟨rfl, rfl⟩ (fun v9 h9 => ?_) (fun E3 h9 => ?_)
  · obtain ⟨x4, rfl, rfl⟩ := rI_inr h9
    show KK X B L 7 2 12 M5 12 [(0, .ref (B.1 + p0)), (1, .int p1), (2, .int p2), (3, .int p3), (4, .int p4), (5, .ref (B.1 + p5))] [.int x4, .int 0, .ref (B.1 + p5)]
    obtain ⟨M7, e6, h⟩ := kOk_b h
    refine k_ist G (dc d_La_decrees 8 rfl) hp5.1 hp5.2.1 hp5.2.2 e6 ?_
    refine k_goto G (dc d_La_decrees 9 rfl) (tgt := 24) rfl ?_
    refine k_iconst G (dc d_La_decrees 16 rfl) cI_0 ?_
    exact (kOk_s h) _ _ _ _ rfl rfl rfl (dc d_La_decrees 17 rfl)
  · have h8 := rI_inl h9
    subst h8
    by_cases c8 : E3 = "java/lang/IllegalArgumentException"
    · replace h := kOk_p c8 h
      subst c8
      refine k_catch G [] _ _ hT (fun z hz => nomatch hz) rfl (by decide) cl_L_32 ca_A (fun q9 => ?_)
      refine k_astore G (dc d_La_decrees 10 rfl) (ls' := [(6, .ref q9), (0, .ref (B.1 + p0)), (1, .int p1), (2, .int p2), (3, .int p3), (4, .int p4), (5, .ref (B.1 + p5))]) rfl rfl ?_
      refine k_iconst G (dc d_La_decrees 11 rfl) cI_2 ?_
      exact (kOk_s h) _ _ _ _ rfl rfl rfl (dc d_La_decrees 12 rfl)
    · replace h := kOk_n c8 h
      by_cases c10 : E3 = "java/lang/IllegalStateException"
      · replace h := kOk_p c10 h
        subst c10
        refine k_catch G [_] _ _ hT (by
      intro z hz
      simp only [List.mem_cons, List.not_mem_nil, or_false] at hz
      subst hz
      exact Or.inr ⟨by decide, _, cl_L_32, by decide +kernel⟩) rfl (by decide) cl_L_34 ca_S (fun q11 => ?_)
        refine k_astore G (dc d_La_decrees 13 rfl) (ls' := [(6, .ref q11), (0, .ref (B.1 + p0)), (1, .int p1), (2, .int p2), (3, .int p3), (4, .int p4), (5, .ref (B.1 + p5))]) rfl rfl ?_
        refine k_iconst G (dc d_La_decrees 14 rfl) cI_3 ?_
        exact (kOk_s h) _ _ _ _ rfl rfl rfl (dc d_La_decrees 15 rfl)
      · replace h := kOk_n c10 h
        exact (kOk_none h).elim
theorem c_La_decrees {l : Launch} {B : KB} {L : KLay} {M : KMem} {p0 : Nat} {p1 : Int32} {p2 : Int32} {p3 : Int32} {p4 : Int32} {p5 : Nat} {p5n : Nat} (hst : l.stackTraces = false) (hx : B.2.2.2 = false) (hp0 : okL L p0 srT) (hp5 : arL L p5 9 p5n) {r : Int32} {M' : KMem} (e : m_La_decrees p0 p1 p2 p3 p4 p5 p5n M = some (r, M')) : CtrH l B yL_decrees cL_decrees 7 [(0, 13, 16, 32), (0, 13, 20, 34)] rm_La_decrees [.ref (B.1 + p0), .int p1, .int p2, .int p3, .int p4, .ref (B.1 + p5)] L M (some (.int r)) L M' :=
  mk_H rfl hst rfl (fun X hl G hT R => b_La_decrees G hT hx hp0 hp5 ⟨_, e, R⟩)
def I_La_undoes : List (Nat × Instr × Nat) := [(0, .aload_n 1, 1), (1, .iconst 0, 1), (2, .aload_n 0, 1), (3, .invokevirtual 40, 3), (6, .iastore, 1), (7, .goto 6, 3), (10, .astore_n 2, 1), (11, .iconst 1, 1), (12, .ireturn, 1), (13, .iconst 0, 1), (14, .ireturn, 1)]
set_option maxRecDepth 100000 in
theorem d_La_undoes : decA cL_undoes I_La_undoes = true := by decide +kernel
abbrev rm_La_undoes : Room := ({ frames := 7, cells := 1, slots := 6, locals := 144 } : Room)
def m_La_undoes (p0 : Nat) (p1 : Nat) (p1n : Nat) (M : KMem) : Option (Int32 × KMem) :=
 Option.bind (m_SR_undo p0 M) fun (r2, M5) => match r2 with
 | .inl E3 =>
 (if E3 = "java/lang/IllegalStateException" then
 (some (1, M5))
 else
 (none))
 | .inr x4 =>
 (Option.bind (wrI M5 p1 p1n 0 x4) fun M7 =>
 some (0, M7))
set_option maxHeartbeats 4000000 in
set_option maxRecDepth 100000 in
theorem b_La_undoes {X : KX} {B : KB} {L : KLay} {M : KMem} {p0 : Nat} {p1 : Nat} {p1n : Nat} (G : Good X B RL cL_undoes 3 rm_La_undoes) (hT : (xC X).exceptionTable.toList = tableOf [(0, 7, 10, 34)]) (hx : B.2.2.2 = false) (hp0 : okL L p0 srT) (hp1 : arL L p1 9 p1n) (h : kOk (m_La_undoes p0 p1 p1n M) (fun r => RI X B L 3 cL_undoes .int rm_La_undoes r.1 r.2)) : KK X B L 3 0 0 M 0 [(0, .ref (B.1 + p0)), (1, .ref (B.1 + p1))] [] := by
  unfold m_La_undoes at h
  refine k_aload_n G (dc d_La_undoes 0 rfl) 1 rfl rfl ?_
  refine k_iconst G (dc d_La_undoes 1 rfl) cI_0 ?_
  refine k_aload_n G (dc d_La_undoes 2 rfl) 0 rfl rfl ?_
  obtain ⟨⟨r2, M5⟩, e1, h⟩ := kOk_b h
  refine k_callVX G (dc d_La_undoes 3 rfl) kc7 (okL_lt hp0 (o := 0) 0 rfl) (okL_k hp0 (o := 0) 0 rfl) mi_SR_undo mv_SR_undo rfl ml_RL_40 (c_SR_undo (gst G) hx hp0 e1) rfl rfl ⟨rfl, rfl⟩ rfl ⟨rfl, rfl⟩ (fun v9 h9 => ?_) (fun E3 h9 => ?_)
  · obtain ⟨x4, rfl, rfl⟩ := rI_inr h9
    show KK X B L 3 1 6 M5 6 [(0, .ref (B.1 + p0)), (1, .ref (B.1 + p1))] [.int x4, .int 0, .ref (B.1 + p1)]
    obtain ⟨M7, e6, h⟩ := kOk_b h
    refine k_ist G (dc d_La_undoes 4 rfl) hp1.1 hp1.2.1 hp1.2.2 e6 ?_
    refine k_goto G (dc d_La_undoes 5 rfl) (tgt := 13) rfl ?_
    refine k_iconst G (dc d_La_undoes 9 rfl) cI_0 ?_
    exact (kOk_s h) _ _ _ _ rfl rfl rfl (dc d_La_undoes 10 rfl)
  · have h8 := rI_inl h9
    subst h8
    by_cases c8 : E3 = "java/lang/IllegalStateException"
    · replace h := kOk_p c8 h
      subst c8
      refine k_catch G [] _ _ hT (fun z hz => nomatch hz) rfl (by decide) cl_L_34 ca_S (fun q9 => ?_)
      refine k_astore_n G (dc d_La_undoes 6 rfl) (ls' := [(2, .ref q9), (0, .ref (B.1 + p0)), (1, .ref (B.1 + p1))]) rfl rfl rfl ?_
      refine k_iconst G (dc d_La_undoes 7 rfl) cI_1 ?_
      exact (kOk_s h) _ _ _ _ rfl rfl rfl (dc d_La_undoes 8 rfl)
    · replace h := kOk_n c8 h
      exact (kOk_none h).elim
theorem c_La_undoes {l : Launch} {B : KB} {L : KLay} {M : KMem} {p0 : Nat} {p1 : Nat} {p1n : Nat} (hst : l.stackTraces = false) (hx : B.2.2.2 = false) (hp0 : okL L p0 srT) (hp1 : arL L p1 9 p1n) {r : Int32} {M' : KMem} (e : m_La_undoes p0 p1 p1n M = some (r, M')) : CtrH l B yL_undoes cL_undoes 3 [(0, 7, 10, 34)] rm_La_undoes [.ref (B.1 + p0), .ref (B.1 + p1)] L M (some (.int r)) L M' :=
  mk_H rfl hst rfl (fun X hl G hT R => b_La_undoes G hT hx hp0 hp1 ⟨_, e, R⟩)
