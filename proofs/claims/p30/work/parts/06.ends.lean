/-! ENDS: answers, throws; natives; contracts out of bodies -/
section ERows
variable {X : KX} {B : KB} {L : KLay} {own : String} {cc : ByteArray} {nL : Nat} {rm : Room} {cn sn : Nat} {M : KMem} {pc : Nat} {ls : List (Nat × Value)} {st rest : List Value} {H : Heap} {locs : List Loc}
/-- Math.min, System.arraycopy -/
def jmin (x y : Int32) : Int32 := if y < x then y else x
theorem k_min (G : Good X B own cc nL rm) {idx : Nat} (d : decode cc pc = .ok (.invokestatic idx, 3)) (hl : Cond.methodLink own idx Lib.Math.min.name ∈ GT) (hm : Cond.static Lib.Math.min.name ∈ GT ∧ Cond.initialized "java/lang/Math" ∈ GT ∧ Cond.code Lib.Math.min.name Lib.Math.min.code 2 (some .int) ∈ GT) (hR : Nat.ble 1 rm.frames = true ∧ Nat.ble ((st.map fun v => v.category).sum + 13) rm.locals = true ∧ Nat.ble cn rm.cells = true ∧ Nat.ble sn rm.slots = true) {x y : Int32}
    (kk : KK X B L nL cn sn M (pc + 3) ls (.int (jmin x y) :: st)) : KK X B L nL cn sn M pc ls (.int y :: .int x :: st) := by
  intro H locs la hW hS hla
  have hrm : xR X = rm := G.2.2.2.2.2.2.2.2.2.2
  have hts := G.2.2.2.2.1
  exact va_mmin G.1 G.2.1 (by rw [G.2.2.1, hla.1]) G.2.2.2.1 (hts _ hl) (hts _ hm.1) (hts _ hm.2.1) (hts _ hm.2.2) (by rw [hrm]; exact Nat.le_of_ble_eq_true hR.1) (by rw [hrm]; exact Nat.le_of_ble_eq_true hR.2.1) (by rw [hrm]; exact Nat.le_of_ble_eq_true hR.2.2.1) (by rw [hrm]; exact Nat.le_of_ble_eq_true hR.2.2.2) d (kk H locs la hW hS hla)
def jmax (x y : Int32) : Int32 := if x < y then y else x
theorem k_max (G : Good X B own cc nL rm) {idx : Nat} (d : decode cc pc = .ok (.invokestatic idx, 3)) (hl : Cond.methodLink own idx Lib.Math.max.name ∈ GT) (hm : Cond.static Lib.Math.max.name ∈ GT ∧ Cond.initialized "java/lang/Math" ∈ GT ∧ Cond.code Lib.Math.max.name Lib.Math.max.code 2 (some .int) ∈ GT) (hR : Nat.ble 1 rm.frames = true ∧ Nat.ble ((st.map fun v => v.category).sum + 13) rm.locals = true ∧ Nat.ble cn rm.cells = true ∧ Nat.ble sn rm.slots = true) {x y : Int32}
    (kk : KK X B L nL cn sn M (pc + 3) ls (.int (jmax x y) :: st)) : KK X B L nL cn sn M pc ls (.int y :: .int x :: st) := by
  intro H locs la hW hS hla
  have hrm : xR X = rm := G.2.2.2.2.2.2.2.2.2.2
  have hts := G.2.2.2.2.1
  exact va_mmax G.1 G.2.1 (by rw [G.2.2.1, hla.1]) G.2.2.2.1 (hts _ hl) (hts _ hm.1) (hts _ hm.2.1) (hts _ hm.2.2) (by rw [hrm]; exact Nat.le_of_ble_eq_true hR.1) (by rw [hrm]; exact Nat.le_of_ble_eq_true hR.2.1) (by rw [hrm]; exact Nat.le_of_ble_eq_true hR.2.2.1) (by rw [hrm]; exact Nat.le_of_ble_eq_true hR.2.2.2) d (kk H locs la hW hS hla)
def cpM (M : KMem) (o0 o1 sp dp n : Nat) : KMem := fun o => if o = o1 then va_cpy (M o0) (M o1) sp dp n else M o
def cpI (M : KMem) (o0 n0 o1 n1 : Nat) (sp dp n : Int32) : Option KMem :=
  if sp < 0 ∨ dp < 0 ∨ n < 0 ∨ n0 < sp.toNatClampNeg + n.toNatClampNeg ∨ n1 < dp.toNatClampNeg + n.toNatClampNeg then none else some (cpM M o0 o1 sp.toNatClampNeg dp.toNatClampNeg n.toNatClampNeg)
theorem k_copy (G : Good X B own cc nL rm) (hx : B.2.2.2 = false) {idx : Nat} (d : decode cc pc = .ok (.invokestatic idx, 3)) (hl : Cond.methodLink own idx arraycopyName ∈ GT) (hm : Cond.native arraycopyName ∈ GT ∧ Cond.static arraycopyName ∈ GT ∧ Cond.initialized "java/lang/System" ∈ GT) (hR : Nat.ble 1 rm.frames = true ∧ Nat.ble ((st.map fun v => v.category).sum + (nativeFrameWords "java/lang/System" "arraycopy" 5 + 11)) rm.locals = true)
    {k0 k1 n0 n1 : Nat} (hk0 : k0 < L.1) (hc0 : L.2.1 k0 = 9) (hn0 : L.2.2.1 k0 = n0) (hk1 : k1 < L.1) (hc1 : L.2.1 k1 = 9) (hn1 : L.2.2.1 k1 = n1) {sp dp n : Int32} {M' : KMem} (e : cpI M k0 n0 k1 n1 sp dp n = some M')
    (kk : KK X B L nL cn sn M' (pc + 3) ls st) : KK X B L nL cn sn M pc ls (.int n :: .int dp :: .ref (B.1 + k1) :: .int sp :: .ref (B.1 + k0) :: st) := by
  intro H locs la hW hS hla
  have hrm : xR X = rm := G.2.2.2.2.2.2.2.2.2.2
  have hts := G.2.2.2.2.1
  subst hn0; subst hn1
  unfold cpI at e
  split at e
  · cases e
  · rename_i hc
    cases e
    have g1 : ¬ sp < 0 := fun h => hc (Or.inl h)
    have g2 : ¬ dp < 0 := fun h => hc (Or.inr (Or.inl h))
    have g3 : ¬ n < 0 := fun h => hc (Or.inr (Or.inr (Or.inl h)))
    have g4 : ¬ L.2.2.1 k0 < sp.toNatClampNeg + n.toNatClampNeg := fun h => hc (Or.inr (Or.inr (Or.inr (Or.inl h))))
    have g5 : ¬ L.2.2.1 k1 < dp.toNatClampNeg + n.toNatClampNeg := fun h => hc (Or.inr (Or.inr (Or.inr (Or.inr h))))
    refine va_copyi G.1 G.2.1 (by rw [G.2.2.1, hla.1]) G.2.2.2.1 (hts _ hl) (hts _ hm.1) (hts _ hm.2.1) (hts _ hm.2.2) G.2.2.2.2.2.1 hW.1 (kW_D B L M) hS k0 k1 0 0 (by rw [kW_get hk0, kE_9 hc0]) (by rw [kW_get hk1, kE_9 hc1]) rfl rfl rfl g1 g2 g3 (Nat.not_lt.mp g4) (Nat.not_lt.mp g5) (fun _ _ => rfl) (by rw [hrm]; exact Nat.le_of_ble_eq_true hR.1) (by rw [hrm]; exact Nat.le_of_ble_eq_true hR.2) d fun H1 locs1 hP hD hS1 => ?_
    refine kk H1 locs1 la ⟨?_, (fun e => by rw [hx] at e; cases e), Nat.le_trans G.2.2.2.2.2.2.2.1 hS1.1⟩ hS1 hla
    rw [kW_set (L' := L) (M' := cpM M k0 k1 sp.toNatClampNeg dp.toNatClampNeg n.toNatClampNeg) hk1 rfl (by rw [kE_9 hc1]; simp [cpM]) (fun j hj => kE_n (by simp [cpM, hj]))] at hP
    exact hP
/-- answers -/
def RI (X : KX) (B : KB) (L : KLay) (nL : Nat) (cc : ByteArray) (fty : FieldType) (rm : Room) (v : Int32) (M : KMem) : Prop := ∀ (cn sn pc : Nat) (ls : List (Nat × Value)), Nat.ble cn rm.cells = true → Nat.ble sn rm.slots = true → narrow fty (.int v) = .int v → decode cc pc = .ok (.ireturn, 1) → KK X B L nL cn sn M pc ls [.int v]
def RV (X : KX) (B : KB) (L : KLay) (nL : Nat) (cc : ByteArray) (rm : Room) (M : KMem) : Prop := ∀ (cn sn pc : Nat) (ls : List (Nat × Value)), Nat.ble cn rm.cells = true → Nat.ble sn rm.slots = true → decode cc pc = .ok (.return_, 1) → KK X B L nL cn sn M pc ls []
/-- an exception that a callee threw goes on -/
def RP (X : KX) (B : KB) (L : KLay) (nL : Nat) (rm : Room) (E : String) (M : KMem) : Prop := ∀ (cn sn pc : Nat) (ls : List (Nat × Value)) (st : List Value), Nat.ble cn rm.cells = true → Nat.ble sn rm.slots = true → KT X B L nL cn sn M pc ls st E
/-- the words of 'throw new E("text")' -/
def tsW (own : String) (ik ic : Nat) (cls : String) (names : List String) : Bool :=
  decide (Cond.classLink own ik cls ∈ lw_tbl) && goodWord (Cond.classLink own ik cls) && (decide (Cond.initialized cls ∈ lw_tbl) && ((vx_atS own ic cls names).all (fun w => decide (w ∈ lw_tbl) && (goodWord w || nwWord w) && vx_ot w) && (Bundle.fit cls && names.all Bundle.fit)))
/-- 'throw new E("text")' -/
def RT (X : KX) (B : KB) (L : KLay) (nL : Nat) (own : String) (cc : ByteArray) (rm : Room) (E : String) (M : KMem) : Prop := ∀ (cn sn pc : Nat) (ls : List (Nat × Value)) (st : List Value) (ik is ic : Nat) (text : String) (names : List String), tsW own ik ic E names = true → Cond.stringRef own is text ∈ lw_tbl →
  decode cc pc = .ok (.new ik, 3) → decode cc (pc + 3) = .ok (.dup, 1) → decode cc (pc + 4) = .ok (.ldc is, 2) → decode cc (pc + 6) = .ok (.invokespecial ic, 3) → decode cc (pc + 9) = .ok (.athrow, 1) → Nat.ble (cn + 1) rm.cells = true → Nat.ble (sn + 6) rm.slots = true → Nat.ble (names.length + 4) rm.frames = true → Nat.ble ((st.map fun v => v.category).sum + (13 * (names.length + 1) + 43)) rm.locals = true → KK X B L nL cn sn M pc ls st
/-- the same, by ldc_w -/
def RTW (X : KX) (B : KB) (L : KLay) (nL : Nat) (own : String) (cc : ByteArray) (rm : Room) (E : String) (M : KMem) : Prop := ∀ (cn sn pc : Nat) (ls : List (Nat × Value)) (st : List Value) (ik is ic : Nat) (text : String) (names : List String), tsW own ik ic E names = true → Cond.stringRef own is text ∈ lw_tbl →
  decode cc pc = .ok (.new ik, 3) → decode cc (pc + 3) = .ok (.dup, 1) → decode cc (pc + 4) = .ok (.ldc_w is, 3) → decode cc (pc + 7) = .ok (.invokespecial ic, 3) → decode cc (pc + 10) = .ok (.athrow, 1) → Nat.ble (cn + 1) rm.cells = true → Nat.ble (sn + 6) rm.slots = true → Nat.ble (names.length + 4) rm.frames = true → Nat.ble ((st.map fun v => v.category).sum + (13 * (names.length + 1) + 43)) rm.locals = true → KK X B L nL cn sn M pc ls st
end ERows
section Mk
variable {l : Launch} {B : KB} {y : MethodName} {bytes : ByteArray} {maxL : Nat} {rm : Room} {As : List Value} {L L' : KLay} {M M' : KMem}
theorem mk_I {fty : FieldType} {v : Int32} (hy : plainName y.cls = true) (hst : l.stackTraces = false) (hlen : Nat.ble (lg_sl As).length maxL = true)
    (body : ∀ X : KX, xL X = l → Good X B y.cls bytes maxL rm → (xH X).name = y.name → RI X B L' maxL bytes fty rm v M' → KK X B L maxL 0 0 M 0 (lv_args 0 As) []) : CtrN l B y bytes maxL (some fty) rm As L M (some (.int v)) L' M' := by
  refine Met.ofW hy rfl ?_
  intro p e s m args below meth c s₁ Bd hml hv
  obtain ⟨rfl, hW0, hK, hS0⟩ := hv
  have hts := atoms_spec (ws := Cond.code y bytes maxL (some fty) :: GT) Bd.pre
  have G : Good (p, l, e, rm, s, m, As.toArray, below, meth, c, MQ below (KQc B L' M' (some (.int v))) As.toArray s rm.cells rm.slots (kA B)) B y.cls bytes maxL rm :=
    ⟨Bd.exec, Bd.bytes, hml, findClass_of_methodNamed Bd.named, fun w hw => hts w (List.mem_cons_of_mem _ hw), hK, hS0, hW0.2.2, Bd.notSynchronized, hst, rfl⟩
  have hb := body _ rfl G (name_of_methodNamed Bd.named Bd.method).1 ?_
  · rw [lg_entry_eq]
    exact hb s.heap [] _ hW0 va_S.rf (lv_entry As (Nat.le_of_ble_eq_true hlen))
  · intro cn sn pc ls h1 h2 hn d H locs la hW hS hla
    refine W.widen (k := rm.cells) (n := rm.slots) (Nat.le_of_ble_eq_true h1) (Nat.le_of_ble_eq_true h2) ?_
    exact W.zret (ty := fty) Bd.exec Bd.bytes Bd.returns hn (fun t ht hWm => ⟨rfl, by rw [ht]; exact hW, hS.F ht⟩) hS.2.2 d Bd.notSynchronized
theorem mk_V (hy : plainName y.cls = true) (hst : l.stackTraces = false) (hlen : Nat.ble (lg_sl As).length maxL = true)
    (body : ∀ X : KX, xL X = l → Good X B y.cls bytes maxL rm → (xH X).name = y.name → RV X B L' maxL bytes rm M' → KK X B L maxL 0 0 M 0 (lv_args 0 As) []) : CtrN l B y bytes maxL none rm As L M none L' M' := by
  refine Met.ofW hy rfl ?_
  intro p e s m args below meth c s₁ Bd hml hv
  obtain ⟨rfl, hW0, hK, hS0⟩ := hv
  have hts := atoms_spec (ws := Cond.code y bytes maxL none :: GT) Bd.pre
  have G : Good (p, l, e, rm, s, m, As.toArray, below, meth, c, MQ below (KQc B L' M' none) As.toArray s rm.cells rm.slots (kA B)) B y.cls bytes maxL rm :=
    ⟨Bd.exec, Bd.bytes, hml, findClass_of_methodNamed Bd.named, fun w hw => hts w (List.mem_cons_of_mem _ hw), hK, hS0, hW0.2.2, Bd.notSynchronized, hst, rfl⟩
  have hb := body _ rfl G (name_of_methodNamed Bd.named Bd.method).1 ?_
  · rw [lg_entry_eq]
    exact hb s.heap [] _ hW0 va_S.rf (lv_entry As (Nat.le_of_ble_eq_true hlen))
  · intro cn sn pc ls h1 h2 d H locs la hW hS hla
    refine W.widen (k := rm.cells) (n := rm.slots) (Nat.le_of_ble_eq_true h1) (Nat.le_of_ble_eq_true h2) ?_
    exact W.vret Bd.exec Bd.bytes Bd.returns (fun t ht hWm => ⟨rfl, by rw [ht]; exact hW, hS.F ht⟩) hS.2.2 d Bd.notSynchronized
theorem KW_grow {H H1 : Heap} (hx : B.2.2.2 = false) (h : KW B L M H) (hz : H.size ≤ H1.size) (hq : ∀ q : Nat, q < H.size → H1[q]? = H[q]?) : KW B L M H1 :=
  ⟨h.1.kept (fun k x hx => hq x.1 ((h.1 k x hx).lt)), (fun e => by rw [hx] at e; cases e), Nat.le_trans h.2.2 hz⟩
/-- a method that returns or throws -/
theorem mk_X {ret : Option FieldType} {r : String ⊕ Option Value} (hx : B.2.2.2 = false) (hy : plainName y.cls = true) (hst : l.stackTraces = false) (hlen : Nat.ble (lg_sl As).length maxL = true)
    (body : ∀ X : KX, xL X = l → Good X B y.cls bytes maxL rm → (∀ (v : Int32) (t : FieldType), r = .inr (some (.int v)) → ret = some t → RI X B L maxL bytes t rm v M') → (r = .inr none → ret = none → RV X B L maxL bytes rm M') → (∀ E, r = .inl E → RP X B L maxL rm E M') → (∀ E, r = .inl E → RT X B L maxL y.cls bytes rm E M') → (∀ E, r = .inl E → RTW X B L maxL y.cls bytes rm E M') → KK X B L maxL 0 0 M 0 (lv_args 0 As) []) : CtrX l B y bytes maxL ret rm As L M r M' := by
  refine vx_ofW hy rfl ?_
  intro p e s m args below meth c s₁ Bd hml htb hv
  obtain ⟨rfl, hW0, hK, hS0⟩ := hv
  have hts := atoms_spec (ws := Cond.code y bytes maxL ret :: GT) Bd.pre
  have G : Good (p, l, e, rm, s, m, As.toArray, below, meth, c, vx_MQ below (KQx B L M' r) (KXx B L M' r) As.toArray s rm.cells rm.slots (kA B)) B y.cls bytes maxL rm :=
    ⟨Bd.exec, Bd.bytes, hml, findClass_of_methodNamed Bd.named, fun w hw => hts w (List.mem_cons_of_mem _ hw), hK, hS0, hW0.2.2, Bd.notSynchronized, hst, rfl⟩
  have hb := body _ rfl G ?_ ?_ ?_ ?_ ?_
  · rw [lg_entry_eq]
    exact hb s.heap [] _ hW0 va_S.rf (lv_entry As (Nat.le_of_ble_eq_true hlen))
  · intro v t hr hret cn sn pc ls h1 h2 hn d H locs la hW hS hla
    refine W.widen (k := rm.cells) (n := rm.slots) (Nat.le_of_ble_eq_true h1) (Nat.le_of_ble_eq_true h2) ?_
    exact vx_ret (W.zret (ty := t) Bd.exec Bd.bytes (Bd.returns.trans hret) hn (fun t ht hWm => ⟨_, hr, rfl, by rw [ht]; exact hW, hS.F ht⟩) hS.2.2 d Bd.notSynchronized)
  · intro hr hret cn sn pc ls h1 h2 d H locs la hW hS hla
    refine W.widen (k := rm.cells) (n := rm.slots) (Nat.le_of_ble_eq_true h1) (Nat.le_of_ble_eq_true h2) ?_
    exact vx_ret (W.vret Bd.exec Bd.bytes (Bd.returns.trans hret) (fun t ht hWm => ⟨_, hr, rfl, by rw [ht]; exact hW, hS.F ht⟩) hS.2.2 d Bd.notSynchronized)
  · intro E hr cn sn pc ls st h1 h2 H locs la q ce hW hS hla hce hcv hcl
    exact vx_out (fun x hx => (htb x hx).elim) Bd.notSynchronized hce hcv hcl (fun t ht ha => ⟨hr, by rw [ht]; exact hW, hS.F ht⟩) hS.2.2 (Nat.le_of_ble_eq_true h1) (Nat.le_of_ble_eq_true h2)
  · intro E hr cn sn pc ls st ik is ic text names hw w3 d0 d3 d4 d6 d9 h1 h2 h3 h4 H locs la hW hS hla
    simp only [tsW, Bool.and_eq_true, decide_eq_true_eq, List.all_eq_true] at hw
    obtain ⟨⟨w1, w1g⟩, w2, w4, w5, w6⟩ := hw
    obtain ⟨sa, hsa⟩ := hS0.1.2.2.1 _ _ _ w3
    have hg := G.2.2.2.2.1
    have hat : ∀ w ∈ vx_atS y.cls ic E names, w.before As.toArray s = true := fun w hm => by
      obtain ⟨⟨g1, g2⟩, -⟩ := w4 w hm
      rcases Bool.or_eq_true _ _ ▸ g2 with g | g
      · exact hg w (List.mem_filter.mpr ⟨g1, g⟩)
      · exact va_Nw.use (nw_tabs g) (hS0.1.1 w g1 g)
    refine vx_throwS Bd.exec Bd.bytes hst (findClass_of_methodNamed Bd.named) w5 (fun n hn => w6 n hn) (hg _ (List.mem_filter.mpr ⟨w1, w1g⟩)) (hg _ (List.mem_filter.mpr ⟨w2, rfl⟩)) hsa hat ?_ hS0.2.1 hS0.2.2 hS (by rw [hml, hla.1]) d0 d3 d4 d6 d9 (fun x hx => (htb x hx).elim) (by have := Nat.le_of_ble_eq_true h3; show _ < rm.frames; omega) (Nat.le_of_ble_eq_true h4) (Nat.le_of_ble_eq_true h1) (Nat.le_of_ble_eq_true h2) Bd.notSynchronized (fun t ha hz hq => ⟨hr, KW_grow hx hW hz hq, ?_⟩) hS.2.2 (Nat.le_of_ble_eq_true h1) (Nat.le_of_ble_eq_true h2)
    · intro w hm
      rcases List.mem_cons.mp hm with rfl | hm
      · rfl
      · rcases List.mem_cons.mp hm with rfl | hm
        · rfl
        · exact (w4 w hm).2
    · exact ⟨Nat.le_trans hS.1 hz, fun q hq1 hq2 => (hq q (Nat.lt_of_lt_of_le hq1 hS.1)).trans (hS.2.1 q hq1 hq2)⟩
  · intro E hr cn sn pc ls st ik is ic text names hw w3 d0 d3 d4 d7 d10 h1 h2 h3 h4 H locs la hW hS hla
    simp only [tsW, Bool.and_eq_true, decide_eq_true_eq, List.all_eq_true] at hw
    obtain ⟨⟨w1, w1g⟩, w2, w4, w5, w6⟩ := hw
    obtain ⟨sa, hsa⟩ := hS0.1.2.2.1 _ _ _ w3
    have hg := G.2.2.2.2.1
    have hat : ∀ w ∈ vx_atS y.cls ic E names, w.before As.toArray s = true := fun w hm => by
      obtain ⟨⟨g1, g2⟩, -⟩ := w4 w hm
      rcases Bool.or_eq_true _ _ ▸ g2 with g | g
      · exact hg w (List.mem_filter.mpr ⟨g1, g⟩)
      · exact va_Nw.use (nw_tabs g) (hS0.1.1 w g1 g)
    refine vx_throwSW Bd.exec Bd.bytes hst (findClass_of_methodNamed Bd.named) w5 (fun n hn => w6 n hn) (hg _ (List.mem_filter.mpr ⟨w1, w1g⟩)) (hg _ (List.mem_filter.mpr ⟨w2, rfl⟩)) hsa hat ?_ hS0.2.1 hS0.2.2 hS (by rw [hml, hla.1]) d0 d3 d4 d7 d10 (fun x hx => (htb x hx).elim) (by have := Nat.le_of_ble_eq_true h3; show _ < rm.frames; omega) (Nat.le_of_ble_eq_true h4) (Nat.le_of_ble_eq_true h1) (Nat.le_of_ble_eq_true h2) Bd.notSynchronized (fun t ha hz hq => ⟨hr, KW_grow hx hW hz hq, ?_⟩) hS.2.2 (Nat.le_of_ble_eq_true h1) (Nat.le_of_ble_eq_true h2)
    · intro w hm
      rcases List.mem_cons.mp hm with rfl | hm
      · rfl
      · rcases List.mem_cons.mp hm with rfl | hm
        · rfl
        · exact (w4 w hm).2
    · exact ⟨Nat.le_trans hS.1 hz, fun q hq1 hq2 => (hq q (Nat.lt_of_lt_of_le hq1 hS.1)).trans (hS.2.1 q hq1 hq2)⟩
end Mk
section XRows
variable {X : KX} {B : KB} {L : KLay} {own : String} {cc : ByteArray} {nL : Nat} {rm : Room} {cn sn : Nat} {M : KMem} {pc : Nat} {ls : List (Nat × Value)} {st rest : List Value} {H : Heap} {locs : List Loc}
/-- behind a call that may throw -/
theorem k_runX {M' : KMem} {r : String ⊕ Option Value} {mc ms : Nat} {a : Array Value} {la : Array Slot} {st0 : List Value} (hS : va_S (kA B) (xS X).heap H locs) (hl : lv_has la nL ls)
    (hr : vx_Run (xP X) (xL X) (xE X) (xR X) (xS X) (xM X) (xA X) (xW X) (xH X) (xC X) H locs cn sn mc ms (F0 (xM X) pc la st0) rest (KQx B L M' r a) (KXx B L M' r) (kA B))
    (kk : ∀ v, r = .inr v → KK X B L nL (cn + mc) (sn + ms) M' (pc + 3) ls (v.toList ++ rest)) (kx : ∀ E, r = .inl E → KT X B L nL (cn + mc) (sn + ms) M' pc ls rest E) : W (xP X) (xL X) (xE X) (xR X) (xS X) (xM X) (xA X) (xW X) (xH X) (xC X) H locs cn sn (xQ X) (F0 (xM X) pc la st0) := by
  intro T hT Y
  have key : ∀ {t T' : State} {st₀ : State} {L9 : List Loc}, st₀.heap = H → T'.heap = t.heap → (∀ q ∈ L9, kA B q.base) → va_F (kA B) st₀ t → va_S (kA B) (xS X).heap T'.heap (locs ++ L9) := by
    intro t T' st₀ L9 h0 e1 hL ⟨hz, hq⟩
    rw [h0] at hz hq
    exact ⟨Nat.le_trans hS.1 (by rw [e1]; exact hz), fun q h1 h2 => by rw [e1, hq q (Nat.lt_of_lt_of_le h1 hS.1) h2]; exact hS.2.1 q h1 h2, fun q hq => by
      rcases List.mem_append.mp hq with h | h
      · exact hS.2.2 q h
      · exact hL q h⟩
  rcases hr T hT Y with ⟨v, st₀, t, T', L9, h0, Y', hL, e1, e2, ⟨v', hv', hv, hQ, hF⟩, hgo⟩ | ⟨q, st₀, t, T', L9, E, ce, h0, Y', hL, e1, e2, ⟨hE, hQ, hF⟩, hce, hcv, hcl, hgo⟩
  · cases hv
    obtain ⟨t2, a1, b1⟩ := kk v hv' T'.heap (locs ++ L9) la (by rw [e1]; exact hQ) (key h0 e1 hL hF) hl T' rfl Y'
    exact ⟨t2, hgo t2 a1, b1⟩
  · obtain ⟨t2, a1, b1⟩ := kx E hE T'.heap (locs ++ L9) la q ce (by rw [e1]; exact hQ) (key h0 e1 hL hF) hl (by rw [e1]; exact hce) hcv hcl T' rfl Y'
    exact ⟨t2, hgo.trans a1, b1⟩
theorem k_callVX (G : Good X B own cc nL rm) {idx : Nat} (d : decode cc pc = .ok (.invokevirtual idx, 3)) {ci : Nat} {C : String} {T : u_T} {N : Nat} {ty : Nat → FieldType} (K : KC ci C T N ty) {k : Nat} (hk : k < L.1) (hc : L.2.1 k = ci) {y : MethodName} {bytes : ByteArray} {maxL n : Nat} {ret : Option FieldType} {rmc : Room} (m : MI y bytes maxL ret n) (mv : MV y) (hC : y.cls = C) (hl : Cond.methodLink own idx y ∈ GT) {As : List Value} {r : String ⊕ Option Value} {M' : KMem}
    (hM : CtrX (xL X) B y bytes maxL ret rmc (.ref (B.1 + k) :: As) L M r M') (hn : As.length = n) (hs : st = As.reverse ++ .ref (B.1 + k) :: rest) (hR : Nat.ble (rmc.frames + 1) rm.frames = true ∧ Nat.ble (8 + (maxL + 11) + rmc.locals) rm.locals = true) (hr : Nat.ble ((rest.map fun v => v.category).sum) 8 = true) (hcs : Nat.ble (cn + rmc.cells) rm.cells = true ∧ Nat.ble (sn + rmc.slots) rm.slots = true)
    (kk : ∀ v, r = .inr v → KK X B L nL (cn + rmc.cells) (sn + rmc.slots) M' (pc + 3) ls (v.toList ++ rest)) (kx : ∀ E, r = .inl E → KT X B L nL (cn + rmc.cells) (sn + rmc.slots) M' pc ls rest E) : KK X B L nL cn sn M pc ls st := by
  intro H locs la hW hS hla
  subst hC
  have hrm : xR X = rm := G.2.2.2.2.2.2.2.2.2.2
  refine k_runX hS hla (vx_runV (good_fix G) hM ⟨good_cb G m hl hR, G.2.2.2.2.1 _ mv.1, G.2.2.2.2.1 _ mv.2⟩ ⟨kpc_blind, va_recv G.2.2.2.2.2.1 hW.1 (ci := ci) (q0 := k) K.1 (by rw [kW_get hk, kE_obj hc K.2.2.2.2.2]), fun U hU hWm => ⟨rfl, good_kwo G hW hS hU hWm⟩⟩ rfl hn hla.1 hs (lv_room (Nat.le_of_ble_eq_true hr)) d (by rw [hrm]; exact ⟨Nat.le_of_ble_eq_true hcs.1, Nat.le_of_ble_eq_true hcs.2⟩)) kk kx
theorem k_callSX (G : Good X B own cc nL rm) {idx : Nat} (d : decode cc pc = .ok (.invokestatic idx, 3)) {y : MethodName} {bytes : ByteArray} {maxL n : Nat} {ret : Option FieldType} {rmc : Room} (m : MI y bytes maxL ret n) (ms : Cond.static y ∈ GT) (hl : Cond.methodLink own idx y ∈ GT) {As : List Value} {r : String ⊕ Option Value} {M' : KMem}
    (hM : CtrX (xL X) B y bytes maxL ret rmc As L M r M') (hn : As.length = n) (hs : st = As.reverse ++ rest) (hR : Nat.ble (rmc.frames + 1) rm.frames = true ∧ Nat.ble (8 + (maxL + 11) + rmc.locals) rm.locals = true) (hr : Nat.ble ((rest.map fun v => v.category).sum) 8 = true) (hcs : Nat.ble (cn + rmc.cells) rm.cells = true ∧ Nat.ble (sn + rmc.slots) rm.slots = true)
    (kk : ∀ v, r = .inr v → KK X B L nL (cn + rmc.cells) (sn + rmc.slots) M' (pc + 3) ls (v.toList ++ rest)) (kx : ∀ E, r = .inl E → KT X B L nL (cn + rmc.cells) (sn + rmc.slots) M' pc ls rest E) : KK X B L nL cn sn M pc ls st := by
  intro H locs la hW hS hla
  have hrm : xR X = rm := G.2.2.2.2.2.2.2.2.2.2
  refine k_runX hS hla (vx_runS (good_fix G) hM ⟨good_cb G m hl hR, G.2.2.2.2.1 _ ms⟩ ⟨kpc_blind, fun U hU hWm => ⟨rfl, good_kwo G hW hS hU hWm⟩⟩ rfl hn hla.1 hs (lv_room (Nat.le_of_ble_eq_true hr)) d (by rw [hrm]; exact ⟨Nat.le_of_ble_eq_true hcs.1, Nat.le_of_ble_eq_true hcs.2⟩)) kk kx
end XRows
