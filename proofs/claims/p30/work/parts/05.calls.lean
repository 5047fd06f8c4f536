/-! CONTRACTS: a call that returns v (CtrN), or one that returns or throws (CtrX); calls; ends -/
def KPc (B : KB) (L : KLay) (M : KMem) (As : List Value) : Array Value → State → Prop := fun v U => v = As.toArray ∧ KWO B L M U
def KQc (B : KB) (L : KLay) (M : KMem) (v : Option Value) : Array Value → State → Outcome → State → Prop := fun _ st o t => o = .returned v ∧ KW B L M t.heap ∧ va_F (kA B) st t
def KQx (B : KB) (L : KLay) (M : KMem) (r : String ⊕ Option Value) : Array Value → State → Outcome → State → Prop := fun a st o t => ∃ v, r = .inr v ∧ KQc B L M v a st o t
def KXx (B : KB) (L : KLay) (M : KMem) (r : String ⊕ Option Value) : String → State → State → Prop := fun E st t => r = .inl E ∧ KW B L M t.heap ∧ va_F (kA B) st t
def CtrN (l : Launch) (B : KB) (y : MethodName) (bytes : ByteArray) (maxL : Nat) (ret : Option FieldType) (rm : Room) (As : List Value) (L : KLay) (M : KMem) (v : Option Value) (L' : KLay) (M' : KMem) : Prop :=
  Met l y (Cond.code y bytes maxL ret :: GT) rm (KPc B L M As) (KQc B L' M' v) rm.cells rm.slots (kA B)
def CtrX (l : Launch) (B : KB) (y : MethodName) (bytes : ByteArray) (maxL : Nat) (ret : Option FieldType) (rm : Room) (As : List Value) (L : KLay) (M : KMem) (r : String ⊕ Option Value) (M' : KMem) : Prop :=
  vx_Met l y (Cond.code y bytes maxL ret :: GT) rm (KPc B L M As) (KQx B L M' r) (KXx B L M' r) rm.cells rm.slots (kA B)
/-- what the tables say of a method -/
def MI (y : MethodName) (bytes : ByteArray) (maxL : Nat) (ret : Option FieldType) (n : Nat) : Prop :=
  Cond.code y bytes maxL ret ∈ GT ∧ Cond.initialized y.cls ∈ GT ∧ (y.cls ≠ "java/lang/invoke/MethodHandle" ∧ y.cls ≠ "java/lang/invoke/VarHandle") ∧ (parseMethodDescriptor y.desc).map (fun d => d.parameters.length) = some n
def MV (y : MethodName) : Prop := Cond.instanceMethod y ∈ GT ∧ Cond.selects y.cls y y ∈ GT
theorem kpc_blind {B : KB} {L : KLay} {M : KMem} {As : List Value} : FrameBlind (KPc B L M As) := fun a U g mk h =>
  ⟨h.1, h.2.1, va_K.moved (u := U) (U := U.calling g mk a) (Vm.Alike.refl U.vm) h.2.2.1, KS.vmEq (u := U) rfl h.2.2.2⟩
section CRows
variable {X : KX} {B : KB} {L : KLay} {own : String} {cc : ByteArray} {nL : Nat} {rm : Room} {cn sn : Nat} {M : KMem} {pc : Nat} {ls : List (Nat × Value)} {st rest : List Value} {H : Heap} {locs : List Loc}
theorem good_kwo (G : Good X B own cc nL rm) (hW : KW B L M H) (hS : va_S (kA B) (xS X).heap H locs) {U : State} (hU : U.heap = H) (hWm : (xS X).WarmedH U.vm) : KWO B L M U := by
  subst hU
  exact ⟨hW, va_K.moved hWm.alike G.2.2.2.2.2.1, (KS.kept G.2.2.2.2.2.2.1 hS.2.1).moved hWm⟩
theorem good_fix (G : Good X B own cc nL rm) : CallFix (xP X) (xM X) (xC X) cc nL (xS X) (xA X) GT own := ⟨G.1, G.2.1, G.2.2.1, G.2.2.2.1, G.2.2.2.2.1⟩
theorem good_cb (G : Good X B own cc nL rm) {y : MethodName} {bytes : ByteArray} {maxL n idx : Nat} {ret : Option FieldType} {rmc : Room} (m : MI y bytes maxL ret n) (hl : Cond.methodLink own idx y ∈ GT) (hR : Nat.ble (rmc.frames + 1) rm.frames = true ∧ Nat.ble (8 + (maxL + 11) + rmc.locals) rm.locals = true) :
    CallB (xR X) (xS X) (xA X) own idx y bytes maxL ret (Cond.code y bytes maxL ret :: GT) rmc rmc.cells rmc.slots n := by
  obtain ⟨h1, h2, h3, h4⟩ := m
  have hts := G.2.2.2.2.1
  have hrm : xR X = rm := G.2.2.2.2.2.2.2.2.2.2
  refine ⟨rfl, rfl, by rw [hrm]; exact Nat.le_of_ble_eq_true hR.1, by rw [hrm]; exact Nat.le_of_ble_eq_true hR.2, fun w hw a' U hU => ?_, List.mem_cons_self, hts _ h1, hts _ h2, h3, fun sig h => ?_, hts _ hl⟩
  · rcases List.mem_cons.mp hw with rfl | hw
    · exact word_at hU (gt_good h1) (hts _ h1)
    · exact word_at hU (gt_good hw) (hts _ hw)
  · rw [h] at h4
    exact (Option.some.inj h4).symm
/-- behind a call that returns -/
theorem k_run {L' : KLay} {M' : KMem} {v : Option Value} {mc ms : Nat} {a : Array Value} {la : Array Slot} {st0 : List Value} (hS : va_S (kA B) (xS X).heap H locs) (hl : lv_has la nL ls)
    (hr : va_Run (xP X) (xL X) (xE X) (xR X) (xS X) (xM X) (xA X) (xW X) (xH X) (xC X) H locs cn sn mc ms (F0 (xM X) pc la st0) rest (KQc B L' M' v a) (kA B))
    (kk : KK X B L' nL (cn + mc) (sn + ms) M' (pc + 3) ls (v.toList ++ rest)) : W (xP X) (xL X) (xE X) (xR X) (xS X) (xM X) (xA X) (xW X) (xH X) (xC X) H locs cn sn (xQ X) (F0 (xM X) pc la st0) := by
  intro T hT Y
  obtain ⟨v', st₀, t, T', L9, h0, Y', hL, e1, e2, ⟨hv, hQ, hz, hq⟩, hgo⟩ := hr T hT Y
  cases hv
  rw [h0] at hz hq
  obtain ⟨t2, a1, b1⟩ := kk T'.heap (locs ++ L9) la (by rw [e1]; exact hQ)
    ⟨Nat.le_trans hS.1 (by rw [e1]; exact hz), fun q h1 h2 => by rw [e1, hq q (Nat.lt_of_lt_of_le h1 hS.1) h2]; exact hS.2.1 q h1 h2, fun q hq => by
      rcases List.mem_append.mp hq with h | h
      · exact hS.2.2 q h
      · exact hL q h⟩ hl T' rfl Y'
  exact ⟨t2, hgo t2 a1, b1⟩
/-- a call of an object's method -/
theorem k_callV (G : Good X B own cc nL rm) {idx : Nat} (d : decode cc pc = .ok (.invokevirtual idx, 3)) {ci : Nat} {C : String} {T : u_T} {N : Nat} {ty : Nat → FieldType} (K : KC ci C T N ty) {k : Nat} (hk : k < L.1) (hc : L.2.1 k = ci) {y : MethodName} {bytes : ByteArray} {maxL n : Nat} {ret : Option FieldType} {rmc : Room} (m : MI y bytes maxL ret n) (mv : MV y) (hC : y.cls = C) (hl : Cond.methodLink own idx y ∈ GT) {As : List Value} {v : Option Value} {L' : KLay} {M' : KMem}
    (hM : CtrN (xL X) B y bytes maxL ret rmc (.ref (B.1 + k) :: As) L M v L' M') (hn : As.length = n) (hs : st = As.reverse ++ .ref (B.1 + k) :: rest) (hR : Nat.ble (rmc.frames + 1) rm.frames = true ∧ Nat.ble (8 + (maxL + 11) + rmc.locals) rm.locals = true) (hr : Nat.ble ((rest.map fun v => v.category).sum) 8 = true) (hcs : Nat.ble (cn + rmc.cells) rm.cells = true ∧ Nat.ble (sn + rmc.slots) rm.slots = true)
    (kk : KK X B L' nL (cn + rmc.cells) (sn + rmc.slots) M' (pc + 3) ls (v.toList ++ rest)) : KK X B L nL cn sn M pc ls st := by
  intro H locs la hW hS hla
  subst hC
  have hrm : xR X = rm := G.2.2.2.2.2.2.2.2.2.2
  refine k_run hS hla (va_runV (good_fix G) hM ⟨good_cb G m hl hR, G.2.2.2.2.1 _ mv.1, G.2.2.2.2.1 _ mv.2⟩ ⟨kpc_blind, va_recv G.2.2.2.2.2.1 hW.1 (ci := ci) (q0 := k) K.1 (by rw [kW_get hk, kE_obj hc K.2.2.2.2.2]), fun U hU hWm => ⟨rfl, good_kwo G hW hS hU hWm⟩⟩ rfl hn hla.1 hs (lv_room (Nat.le_of_ble_eq_true hr)) d (by rw [hrm]; exact ⟨Nat.le_of_ble_eq_true hcs.1, Nat.le_of_ble_eq_true hcs.2⟩)) kk
/-- a call of a static method -/
theorem k_callS (G : Good X B own cc nL rm) {idx : Nat} (d : decode cc pc = .ok (.invokestatic idx, 3)) {y : MethodName} {bytes : ByteArray} {maxL n : Nat} {ret : Option FieldType} {rmc : Room} (m : MI y bytes maxL ret n) (ms : Cond.static y ∈ GT) (hl : Cond.methodLink own idx y ∈ GT) {As : List Value} {v : Option Value} {L' : KLay} {M' : KMem}
    (hM : CtrN (xL X) B y bytes maxL ret rmc As L M v L' M') (hn : As.length = n) (hs : st = As.reverse ++ rest) (hR : Nat.ble (rmc.frames + 1) rm.frames = true ∧ Nat.ble (8 + (maxL + 11) + rmc.locals) rm.locals = true) (hr : Nat.ble ((rest.map fun v => v.category).sum) 8 = true) (hcs : Nat.ble (cn + rmc.cells) rm.cells = true ∧ Nat.ble (sn + rmc.slots) rm.slots = true)
    (kk : KK X B L' nL (cn + rmc.cells) (sn + rmc.slots) M' (pc + 3) ls (v.toList ++ rest)) : KK X B L nL cn sn M pc ls st := by
  intro H locs la hW hS hla
  have hrm : xR X = rm := G.2.2.2.2.2.2.2.2.2.2
  refine k_run hS hla (va_runS (good_fix G) hM ⟨good_cb G m hl hR, G.2.2.2.2.1 _ ms⟩ ⟨kpc_blind, fun U hU hWm => ⟨rfl, good_kwo G hW hS hU hWm⟩⟩ rfl hn hla.1 hs (lv_room (Nat.le_of_ble_eq_true hr)) d (by rw [hrm]; exact ⟨Nat.le_of_ble_eq_true hcs.1, Nat.le_of_ble_eq_true hcs.2⟩)) kk
/-- a call of a constructor -/
theorem k_callI (G : Good X B own cc nL rm) {idx : Nat} (d : decode cc pc = .ok (.invokespecial idx, 3)) {k : Nat} {y : MethodName} {bytes : ByteArray} {maxL n : Nat} {rmc : Room} (m : MI y bytes maxL none n) (mi : y.name = "<init>" ∧ Cond.instanceMethod y ∈ GT) (hl : Cond.methodLink own idx y ∈ GT) {As : List Value} {v : Option Value} {L' : KLay} {M' : KMem}
    (hM : CtrN (xL X) B y bytes maxL none rmc (.ref (B.1 + k) :: As) L M v L' M') (hn : As.length = n) (hs : st = As.reverse ++ .ref (B.1 + k) :: rest) (hR : Nat.ble (rmc.frames + 1) rm.frames = true ∧ Nat.ble (8 + (maxL + 11) + rmc.locals) rm.locals = true) (hr : Nat.ble ((rest.map fun v => v.category).sum) 8 = true) (hcs : Nat.ble (cn + rmc.cells) rm.cells = true ∧ Nat.ble (sn + rmc.slots) rm.slots = true)
    (kk : KK X B L' nL (cn + rmc.cells) (sn + rmc.slots) M' (pc + 3) ls (v.toList ++ rest)) : KK X B L nL cn sn M pc ls st := by
  intro H locs la hW hS hla
  have hrm : xR X = rm := G.2.2.2.2.2.2.2.2.2.2
  refine k_run hS hla (va_runI (good_fix G) hM ⟨good_cb G m hl hR, mi.1, G.2.2.2.2.1 _ mi.2⟩ ⟨kpc_blind, fun U hU hWm => ⟨rfl, good_kwo G hW hS hU hWm⟩⟩ rfl hn hla.1 hs (lv_room (Nat.le_of_ble_eq_true hr)) d (by rw [hrm]; exact ⟨Nat.le_of_ble_eq_true hcs.1, Nat.le_of_ble_eq_true hcs.2⟩)) kk
/-- a call of a nest mate's private constructor -/
theorem k_callIN (G : Good X B own cc nL rm) {idx : Nat} {host : String} (d : decode cc pc = .ok (.invokespecial idx, 3)) {k : Nat} {y : MethodName} {bytes : ByteArray} {maxL n : Nat} {rmc : Room} (m : MI y bytes maxL none n) (mi : y.name = "<init>" ∧ Cond.instanceMethod y ∈ GT) (hl : Cond.methodLinkNest own idx y host ∈ lw_tbl) {As : List Value} {v : Option Value} {L' : KLay} {M' : KMem}
    (hM : CtrN (xL X) B y bytes maxL none rmc (.ref (B.1 + k) :: As) L M v L' M') (hn : As.length = n) (hs : st = As.reverse ++ .ref (B.1 + k) :: rest) (hR : Nat.ble (rmc.frames + 1) rm.frames = true ∧ Nat.ble (8 + (maxL + 11) + rmc.locals) rm.locals = true) (hr : Nat.ble ((rest.map fun v => v.category).sum) 8 = true) (hcs : Nat.ble (cn + rmc.cells) rm.cells = true ∧ Nat.ble (sn + rmc.slots) rm.slots = true)
    (kk : KK X B L' nL (cn + rmc.cells) (sn + rmc.slots) M' (pc + 3) ls (v.toList ++ rest)) : KK X B L nL cn sn M pc ls st := by
  intro H locs la hW hS hla
  have hrm : xR X = rm := G.2.2.2.2.2.2.2.2.2.2
  obtain ⟨h1, h2, h3, h4⟩ := m
  have hts := G.2.2.2.2.1
  have hG : GoodIn GT (Cond.code y bytes maxL none :: GT) := fun w hw => by
    rcases List.mem_cons.mp hw with rfl | hw
    · exact ⟨h1, gt_good h1⟩
    · exact ⟨hw, gt_good hw⟩
  refine k_run hS hla (va_runIN (good_fix G) hM ⟨va_cnB (host := host) n hts hG rfl rfl rfl (G.2.2.2.2.2.2.1.1.1 _ hl rfl) (hts _ h2) ⟨h3.1, h3.2, h4⟩ (by rw [hrm]; exact ⟨Nat.le_of_ble_eq_true hR.1, Nat.le_of_ble_eq_true hR.2⟩), mi.1, hts _ mi.2⟩ ⟨kpc_blind, fun U hU hWm => ⟨rfl, good_kwo G hW hS hU hWm⟩⟩ rfl hn hla.1 hs (lv_room (Nat.le_of_ble_eq_true hr)) d (by rw [hrm]; exact ⟨Nat.le_of_ble_eq_true hcs.1, Nat.le_of_ble_eq_true hcs.2⟩)) kk
theorem k_cVI (G : Good X B own cc nL rm) {idx : Nat} (d : decode cc pc = .ok (.invokevirtual idx, 3)) {ci : Nat} {C : String} {T : u_T} {N : Nat} {ty : Nat → FieldType} (K : KC ci C T N ty) {k : Nat} (hk : k < L.1) (hc : L.2.1 k = ci) {y : MethodName} {bytes : ByteArray} {maxL n : Nat} {ret : Option FieldType} {rmc : Room} (m : MI y bytes maxL ret n) (mv : MV y) (hC : y.cls = C) (hl : Cond.methodLink own idx y ∈ GT) {As : List Value} {v : Int32} {L' : KLay} {M' : KMem}
    (hM : CtrN (xL X) B y bytes maxL ret rmc (.ref (B.1 + k) :: As) L M (some (.int v)) L' M') (hn : As.length = n) (hs : st = As.reverse ++ .ref (B.1 + k) :: rest) (hR : Nat.ble (rmc.frames + 1) rm.frames = true ∧ Nat.ble (8 + (maxL + 11) + rmc.locals) rm.locals = true) (hr : Nat.ble ((rest.map fun v => v.category).sum) 8 = true) (hcs : Nat.ble (cn + rmc.cells) rm.cells = true ∧ Nat.ble (sn + rmc.slots) rm.slots = true) (hz : rmc.cells = 0 ∧ rmc.slots = 0)
    (kk : KK X B L' nL cn sn M' (pc + 3) ls (.int v :: rest)) : KK X B L nL cn sn M pc ls st :=
  k_callV G d K hk hc m mv hC hl hM hn hs hR hr hcs (by rw [hz.1, hz.2]; exact kk)
theorem k_cVV (G : Good X B own cc nL rm) {idx : Nat} (d : decode cc pc = .ok (.invokevirtual idx, 3)) {ci : Nat} {C : String} {T : u_T} {N : Nat} {ty : Nat → FieldType} (K : KC ci C T N ty) {k : Nat} (hk : k < L.1) (hc : L.2.1 k = ci) {y : MethodName} {bytes : ByteArray} {maxL n : Nat} {ret : Option FieldType} {rmc : Room} (m : MI y bytes maxL ret n) (mv : MV y) (hC : y.cls = C) (hl : Cond.methodLink own idx y ∈ GT) {As : List Value} {L' : KLay} {M' : KMem}
    (hM : CtrN (xL X) B y bytes maxL ret rmc (.ref (B.1 + k) :: As) L M none L' M') (hn : As.length = n) (hs : st = As.reverse ++ .ref (B.1 + k) :: rest) (hR : Nat.ble (rmc.frames + 1) rm.frames = true ∧ Nat.ble (8 + (maxL + 11) + rmc.locals) rm.locals = true) (hr : Nat.ble ((rest.map fun v => v.category).sum) 8 = true) (hcs : Nat.ble (cn + rmc.cells) rm.cells = true ∧ Nat.ble (sn + rmc.slots) rm.slots = true) (hz : rmc.cells = 0 ∧ rmc.slots = 0)
    (kk : KK X B L' nL cn sn M' (pc + 3) ls rest) : KK X B L nL cn sn M pc ls st :=
  k_callV G d K hk hc m mv hC hl hM hn hs hR hr hcs (by rw [hz.1, hz.2]; exact kk)
theorem k_cSI (G : Good X B own cc nL rm) {idx : Nat} (d : decode cc pc = .ok (.invokestatic idx, 3)) {y : MethodName} {bytes : ByteArray} {maxL n : Nat} {ret : Option FieldType} {rmc : Room} (m : MI y bytes maxL ret n) (ms : Cond.static y ∈ GT) (hl : Cond.methodLink own idx y ∈ GT) {As : List Value} {v : Int32} {L' : KLay} {M' : KMem}
    (hM : CtrN (xL X) B y bytes maxL ret rmc As L M (some (.int v)) L' M') (hn : As.length = n) (hs : st = As.reverse ++ rest) (hR : Nat.ble (rmc.frames + 1) rm.frames = true ∧ Nat.ble (8 + (maxL + 11) + rmc.locals) rm.locals = true) (hr : Nat.ble ((rest.map fun v => v.category).sum) 8 = true) (hcs : Nat.ble (cn + rmc.cells) rm.cells = true ∧ Nat.ble (sn + rmc.slots) rm.slots = true) (hz : rmc.cells = 0 ∧ rmc.slots = 0)
    (kk : KK X B L' nL cn sn M' (pc + 3) ls (.int v :: rest)) : KK X B L nL cn sn M pc ls st :=
  k_callS G d m ms hl hM hn hs hR hr hcs (by rw [hz.1, hz.2]; exact kk)
theorem k_cSV (G : Good X B own cc nL rm) {idx : Nat} (d : decode cc pc = .ok (.invokestatic idx, 3)) {y : MethodName} {bytes : ByteArray} {maxL n : Nat} {ret : Option FieldType} {rmc : Room} (m : MI y bytes maxL ret n) (ms : Cond.static y ∈ GT) (hl : Cond.methodLink own idx y ∈ GT) {As : List Value} {L' : KLay} {M' : KMem}
    (hM : CtrN (xL X) B y bytes maxL ret rmc As L M none L' M') (hn : As.length = n) (hs : st = As.reverse ++ rest) (hR : Nat.ble (rmc.frames + 1) rm.frames = true ∧ Nat.ble (8 + (maxL + 11) + rmc.locals) rm.locals = true) (hr : Nat.ble ((rest.map fun v => v.category).sum) 8 = true) (hcs : Nat.ble (cn + rmc.cells) rm.cells = true ∧ Nat.ble (sn + rmc.slots) rm.slots = true) (hz : rmc.cells = 0 ∧ rmc.slots = 0)
    (kk : KK X B L' nL cn sn M' (pc + 3) ls rest) : KK X B L nL cn sn M pc ls st :=
  k_callS G d m ms hl hM hn hs hR hr hcs (by rw [hz.1, hz.2]; exact kk)
end CRows
