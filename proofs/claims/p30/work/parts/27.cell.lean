/-! THE LAW's cell: it reads the script, which is no cell of the pool -/
abbrev rm_La_cell : Room := ({ frames := 0, cells := 0, slots := 0, locals := 0 } : Room)
def cellV (Ln : Nat) (xs : Nat → Int32) (k : Nat) : Int32 := if k < Ln then xs k else 7919 * (nI k + 7) * (nI k + 439)
def CPc (B : KB) (b Ln : Nat) (xs : Nat → Int32) (i : Int32) (L : KLay) (M : KMem) : Array Value → State → Prop := fun a U => KPc B L M [.ref b, .int i] a U ∧ va_X b Ln xs U U.heap ∧ b < U.heap.size ∧ b < B.1
def CtrS (l : Launch) (B : KB) (b Ln : Nat) (xs : Nat → Int32) (i : Int32) (L : KLay) (M : KMem) (v : Int32) : Prop :=
  Met l yL_cell (Cond.code yL_cell cL_cell 2 (some .int) :: GT) rm_La_cell (CPc B b Ln xs i L M) (KQc B L M (some (.int v))) rm_La_cell.cells rm_La_cell.slots (kA B)
theorem cpc_blind {B : KB} {b Ln : Nat} {xs : Nat → Int32} {i : Int32} {L : KLay} {M : KMem} : FrameBlind (CPc B b Ln xs i L M) := fun a U g mk h =>
  ⟨kpc_blind _ _ _ _ h.1, va_X.moved (u := U) (U := U.calling g mk a) (Vm.Alike.refl U.vm) h.2.1, h.2.2⟩
def I_La_cell : List (Nat × Instr × Nat) := [(0, .iload_n 1, 1), (1, .aload_n 0, 1), (2, .arraylength, 1), (3, .if_icmp .ge (9), 3), (6, .aload_n 0, 1), (7, .iload_n 1, 1), (8, .iaload, 1), (9, .goto (17), 3), (12, .sipush (7919), 3), (15, .iload_n 1, 1), (16, .bipush (7), 2), (18, .iadd, 1), (19, .imul, 1), (20, .iload_n 1, 1), (21, .sipush (439), 3), (24, .iadd, 1), (25, .imul, 1), (26, .ireturn, 1)]
theorem d_La_cell : decA cL_cell I_La_cell = true := by decide +kernel
theorem cS_7919 : (Int16.ofInt 7919).toInt32 = 7919 := by decide
theorem cS_439 : (Int16.ofInt 439).toInt32 = 439 := by decide
theorem cB_7x : (Int8.ofInt 7).toInt32 = 7 := by decide
theorem c_La_cell {l : Launch} {B : KB} {b Ln k : Nat} {xs : Nat → Int32} {L : KLay} {M : KMem} (hst : l.stackTraces = false) (hk : k < 48) (hLn : Ln < 2 ^ 31) : CtrS l B b Ln xs (nI k) L M (cellV Ln xs k) := by
  refine Met.ofW (by rfl) rfl ?_
  intro p e s m args below meth c s₁ Bd hml hv
  obtain ⟨⟨rfl, hW0, hK, hS0⟩, hX, hb, hbB⟩ := hv
  have hts := atoms_spec (ws := Cond.code yL_cell cL_cell 2 (some .int) :: GT) Bd.pre
  have G : Good (p, l, e, rm_La_cell, s, m, [Value.ref b, Value.int (nI k)].toArray, below, meth, c, MQ below (KQc B L M (some (.int (cellV Ln xs k)))) [Value.ref b, Value.int (nI k)].toArray s rm_La_cell.cells rm_La_cell.slots (kA B)) B RL cL_cell 2 rm_La_cell :=
    ⟨Bd.exec, Bd.bytes, hml, findClass_of_methodNamed Bd.named, fun w hw => hts w (List.mem_cons_of_mem _ hw), hK, hS0, hW0.2.2, Bd.notSynchronized, hst, rfl⟩
  generalize hXe : ((p, l, e, rm_La_cell, s, m, [Value.ref b, Value.int (nI k)].toArray, below, meth, c, MQ below (KQc B L M (some (.int (cellV Ln xs k)))) [Value.ref b, Value.int (nI k)].toArray s rm_La_cell.cells rm_La_cell.slots (kA B)) : KX) = X at G
  have R : RI X B L 2 cL_cell .int rm_La_cell (cellV Ln xs k) M := by
    subst hXe
    intro cn sn pc ls h1 h2 hn d H locs la hW hS hla
    refine W.widen (k := rm_La_cell.cells) (n := rm_La_cell.slots) (Nat.le_of_ble_eq_true h1) (Nat.le_of_ble_eq_true h2) ?_
    exact W.zret (ty := .int) Bd.exec Bd.bytes Bd.returns hn (fun t ht hWm => ⟨rfl, by rw [ht]; exact hW, hS.F ht⟩) hS.2.2 d Bd.notSynchronized
  have hXX : va_X b Ln xs (xS X) (xS X).heap := by subst hXe; exact hX
  have hbX : b < (xS X).heap.size := by subst hXe; exact hb
  have hb9 : KK X B L 2 0 0 M 0 [(0, .ref b), (1, .int (nI k))] [] := by
    refine k_iload_n G (dc d_La_cell 0 rfl) 1 rfl rfl ?_
    refine k_aload_n G (dc d_La_cell 1 rfl) 0 rfl rfl ?_
    refine (fun kk : KK X B L 2 0 0 M 3 [(0, .ref b), (1, .int (nI k))] [.int (nI Ln), .int (nI k)] => fun H locs la hW hS hla => va_slen G.1 G.2.1 hXX hbX (Nat.not_le.mpr hbB) hS (dc d_La_cell 2 rfl) (kk H locs la hW hS hla)) ?_
    refine k_icmp_ge G (dc d_La_cell 3 rfl) (tgt := 12) rfl (fun c => ?_) (fun c => ?_)
    · have hv : cellV Ln xs k = 7919 * (nI k + 7) * (nI k + 439) := by
        unfold cellV
        rw [if_neg]
        intro hlt
        rw [nI_leI (by omega) (by omega)] at c
        omega
      rw [hv] at R
      refine k_sipush G (dc d_La_cell 8 rfl) cS_7919 ?_
      refine k_iload_n G (dc d_La_cell 9 rfl) 1 rfl rfl ?_
      refine k_bipush G (dc d_La_cell 10 rfl) cB_7x ?_
      refine k_iadd G (dc d_La_cell 11 rfl) ?_
      refine k_imul G (dc d_La_cell 12 rfl) ?_
      refine k_iload_n G (dc d_La_cell 13 rfl) 1 rfl rfl ?_
      refine k_sipush G (dc d_La_cell 14 rfl) cS_439 ?_
      refine k_iadd G (dc d_La_cell 15 rfl) ?_
      refine k_imul G (dc d_La_cell 16 rfl) ?_
      exact R _ _ _ _ rfl rfl rfl (dc d_La_cell 17 rfl)
    · have hlt : k < Ln := by
        rw [nI_leI (by omega) (by omega)] at c
        omega
      have hv : cellV Ln xs k = xs (nI k).toNatClampNeg := by
        unfold cellV
        rw [if_pos hlt, nI_clamp (by omega)]
      rw [hv] at R
      refine k_aload_n G (dc d_La_cell 4 rfl) 0 rfl rfl ?_
      refine k_iload_n G (dc d_La_cell 5 rfl) 1 rfl rfl ?_
      refine (fun kk : KK X B L 2 0 0 M 9 [(0, .ref b), (1, .int (nI k))] [.int (xs (nI k).toNatClampNeg)] => fun H locs la hW hS hla => va_sld G.1 G.2.1 hXX hbX (Nat.not_le.mpr hbB) hS (vp_in_nI (by omega) (by omega)) (dc d_La_cell 6 rfl) (kk H locs la hW hS hla)) ?_
      refine k_goto G (dc d_La_cell 7 rfl) (tgt := 26) rfl ?_
      exact R _ _ _ _ rfl rfl rfl (dc d_La_cell 17 rfl)
  have hs9 := hb9
  subst hXe
  rw [lg_entry_eq]
  exact hs9 s.heap [] _ hW0 va_S.rf (lv_entry [Value.ref b, Value.int (nI k)] (Nat.le_of_ble_eq_true rfl))
theorem k_callcell {X : KX} {B : KB} {L : KLay} {own : String} {cc : ByteArray} {nL : Nat} {rm : Room} {cn sn : Nat} {M : KMem} {pc : Nat} {ls : List (Nat × Value)} {rest : List Value} (G : Good X B own cc nL rm) {idx : Nat} (d : decode cc pc = .ok (.invokestatic idx, 3)) (m : MI yL_cell cL_cell 2 (some .int) 2) (ms : Cond.static yL_cell ∈ GT) (hl : Cond.methodLink own idx yL_cell ∈ GT) {b Ln : Nat} {xs : Nat → Int32} {i v : Int32}
    (hX : va_X b Ln xs (xS X) (xS X).heap) (hb : b < (xS X).heap.size) (hbB : b < B.1) (hM : CtrS (xL X) B b Ln xs i L M v) (hR : Nat.ble (rm_La_cell.frames + 1) rm.frames = true ∧ Nat.ble (8 + (2 + 11) + rm_La_cell.locals) rm.locals = true) (hr : Nat.ble ((rest.map fun v => v.category).sum) 8 = true) (hcs : Nat.ble (cn + rm_La_cell.cells) rm.cells = true ∧ Nat.ble (sn + rm_La_cell.slots) rm.slots = true)
    (kk : KK X B L nL cn sn M (pc + 3) ls (.int v :: rest)) : KK X B L nL cn sn M pc ls (.int i :: .ref b :: rest) := by
  intro H locs la hW hS hla
  have hrm : xR X = rm := G.2.2.2.2.2.2.2.2.2.2
  have hk : KK X B L nL (cn + rm_La_cell.cells) (sn + rm_La_cell.slots) M (pc + 3) ls ((some (Value.int v)).toList ++ rest) := kk
  refine k_run hS hla (va_runS (good_fix G) hM ⟨good_cb G m hl hR, G.2.2.2.2.1 _ ms⟩ ⟨cpc_blind, fun U hU hWm => ⟨⟨rfl, good_kwo G hW hS hU hWm⟩, ?_, ?_, hbB⟩⟩ rfl (show [Value.ref b, Value.int i].length = 2 from rfl) hla.1 (rest := rest) rfl (lv_room (Nat.le_of_ble_eq_true hr)) d (by rw [hrm]; exact ⟨Nat.le_of_ble_eq_true hcs.1, Nat.le_of_ble_eq_true hcs.2⟩)) hk
  · rw [hU]
    exact (hX.kept (hS.2.1 b hb (Nat.not_le.mpr hbB))).moved hWm.alike
  · rw [hU]
    exact Nat.lt_of_lt_of_le hb hS.1
