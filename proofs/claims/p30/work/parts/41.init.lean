/-! laid by wip/whole/mk.py: constructors -/
def okN (b : Bool) : Option Unit := if b = true then some () else none
theorem some3 {α β γ : Type} {a a' : α} {b b' : β} {c c' : γ} (h : some (a, b, c) = some (a', b', c')) : a = a' ∧ b = b' ∧ c = c' := by
  cases h
  exact ⟨rfl, rfl, rfl⟩
theorem okN_ok {b : Bool} {x : Unit} (h : okN b = some x) : b = true := by
  unfold okN at h
  split at h
  · assumption
  · cases h
def ckO (L : KLay) (o k : Nat) : Option Unit := if o < L.1 ∧ L.2.1 o = k then some () else none
theorem ckO_ok {L : KLay} {o k : Nat} {x : Unit} (h : ckO L o k = some x) : o < L.1 ∧ L.2.1 o = k := by
  unfold ckO at h
  split at h
  · assumption
  · cases h
def okB (L : KLay) (t : Nat) (T : kT) : Bool := T.all (fun q => decide (t + q.1 < L.1) && (decide (L.2.1 (t + q.1) = q.2.1) && (decide (L.2.2.1 (t + q.1) = q.2.2.1) && q.2.2.2.all (fun r => decide (L.2.2.2 (t + q.1) r.1 = some (t + r.2))))))
theorem okB_ok {L : KLay} {t : Nat} {T : kT} (h : okB L t T = true) : okL L t T := by
  intro q hq
  have h1 := List.all_eq_true.mp h q hq
  simp only [Bool.and_eq_true, decide_eq_true_eq, List.all_eq_true] at h1
  exact ⟨h1.1, h1.2.1, h1.2.2.1, h1.2.2.2⟩
theorem df_0 : ∀ j, j < 2 → defaultValue (tyX0 j) = if kR 0 j = true then Value.null else Value.int 0 := by decide +kernel
theorem df_1 : ∀ j, j < 1 → defaultValue (tyX1 j) = if kR 1 j = true then Value.null else Value.int 0 := by decide +kernel
theorem df_2 : ∀ j, j < 5 → defaultValue (tyX2 j) = if kR 2 j = true then Value.null else Value.int 0 := by decide +kernel
theorem df_3 : ∀ j, j < 6 → defaultValue (tyX3 j) = if kR 3 j = true then Value.null else Value.int 0 := by decide +kernel
theorem df_4 : ∀ j, j < 1 → defaultValue (tyX4 j) = if kR 4 j = true then Value.null else Value.int 0 := by decide +kernel
theorem df_5 : ∀ j, j < 15 → defaultValue (tyX7 j) = if kR 5 j = true then Value.null else Value.int 0 := by decide +kernel
theorem df_6 : ∀ j, j < 4 → defaultValue (tyX8 j) = if kR 6 j = true then Value.null else Value.int 0 := by decide +kernel
theorem df_7 : ∀ j, j < 4 → defaultValue (tyX10 j) = if kR 7 j = true then Value.null else Value.int 0 := by decide +kernel
theorem cl_RX10_7 : Cond.classLink RX10 7 "SignReforms$ReformText" ∈ GT := gt_in 41 (by decide +kernel) rfl
theorem cl_RX10_16 : Cond.classLink RX10 16 "SignReforms$Town" ∈ GT := gt_in 62 (by decide +kernel) rfl
theorem cl_RX10_26 : Cond.classLink RX10 26 "SignReforms$Memory" ∈ GT := gt_in 194 (by decide +kernel) rfl
theorem cl_RX2_9 : Cond.classLink RX2 9 "SignReforms$State" ∈ GT := gt_in 200 (by decide +kernel) rfl
theorem cl_RX7_9 : Cond.classLink RX7 9 "SignReforms$Decrees" ∈ GT := gt_in 74 (by decide +kernel) rfl
theorem cl_RX8_9 : Cond.classLink RX8 9 "SignReforms$State" ∈ GT := gt_in 68 (by decide +kernel) rfl
theorem cl_RX8_18 : Cond.classLink RX8 18 "SignReforms$Ruler" ∈ GT := gt_in 160 (by decide +kernel) rfl
theorem cl_RX8_25 : Cond.classLink RX8 25 "SignReforms$Flow" ∈ GT := gt_in 170 (by decide +kernel) rfl
theorem in_X0 : Cond.instantiable RX0 2 ∈ GT := gt_in 75 (by decide +kernel) rfl
theorem ii_X0 : Cond.initialized RX0 ∈ GT := gt_in 19 (by decide +kernel) rfl
theorem in_X1 : Cond.instantiable RX1 1 ∈ GT := gt_in 171 (by decide +kernel) rfl
theorem ii_X1 : Cond.initialized RX1 ∈ GT := gt_in 22 (by decide +kernel) rfl
theorem in_X2 : Cond.instantiable RX2 5 ∈ GT := gt_in 195 (by decide +kernel) rfl
theorem ii_X2 : Cond.initialized RX2 ∈ GT := gt_in 23 (by decide +kernel) rfl
theorem in_X3 : Cond.instantiable RX3 6 ∈ GT := gt_in 42 (by decide +kernel) rfl
theorem ii_X3 : Cond.initialized RX3 ∈ GT := gt_in 16 (by decide +kernel) rfl
theorem in_X4 : Cond.instantiable RX4 1 ∈ GT := gt_in 161 (by decide +kernel) rfl
theorem ii_X4 : Cond.initialized RX4 ∈ GT := gt_in 21 (by decide +kernel) rfl
theorem in_X7 : Cond.instantiable RX7 15 ∈ GT := gt_in 69 (by decide +kernel) rfl
theorem ii_X7 : Cond.initialized RX7 ∈ GT := gt_in 18 (by decide +kernel) rfl
theorem in_X8 : Cond.instantiable RX8 4 ∈ GT := gt_in 63 (by decide +kernel) rfl
theorem ii_X8 : Cond.initialized RX8 ∈ GT := gt_in 17 (by decide +kernel) rfl
theorem ar_boolean : Cond.arrayClass (newarray.typeOf .boolean) ∈ GT := gt_in 220 (by decide +kernel) rfl
theorem ar_int : Cond.arrayClass (newarray.typeOf .int) ∈ GT := gt_in 61 (by decide +kernel) rfl
theorem ob_RX0_3 : Cond.methodLink RX0 3 Lib.objectInit ∈ GT := gt_in 79 (by decide +kernel) rfl
theorem ob_RX1_3 : Cond.methodLink RX1 3 Lib.objectInit ∈ GT := gt_in 175 (by decide +kernel) rfl
theorem ob_RX10_1 : Cond.methodLink RX10 1 Lib.objectInit ∈ GT := gt_in 38 (by decide +kernel) rfl
theorem ob_RX2_3 : Cond.methodLink RX2 3 Lib.objectInit ∈ GT := gt_in 199 (by decide +kernel) rfl
theorem ob_RX3_3 : Cond.methodLink RX3 3 Lib.objectInit ∈ GT := gt_in 46 (by decide +kernel) rfl
theorem ob_RX4_3 : Cond.methodLink RX4 3 Lib.objectInit ∈ GT := gt_in 165 (by decide +kernel) rfl
theorem ob_RX7_3 : Cond.methodLink RX7 3 Lib.objectInit ∈ GT := gt_in 73 (by decide +kernel) rfl
theorem ob_RX8_3 : Cond.methodLink RX8 3 Lib.objectInit ∈ GT := gt_in 67 (by decide +kernel) rfl
theorem obm : Cond.instanceMethod Lib.objectInit ∈ GT ∧ Cond.code Lib.objectInit ⟨#[0xb1]⟩ 1 none ∈ GT := ⟨gt_in 39 (by decide +kernel) rfl, gt_in 40 (by decide +kernel) rfl⟩
theorem ml_RX10_28 : Cond.methodLink RX10 28 yX2_init ∈ GT := gt_in 196 (by decide +kernel) rfl
theorem ml_RX2_24 : Cond.methodLink RX2 24 yX7_init ∈ GT := gt_in 202 (by decide +kernel) rfl
theorem ml_RX8_11 : Cond.methodLink RX8 11 yX7_init ∈ GT := gt_in 70 (by decide +kernel) rfl
theorem mx_RX10_9 : Cond.methodLinkNest RX10 9 yX3_init "SignReforms" ∈ lw_tbl := List.mem_of_getElem? (i := 43) (by decide +kernel)
theorem mx_RX10_18 : Cond.methodLinkNest RX10 18 yX8_init "SignReforms" ∈ lw_tbl := List.mem_of_getElem? (i := 64) (by decide +kernel)
theorem mx_RX7_11 : Cond.methodLinkNest RX7 11 yX0_init "SignReforms" ∈ lw_tbl := List.mem_of_getElem? (i := 76) (by decide +kernel)
theorem mx_RX8_20 : Cond.methodLinkNest RX8 20 yX4_init "SignReforms" ∈ lw_tbl := List.mem_of_getElem? (i := 162) (by decide +kernel)
theorem mx_RX8_27 : Cond.methodLinkNest RX8 27 yX1_init "SignReforms" ∈ lw_tbl := List.mem_of_getElem? (i := 172) (by decide +kernel)
set_option maxRecDepth 100000 in
theorem mi_De_init : MI yX0_init cX0_init 1 none 0 := ⟨gt_in 78 (by rfl) rfl, gt_in 19 (by decide +kernel) rfl, by decide +kernel, by decide +kernel⟩
theorem mn_De_init : yX0_init.name = "<init>" ∧ Cond.instanceMethod yX0_init ∈ GT := ⟨rfl, gt_in 77 (by decide +kernel) rfl⟩
set_option maxRecDepth 100000 in
theorem mi_Ru_init : MI yX4_init cX4_init 1 none 0 := ⟨gt_in 164 (by rfl) rfl, gt_in 21 (by decide +kernel) rfl, by decide +kernel, by decide +kernel⟩
theorem mn_Ru_init : yX4_init.name = "<init>" ∧ Cond.instanceMethod yX4_init ∈ GT := ⟨rfl, gt_in 163 (by decide +kernel) rfl⟩
set_option maxRecDepth 100000 in
theorem mi_Fl_init : MI yX1_init cX1_init 1 none 0 := ⟨gt_in 174 (by rfl) rfl, gt_in 22 (by decide +kernel) rfl, by decide +kernel, by decide +kernel⟩
theorem mn_Fl_init : yX1_init.name = "<init>" ∧ Cond.instanceMethod yX1_init ∈ GT := ⟨rfl, gt_in 173 (by decide +kernel) rfl⟩
set_option maxRecDepth 100000 in
theorem mi_Tx_init : MI yX3_init cX3_init 1 none 0 := ⟨gt_in 45 (by rfl) rfl, gt_in 16 (by decide +kernel) rfl, by decide +kernel, by decide +kernel⟩
theorem mn_Tx_init : yX3_init.name = "<init>" ∧ Cond.instanceMethod yX3_init ∈ GT := ⟨rfl, gt_in 44 (by decide +kernel) rfl⟩
set_option maxRecDepth 100000 in
theorem mi_St_init : MI yX7_init cX7_init 1 none 0 := ⟨gt_in 72 (by rfl) rfl, gt_in 18 (by decide +kernel) rfl, by decide +kernel, by decide +kernel⟩
theorem mn_St_init : yX7_init.name = "<init>" ∧ Cond.instanceMethod yX7_init ∈ GT := ⟨rfl, gt_in 71 (by decide +kernel) rfl⟩
set_option maxRecDepth 100000 in
theorem mi_Tw_init : MI yX8_init cX8_init 1 none 0 := ⟨gt_in 66 (by rfl) rfl, gt_in 17 (by decide +kernel) rfl, by decide +kernel, by decide +kernel⟩
theorem mn_Tw_init : yX8_init.name = "<init>" ∧ Cond.instanceMethod yX8_init ∈ GT := ⟨rfl, gt_in 65 (by decide +kernel) rfl⟩
set_option maxRecDepth 100000 in
theorem mi_Me_init : MI yX2_init cX2_init 2 none 0 := ⟨gt_in 198 (by rfl) rfl, gt_in 23 (by decide +kernel) rfl, by decide +kernel, by decide +kernel⟩
theorem mn_Me_init : yX2_init.name = "<init>" ∧ Cond.instanceMethod yX2_init ∈ GT := ⟨rfl, gt_in 197 (by decide +kernel) rfl⟩
set_option maxRecDepth 100000 in
theorem mi_SR_init : MI yX10_init cX10_init 1 none 0 := ⟨gt_in 37 (by rfl) rfl, gt_in 15 (by decide +kernel) rfl, by decide +kernel, by decide +kernel⟩
theorem mn_SR_init : yX10_init.name = "<init>" ∧ Cond.instanceMethod yX10_init ∈ GT := ⟨rfl, gt_in 36 (by decide +kernel) rfl⟩
theorem cB_50 : (Int8.ofInt 50).toInt32 = 50 := by decide
theorem cB_120 : (Int8.ofInt 120).toInt32 = 120 := by decide
theorem fl_RX10_10 : Cond.fieldLink RX10 10 (TX10 0).1 (TX10 0).2.1 (TX10 0).2.2.1 ∈ GT := gt_in 221 (by decide +kernel) rfl
theorem fl_RX10_23 : Cond.fieldLink RX10 23 (TX10 2).1 (TX10 2).2.1 (TX10 2).2.2.1 ∈ GT := gt_in 223 (by decide +kernel) rfl
theorem fl_RX2_17 : Cond.fieldLink RX2 17 (TX2 3).1 (TX2 3).2.1 (TX2 3).2.2.1 ∈ GT := gt_in 207 (by decide +kernel) rfl
theorem fl_RX2_20 : Cond.fieldLink RX2 20 (TX2 4).1 (TX2 4).2.1 (TX2 4).2.2.1 ∈ GT := gt_in 208 (by decide +kernel) rfl
theorem fl_RX3_9 : Cond.fieldLink RX3 9 (TX3 0).1 (TX3 0).2.1 (TX3 0).2.2.1 ∈ GT := gt_in 47 (by decide +kernel) rfl
theorem ml_RX7_46 : Cond.methodLink RX7 46 yX7_clear ∈ GT := gt_in 89 (by decide +kernel) rfl
set_option maxRecDepth 100000 in
theorem mi_St_clear : MI yX7_clear cX7_clear 1 none 0 := ⟨gt_in 92 (by rfl) rfl, gt_in 18 (by decide +kernel) rfl, by decide +kernel, by decide +kernel⟩
theorem mv_St_clear : MV yX7_clear := ⟨gt_in 90 (by decide +kernel) rfl, gt_in 91 (by decide +kernel) rfl⟩
def I_De_init : List (Nat × Instr × Nat) := [(0, .aload_n 0, 1), (1, .invokespecial 3, 3), (4, .aload_n 0, 1), (5, .bipush 50, 2), (7, .newarray .int, 2), (9, .putfield 11, 3), (12, .return_, 1)]
set_option maxRecDepth 100000 in
theorem d_De_init : decA cX0_init I_De_init = true := by decide +kernel
abbrev rm_De_init : Room := ({ frames := 1, cells := 1, slots := 50, locals := 20 } : Room)
def m_De_init (u : Nat) (L : KLay) (M : KMem) : Option (KLay × KMem) :=
 Option.bind (okN (Nat.ble (0 + 1) 1)) fun _ =>
 Option.bind (okN (Nat.ble (0 + 50) 50)) fun _ =>
 Option.bind (some (L.1, lNew L 9 50, mNew L M)) fun (o5, L3, M4) =>
 Option.bind (ckO L3 u 0) fun _ =>
 Option.bind (some (lRef L3 u 1 o5)) fun L8 =>
 Option.bind (okN (Nat.ble (0 + 1) 1)) fun _ =>
 Option.bind (okN (Nat.ble (0 + 50) 50)) fun _ =>
 some (L8, M4)
set_option maxHeartbeats 4000000 in
set_option maxRecDepth 100000 in
theorem b_De_init {X : KX} {B : KB} {L : KLay} {M : KMem} {u : Nat} (G : Good X B RX0 cX0_init 1 rm_De_init) (hx : B.2.2.2 = true) (hin : (xH X).name = "<init>") (h : kOk (m_De_init u L M) (fun r => RV X B r.1 1 cX0_init rm_De_init r.2)) : KK X B L 1 0 0 M 0 [(0, .ref (B.1 + u))] [] := by
  unfold m_De_init at h
  refine k_aload_n G (dc d_De_init 0 rfl) 0 rfl rfl ?_
  refine k_objInit G (dc d_De_init 1 rfl) ob_RX0_3 obm rfl rfl ?_
  refine k_aload_n G (dc d_De_init 2 rfl) 0 rfl rfl ?_
  refine k_bipush G (dc d_De_init 3 rfl) cB_50 ?_
  obtain ⟨_, e1, h⟩ := kOk_b h
  obtain ⟨_, e2, h⟩ := kOk_b h
  refine k_newI G hx ar_int (dc d_De_init 4 rfl) (len := 50) (by decide) (by decide) rfl (okN_ok e1) (okN_ok e2) ?_
  obtain ⟨⟨o5, L3, M4⟩, e6, h⟩ := kOk_b h
  obtain ⟨e6a, e6b, e6c⟩ := some3 e6
  rw [e6c, e6b, e6a]
  obtain ⟨_, e7, h⟩ := kOk_b h
  refine k_putFR G kc0 (dc d_De_init 5 rfl) (ckO_ok e7).1 (ckO_ok e7).2 1 (by decide) rfl rfl hin rfl fl_RX0_11 rfl rfl ?_
  obtain ⟨L8, e9, h⟩ := kOk_b h
  rw [Option.some.inj e9]
  obtain ⟨_, e10, h⟩ := kOk_b h
  obtain ⟨_, e11, h⟩ := kOk_b h
  exact (kOk_s h) _ _ _ _ (okN_ok e10) (okN_ok e11) (dc d_De_init 6 rfl)
theorem c_De_init {l : Launch} {B : KB} {L L' : KLay} {M M' : KMem} {u : Nat} (hst : l.stackTraces = false) (hx : B.2.2.2 = true) (e : m_De_init u L M = some (L', M')) : CtrN l B yX0_init cX0_init 1 none rm_De_init [.ref (B.1 + u)] L M none L' M' :=
  mk_V rfl hst rfl (fun X hl G hin R => b_De_init G hx hin ⟨_, e, R⟩)
def I_Ru_init : List (Nat × Instr × Nat) := [(0, .aload_n 0, 1), (1, .invokespecial 3, 3), (4, .aload_n 0, 1), (5, .bipush 9, 2), (7, .newarray .int, 2), (9, .putfield 9, 3), (12, .return_, 1)]
set_option maxRecDepth 100000 in
theorem d_Ru_init : decA cX4_init I_Ru_init = true := by decide +kernel
abbrev rm_Ru_init : Room := ({ frames := 1, cells := 1, slots := 9, locals := 20 } : Room)
def m_Ru_init (u : Nat) (L : KLay) (M : KMem) : Option (KLay × KMem) :=
 Option.bind (okN (Nat.ble (0 + 1) 1)) fun _ =>
 Option.bind (okN (Nat.ble (0 + 9) 9)) fun _ =>
 Option.bind (some (L.1, lNew L 9 9, mNew L M)) fun (o5, L3, M4) =>
 Option.bind (ckO L3 u 4) fun _ =>
 Option.bind (some (lRef L3 u 0 o5)) fun L8 =>
 Option.bind (okN (Nat.ble (0 + 1) 1)) fun _ =>
 Option.bind (okN (Nat.ble (0 + 9) 9)) fun _ =>
 some (L8, M4)
set_option maxHeartbeats 4000000 in
set_option maxRecDepth 100000 in
theorem b_Ru_init {X : KX} {B : KB} {L : KLay} {M : KMem} {u : Nat} (G : Good X B RX4 cX4_init 1 rm_Ru_init) (hx : B.2.2.2 = true) (hin : (xH X).name = "<init>") (h : kOk (m_Ru_init u L M) (fun r => RV X B r.1 1 cX4_init rm_Ru_init r.2)) : KK X B L 1 0 0 M 0 [(0, .ref (B.1 + u))] [] := by
  unfold m_Ru_init at h
  refine k_aload_n G (dc d_Ru_init 0 rfl) 0 rfl rfl ?_
  refine k_objInit G (dc d_Ru_init 1 rfl) ob_RX4_3 obm rfl rfl ?_
  refine k_aload_n G (dc d_Ru_init 2 rfl) 0 rfl rfl ?_
  refine k_bipush G (dc d_Ru_init 3 rfl) cB_9 ?_
  obtain ⟨_, e1, h⟩ := kOk_b h
  obtain ⟨_, e2, h⟩ := kOk_b h
  refine k_newI G hx ar_int (dc d_Ru_init 4 rfl) (len := 9) (by decide) (by decide) rfl (okN_ok e1) (okN_ok e2) ?_
  obtain ⟨⟨o5, L3, M4⟩, e6, h⟩ := kOk_b h
  obtain ⟨e6a, e6b, e6c⟩ := some3 e6
  rw [e6c, e6b, e6a]
  obtain ⟨_, e7, h⟩ := kOk_b h
  refine k_putFR G kc4 (dc d_Ru_init 5 rfl) (ckO_ok e7).1 (ckO_ok e7).2 0 (by decide) rfl rfl hin rfl fl_RX4_9 rfl rfl ?_
  obtain ⟨L8, e9, h⟩ := kOk_b h
  rw [Option.some.inj e9]
  obtain ⟨_, e10, h⟩ := kOk_b h
  obtain ⟨_, e11, h⟩ := kOk_b h
  exact (kOk_s h) _ _ _ _ (okN_ok e10) (okN_ok e11) (dc d_Ru_init 6 rfl)
theorem c_Ru_init {l : Launch} {B : KB} {L L' : KLay} {M M' : KMem} {u : Nat} (hst : l.stackTraces = false) (hx : B.2.2.2 = true) (e : m_Ru_init u L M = some (L', M')) : CtrN l B yX4_init cX4_init 1 none rm_Ru_init [.ref (B.1 + u)] L M none L' M' :=
  mk_V rfl hst rfl (fun X hl G hin R => b_Ru_init G hx hin ⟨_, e, R⟩)
def I_Fl_init : List (Nat × Instr × Nat) := [(0, .aload_n 0, 1), (1, .invokespecial 3, 3), (4, .aload_n 0, 1), (5, .bipush 10, 2), (7, .newarray .int, 2), (9, .putfield 9, 3), (12, .return_, 1)]
set_option maxRecDepth 100000 in
theorem d_Fl_init : decA cX1_init I_Fl_init = true := by decide +kernel
abbrev rm_Fl_init : Room := ({ frames := 1, cells := 1, slots := 10, locals := 20 } : Room)
def m_Fl_init (u : Nat) (L : KLay) (M : KMem) : Option (KLay × KMem) :=
 Option.bind (okN (Nat.ble (0 + 1) 1)) fun _ =>
 Option.bind (okN (Nat.ble (0 + 10) 10)) fun _ =>
 Option.bind (some (L.1, lNew L 9 10, mNew L M)) fun (o5, L3, M4) =>
 Option.bind (ckO L3 u 1) fun _ =>
 Option.bind (some (lRef L3 u 0 o5)) fun L8 =>
 Option.bind (okN (Nat.ble (0 + 1) 1)) fun _ =>
 Option.bind (okN (Nat.ble (0 + 10) 10)) fun _ =>
 some (L8, M4)
set_option maxHeartbeats 4000000 in
set_option maxRecDepth 100000 in
theorem b_Fl_init {X : KX} {B : KB} {L : KLay} {M : KMem} {u : Nat} (G : Good X B RX1 cX1_init 1 rm_Fl_init) (hx : B.2.2.2 = true) (hin : (xH X).name = "<init>") (h : kOk (m_Fl_init u L M) (fun r => RV X B r.1 1 cX1_init rm_Fl_init r.2)) : KK X B L 1 0 0 M 0 [(0, .ref (B.1 + u))] [] := by
  unfold m_Fl_init at h
  refine k_aload_n G (dc d_Fl_init 0 rfl) 0 rfl rfl ?_
  refine k_objInit G (dc d_Fl_init 1 rfl) ob_RX1_3 obm rfl rfl ?_
  refine k_aload_n G (dc d_Fl_init 2 rfl) 0 rfl rfl ?_
  refine k_bipush G (dc d_Fl_init 3 rfl) cB_10 ?_
  obtain ⟨_, e1, h⟩ := kOk_b h
  obtain ⟨_, e2, h⟩ := kOk_b h
  refine k_newI G hx ar_int (dc d_Fl_init 4 rfl) (len := 10) (by decide) (by decide) rfl (okN_ok e1) (okN_ok e2) ?_
  obtain ⟨⟨o5, L3, M4⟩, e6, h⟩ := kOk_b h
  obtain ⟨e6a, e6b, e6c⟩ := some3 e6
  rw [e6c, e6b, e6a]
  obtain ⟨_, e7, h⟩ := kOk_b h
  refine k_putFR G kc1 (dc d_Fl_init 5 rfl) (ckO_ok e7).1 (ckO_ok e7).2 0 (by decide) rfl rfl hin rfl fl_RX1_9 rfl rfl ?_
  obtain ⟨L8, e9, h⟩ := kOk_b h
  rw [Option.some.inj e9]
  obtain ⟨_, e10, h⟩ := kOk_b h
  obtain ⟨_, e11, h⟩ := kOk_b h
  exact (kOk_s h) _ _ _ _ (okN_ok e10) (okN_ok e11) (dc d_Fl_init 6 rfl)
theorem c_Fl_init {l : Launch} {B : KB} {L L' : KLay} {M M' : KMem} {u : Nat} (hst : l.stackTraces = false) (hx : B.2.2.2 = true) (e : m_Fl_init u L M = some (L', M')) : CtrN l B yX1_init cX1_init 1 none rm_Fl_init [.ref (B.1 + u)] L M none L' M' :=
  mk_V rfl hst rfl (fun X hl G hin R => b_Fl_init G hx hin ⟨_, e, R⟩)
def I_Tx_init : List (Nat × Instr × Nat) := [(0, .aload_n 0, 1), (1, .invokespecial 3, 3), (4, .aload_n 0, 1), (5, .bipush 120, 2), (7, .newarray .int, 2), (9, .putfield 9, 3), (12, .return_, 1)]
set_option maxRecDepth 100000 in
theorem d_Tx_init : decA cX3_init I_Tx_init = true := by decide +kernel
abbrev rm_Tx_init : Room := ({ frames := 1, cells := 1, slots := 120, locals := 20 } : Room)
def m_Tx_init (u : Nat) (L : KLay) (M : KMem) : Option (KLay × KMem) :=
 Option.bind (okN (Nat.ble (0 + 1) 1)) fun _ =>
 Option.bind (okN (Nat.ble (0 + 120) 120)) fun _ =>
 Option.bind (some (L.1, lNew L 9 120, mNew L M)) fun (o5, L3, M4) =>
 Option.bind (ckO L3 u 3) fun _ =>
 Option.bind (some (lRef L3 u 0 o5)) fun L8 =>
 Option.bind (okN (Nat.ble (0 + 1) 1)) fun _ =>
 Option.bind (okN (Nat.ble (0 + 120) 120)) fun _ =>
 some (L8, M4)
set_option maxHeartbeats 4000000 in
set_option maxRecDepth 100000 in
theorem b_Tx_init {X : KX} {B : KB} {L : KLay} {M : KMem} {u : Nat} (G : Good X B RX3 cX3_init 1 rm_Tx_init) (hx : B.2.2.2 = true) (hin : (xH X).name = "<init>") (h : kOk (m_Tx_init u L M) (fun r => RV X B r.1 1 cX3_init rm_Tx_init r.2)) : KK X B L 1 0 0 M 0 [(0, .ref (B.1 + u))] [] := by
  unfold m_Tx_init at h
  refine k_aload_n G (dc d_Tx_init 0 rfl) 0 rfl rfl ?_
  refine k_objInit G (dc d_Tx_init 1 rfl) ob_RX3_3 obm rfl rfl ?_
  refine k_aload_n G (dc d_Tx_init 2 rfl) 0 rfl rfl ?_
  refine k_bipush G (dc d_Tx_init 3 rfl) cB_120 ?_
  obtain ⟨_, e1, h⟩ := kOk_b h
  obtain ⟨_, e2, h⟩ := kOk_b h
  refine k_newI G hx ar_int (dc d_Tx_init 4 rfl) (len := 120) (by decide) (by decide) rfl (okN_ok e1) (okN_ok e2) ?_
  obtain ⟨⟨o5, L3, M4⟩, e6, h⟩ := kOk_b h
  obtain ⟨e6a, e6b, e6c⟩ := some3 e6
  rw [e6c, e6b, e6a]
  obtain ⟨_, e7, h⟩ := kOk_b h
  refine k_putFR G kc3 (dc d_Tx_init 5 rfl) (ckO_ok e7).1 (ckO_ok e7).2 0 (by decide) rfl rfl hin rfl fl_RX3_9 rfl rfl ?_
  obtain ⟨L8, e9, h⟩ := kOk_b h
  rw [Option.some.inj e9]
  obtain ⟨_, e10, h⟩ := kOk_b h
  obtain ⟨_, e11, h⟩ := kOk_b h
  exact (kOk_s h) _ _ _ _ (okN_ok e10) (okN_ok e11) (dc d_Tx_init 6 rfl)
theorem c_Tx_init {l : Launch} {B : KB} {L L' : KLay} {M M' : KMem} {u : Nat} (hst : l.stackTraces = false) (hx : B.2.2.2 = true) (e : m_Tx_init u L M = some (L', M')) : CtrN l B yX3_init cX3_init 1 none rm_Tx_init [.ref (B.1 + u)] L M none L' M' :=
  mk_V rfl hst rfl (fun X hl G hin R => b_Tx_init G hx hin ⟨_, e, R⟩)
def I_St_init : List (Nat × Instr × Nat) := [(0, .aload_n 0, 1), (1, .invokespecial 3, 3), (4, .aload_n 0, 1), (5, .new 9, 3), (8, .dup, 1), (9, .invokespecial 11, 3), (12, .putfield 12, 3), (15, .aload_n 0, 1), (16, .bipush 8, 2), (18, .newarray .int, 2), (20, .putfield 18, 3), (23, .aload_n 0, 1), (24, .bipush 8, 2), (26, .newarray .int, 2), (28, .putfield 22, 3), (31, .aload_n 0, 1), (32, .bipush 8, 2), (34, .newarray .int, 2), (36, .putfield 25, 3), (39, .aload_n 0, 1), (40, .bipush 8, 2), (42, .newarray .int, 2), (44, .putfield 28, 3), (47, .aload_n 0, 1), (48, .bipush 8, 2), (50, .newarray .int, 2), (52, .putfield 31, 3), (55, .aload_n 0, 1), (56, .bipush 8, 2), (58, .newarray .int, 2), (60, .putfield 34, 3), (63, .aload_n 0, 1), (64, .iconst 4, 1), (65, .newarray .int, 2), (67, .putfield 37, 3), (70, .aload_n 0, 1), (71, .iconst 4, 1), (72, .newarray .int, 2), (74, .putfield 40, 3), (77, .aload_n 0, 1), (78, .iconst 2, 1), (79, .newarray .int, 2), (81, .putfield 43, 3), (84, .aload_n 0, 1), (85, .invokevirtual 46, 3), (88, .return_, 1)]
set_option maxRecDepth 100000 in
theorem d_St_init : decA cX7_init I_St_init = true := by decide +kernel
abbrev rm_St_init : Room := ({ frames := 2, cells := 11, slots := 110, locals := 43 } : Room)
def m_St_init (u : Nat) (L : KLay) (M : KMem) : Option (KLay × KMem) :=
 Option.bind (okN (Nat.ble (0 + 1) 11)) fun _ =>
 Option.bind (okN (Nat.ble (0 + 2) 110)) fun _ =>
 Option.bind (some (L.1, lNew L 0 0, mNew L M)) fun (o5, L3, M4) =>
 Option.bind (okN (Nat.ble ((0 + 1) + 1) 11)) fun _ =>
 Option.bind (okN (Nat.ble ((0 + 2) + 50) 110)) fun _ =>
 Option.bind (m_De_init o5 L3 M4) fun (L9, M10) =>
 Option.bind (ckO L9 u 5) fun _ =>
 Option.bind (some (lRef L9 u 0 o5)) fun L16 =>
 Option.bind (okN (Nat.ble (((0 + 1) + 1) + 1) 11)) fun _ =>
 Option.bind (okN (Nat.ble (((0 + 2) + 50) + 8) 110)) fun _ =>
 Option.bind (some (L16.1, lNew L16 9 8, mNew L16 M10)) fun (o22, L20, M21) =>
 Option.bind (ckO L20 u 5) fun _ =>
 Option.bind (some (lRef L20 u 2 o22)) fun L25 =>
 Option.bind (okN (Nat.ble ((((0 + 1) + 1) + 1) + 1) 11)) fun _ =>
 Option.bind (okN (Nat.ble ((((0 + 2) + 50) + 8) + 8) 110)) fun _ =>
 Option.bind (some (L25.1, lNew L25 9 8, mNew L25 M21)) fun (o31, L29, M30) =>
 Option.bind (ckO L29 u 5) fun _ =>
 Option.bind (some (lRef L29 u 3 o31)) fun L34 =>
 Option.bind (okN (Nat.ble (((((0 + 1) + 1) + 1) + 1) + 1) 11)) fun _ =>
 Option.bind (okN (Nat.ble (((((0 + 2) + 50) + 8) + 8) + 8) 110)) fun _ =>
 Option.bind (some (L34.1, lNew L34 9 8, mNew L34 M30)) fun (o40, L38, M39) =>
 Option.bind (ckO L38 u 5) fun _ =>
 Option.bind (some (lRef L38 u 4 o40)) fun L43 =>
 Option.bind (okN (Nat.ble ((((((0 + 1) + 1) + 1) + 1) + 1) + 1) 11)) fun _ =>
 Option.bind (okN (Nat.ble ((((((0 + 2) + 50) + 8) + 8) + 8) + 8) 110)) fun _ =>
 Option.bind (some (L43.1, lNew L43 9 8, mNew L43 M39)) fun (o49, L47, M48) =>
 Option.bind (ckO L47 u 5) fun _ =>
 Option.bind (some (lRef L47 u 5 o49)) fun L52 =>
 Option.bind (okN (Nat.ble (((((((0 + 1) + 1) + 1) + 1) + 1) + 1) + 1) 11)) fun _ =>
 Option.bind (okN (Nat.ble (((((((0 + 2) + 50) + 8) + 8) + 8) + 8) + 8) 110)) fun _ =>
 Option.bind (some (L52.1, lNew L52 9 8, mNew L52 M48)) fun (o58, L56, M57) =>
 Option.bind (ckO L56 u 5) fun _ =>
 Option.bind (some (lRef L56 u 6 o58)) fun L61 =>
 Option.bind (okN (Nat.ble ((((((((0 + 1) + 1) + 1) + 1) + 1) + 1) + 1) + 1) 11)) fun _ =>
 Option.bind (okN (Nat.ble ((((((((0 + 2) + 50) + 8) + 8) + 8) + 8) + 8) + 8) 110)) fun _ =>
 Option.bind (some (L61.1, lNew L61 9 8, mNew L61 M57)) fun (o67, L65, M66) =>
 Option.bind (ckO L65 u 5) fun _ =>
 Option.bind (some (lRef L65 u 7 o67)) fun L70 =>
 Option.bind (okN (Nat.ble (((((((((0 + 1) + 1) + 1) + 1) + 1) + 1) + 1) + 1) + 1) 11)) fun _ =>
 Option.bind (okN (Nat.ble (((((((((0 + 2) + 50) + 8) + 8) + 8) + 8) + 8) + 8) + 4) 110)) fun _ =>
 Option.bind (some (L70.1, lNew L70 9 4, mNew L70 M66)) fun (o76, L74, M75) =>
 Option.bind (ckO L74 u 5) fun _ =>
 Option.bind (some (lRef L74 u 8 o76)) fun L79 =>
 Option.bind (okN (Nat.ble ((((((((((0 + 1) + 1) + 1) + 1) + 1) + 1) + 1) + 1) + 1) + 1) 11)) fun _ =>
 Option.bind (okN (Nat.ble ((((((((((0 + 2) + 50) + 8) + 8) + 8) + 8) + 8) + 8) + 4) + 4) 110)) fun _ =>
 Option.bind (some (L79.1, lNew L79 9 4, mNew L79 M75)) fun (o85, L83, M84) =>
 Option.bind (ckO L83 u 5) fun _ =>
 Option.bind (some (lRef L83 u 9 o85)) fun L88 =>
 Option.bind (okN (Nat.ble (((((((((((0 + 1) + 1) + 1) + 1) + 1) + 1) + 1) + 1) + 1) + 1) + 1) 11)) fun _ =>
 Option.bind (okN (Nat.ble (((((((((((0 + 2) + 50) + 8) + 8) + 8) + 8) + 8) + 8) + 4) + 4) + 2) 110)) fun _ =>
 Option.bind (some (L88.1, lNew L88 9 2, mNew L88 M84)) fun (o94, L92, M93) =>
 Option.bind (ckO L92 u 5) fun _ =>
 Option.bind (some (lRef L92 u 10 o94)) fun L97 =>
 Option.bind (ckO L97 u 5) fun _ =>
 Option.bind (okN (okB L97 u stT)) fun _ =>
 Option.bind (m_St_clear u M93) fun M101 =>
 Option.bind (okN (Nat.ble ((((((((((((0 + 1) + 1) + 1) + 1) + 1) + 1) + 1) + 1) + 1) + 1) + 1) + 0) 11)) fun _ =>
 Option.bind (okN (Nat.ble ((((((((((((0 + 2) + 50) + 8) + 8) + 8) + 8) + 8) + 8) + 4) + 4) + 2) + 0) 110)) fun _ =>
 Option.bind (okN (Nat.ble (((((((((((0 + 1) + 1) + 1) + 1) + 1) + 1) + 1) + 1) + 1) + 1) + 1) 11)) fun _ =>
 Option.bind (okN (Nat.ble (((((((((((0 + 2) + 50) + 8) + 8) + 8) + 8) + 8) + 8) + 4) + 4) + 2) 110)) fun _ =>
 some (L97, M101)
set_option maxHeartbeats 4000000 in
set_option maxRecDepth 100000 in
theorem b_St_init {X : KX} {B : KB} {L : KLay} {M : KMem} {u : Nat} (G : Good X B RX7 cX7_init 1 rm_St_init) (hx : B.2.2.2 = true) (hin : (xH X).name = "<init>") (h : kOk (m_St_init u L M) (fun r => RV X B r.1 1 cX7_init rm_St_init r.2)) : KK X B L 1 0 0 M 0 [(0, .ref (B.1 + u))] [] := by
  unfold m_St_init at h
  refine k_aload_n G (dc d_St_init 0 rfl) 0 rfl rfl ?_
  refine k_objInit G (dc d_St_init 1 rfl) ob_RX7_3 obm rfl rfl ?_
  refine k_aload_n G (dc d_St_init 2 rfl) 0 rfl rfl ?_
  obtain ⟨_, e1, h⟩ := kOk_b h
  obtain ⟨_, e2, h⟩ := kOk_b h
  refine k_new G hx kc0 df_0 (dc d_St_init 3 rfl) cl_RX7_9 in_X0 ii_X0 (okN_ok e1) (okN_ok e2) ?_
  obtain ⟨⟨o5, L3, M4⟩, e6, h⟩ := kOk_b h
  obtain ⟨e6a, e6b, e6c⟩ := some3 e6
  rw [e6c, e6b, e6a]
  refine k_dup G (dc d_St_init 4 rfl) rfl ?_
  obtain ⟨_, e7, h⟩ := kOk_b h
  obtain ⟨_, e8, h⟩ := kOk_b h
  obtain ⟨⟨L9, M10⟩, e11, h⟩ := kOk_b h
  refine k_callIN G (dc d_St_init 5 rfl) mi_De_init mn_De_init mx_RX7_11 (c_De_init (gst G) hx e11) rfl rfl ⟨rfl, rfl⟩ rfl ⟨(okN_ok e7), (okN_ok e8)⟩ ?_
  show KK X B L9 1 ((0 + 1) + 1) ((0 + 2) + 50) M10 12 [(0, .ref (B.1 + u))] [.ref (B.1 + o5), .ref (B.1 + u)]
  obtain ⟨_, e15, h⟩ := kOk_b h
  refine k_putFR G kc5 (dc d_St_init 6 rfl) (ckO_ok e15).1 (ckO_ok e15).2 0 (by decide) rfl rfl hin rfl fl_RX7_12 rfl rfl ?_
  obtain ⟨L16, e17, h⟩ := kOk_b h
  rw [Option.some.inj e17]
  refine k_aload_n G (dc d_St_init 7 rfl) 0 rfl rfl ?_
  refine k_bipush G (dc d_St_init 8 rfl) cB_8 ?_
  obtain ⟨_, e18, h⟩ := kOk_b h
  obtain ⟨_, e19, h⟩ := kOk_b h
  refine k_newI G hx ar_int (dc d_St_init 9 rfl) (len := 8) (by decide) (by decide) rfl (okN_ok e18) (okN_ok e19) ?_
  obtain ⟨⟨o22, L20, M21⟩, e23, h⟩ := kOk_b h
  obtain ⟨e23a, e23b, e23c⟩ := some3 e23
  rw [e23c, e23b, e23a]
  obtain ⟨_, e24, h⟩ := kOk_b h
  refine k_putFR G kc5 (dc d_St_init 10 rfl) (ckO_ok e24).1 (ckO_ok e24).2 2 (by decide) rfl rfl hin rfl fl_RX7_18 rfl rfl ?_
  obtain ⟨L25, e26, h⟩ := kOk_b h
  rw [Option.some.inj e26]
  refine k_aload_n G (dc d_St_init 11 rfl) 0 rfl rfl ?_
  refine k_bipush G (dc d_St_init 12 rfl) cB_8 ?_
  obtain ⟨_, e27, h⟩ := kOk_b h
  obtain ⟨_, e28, h⟩ := kOk_b h
  refine k_newI G hx ar_int (dc d_St_init 13 rfl) (len := 8) (by decide) (by decide) rfl (okN_ok e27) (okN_ok e28) ?_
  obtain ⟨⟨o31, L29, M30⟩, e32, h⟩ := kOk_b h
  obtain ⟨e32a, e32b, e32c⟩ := some3 e32
  rw [e32c, e32b, e32a]
  obtain ⟨_, e33, h⟩ := kOk_b h
  refine k_putFR G kc5 (dc d_St_init 14 rfl) (ckO_ok e33).1 (ckO_ok e33).2 3 (by decide) rfl rfl hin rfl fl_RX7_22 rfl rfl ?_
  obtain ⟨L34, e35, h⟩ := kOk_b h
  rw [Option.some.inj e35]
  refine k_aload_n G (dc d_St_init 15 rfl) 0 rfl rfl ?_
  refine k_bipush G (dc d_St_init 16 rfl) cB_8 ?_
  obtain ⟨_, e36, h⟩ := kOk_b h
  obtain ⟨_, e37, h⟩ := kOk_b h
  refine k_newI G hx ar_int (dc d_St_init 17 rfl) (len := 8) (by decide) (by decide) rfl (okN_ok e36) (okN_ok e37) ?_
  obtain ⟨⟨o40, L38, M39⟩, e41, h⟩ := kOk_b h
  obtain ⟨e41a, e41b, e41c⟩ := some3 e41
  rw [e41c, e41b, e41a]
  obtain ⟨_, e42, h⟩ := kOk_b h
  refine k_putFR G kc5 (dc d_St_init 18 rfl) (ckO_ok e42).1 (ckO_ok e42).2 4 (by decide) rfl rfl hin rfl fl_RX7_25 rfl rfl ?_
  obtain ⟨L43, e44, h⟩ := kOk_b h
  rw [Option.some.inj e44]
  refine k_aload_n G (dc d_St_init 19 rfl) 0 rfl rfl ?_
  refine k_bipush G (dc d_St_init 20 rfl) cB_8 ?_
  obtain ⟨_, e45, h⟩ := kOk_b h
  obtain ⟨_, e46, h⟩ := kOk_b h
  refine k_newI G hx ar_int (dc d_St_init 21 rfl) (len := 8) (by decide) (by decide) rfl (okN_ok e45) (okN_ok e46) ?_
  obtain ⟨⟨o49, L47, M48⟩, e50, h⟩ := kOk_b h
  obtain ⟨e50a, e50b, e50c⟩ := some3 e50
  rw [e50c, e50b, e50a]
  obtain ⟨_, e51, h⟩ := kOk_b h
  refine k_putFR G kc5 (dc d_St_init 22 rfl) (ckO_ok e51).1 (ckO_ok e51).2 5 (by decide) rfl rfl hin rfl fl_RX7_28 rfl rfl ?_
  obtain ⟨L52, e53, h⟩ := kOk_b h
  rw [Option.some.inj e53]
  refine k_aload_n G (dc d_St_init 23 rfl) 0 rfl rfl ?_
  refine k_bipush G (dc d_St_init 24 rfl) cB_8 ?_
  obtain ⟨_, e54, h⟩ := kOk_b h
  obtain ⟨_, e55, h⟩ := kOk_b h
  refine k_newI G hx ar_int (dc d_St_init 25 rfl) (len := 8) (by decide) (by decide) rfl (okN_ok e54) (okN_ok e55) ?_
  obtain ⟨⟨o58, L56, M57⟩, e59, h⟩ := kOk_b h
  obtain ⟨e59a, e59b, e59c⟩ := some3 e59
  rw [e59c, e59b, e59a]
  obtain ⟨_, e60, h⟩ := kOk_b h
  refine k_putFR G kc5 (dc d_St_init 26 rfl) (ckO_ok e60).1 (ckO_ok e60).2 6 (by decide) rfl rfl hin rfl fl_RX7_31 rfl rfl ?_
  obtain ⟨L61, e62, h⟩ := kOk_b h
  rw [Option.some.inj e62]
  refine k_aload_n G (dc d_St_init 27 rfl) 0 rfl rfl ?_
  refine k_bipush G (dc d_St_init 28 rfl) cB_8 ?_
  obtain ⟨_, e63, h⟩ := kOk_b h
  obtain ⟨_, e64, h⟩ := kOk_b h
  refine k_newI G hx ar_int (dc d_St_init 29 rfl) (len := 8) (by decide) (by decide) rfl (okN_ok e63) (okN_ok e64) ?_
  obtain ⟨⟨o67, L65, M66⟩, e68, h⟩ := kOk_b h
  obtain ⟨e68a, e68b, e68c⟩ := some3 e68
  rw [e68c, e68b, e68a]
  obtain ⟨_, e69, h⟩ := kOk_b h
  refine k_putFR G kc5 (dc d_St_init 30 rfl) (ckO_ok e69).1 (ckO_ok e69).2 7 (by decide) rfl rfl hin rfl fl_RX7_34 rfl rfl ?_
  obtain ⟨L70, e71, h⟩ := kOk_b h
  rw [Option.some.inj e71]
  refine k_aload_n G (dc d_St_init 31 rfl) 0 rfl rfl ?_
  refine k_iconst G (dc d_St_init 32 rfl) cI_4 ?_
  obtain ⟨_, e72, h⟩ := kOk_b h
  obtain ⟨_, e73, h⟩ := kOk_b h
  refine k_newI G hx ar_int (dc d_St_init 33 rfl) (len := 4) (by decide) (by decide) rfl (okN_ok e72) (okN_ok e73) ?_
  obtain ⟨⟨o76, L74, M75⟩, e77, h⟩ := kOk_b h
  obtain ⟨e77a, e77b, e77c⟩ := some3 e77
  rw [e77c, e77b, e77a]
  obtain ⟨_, e78, h⟩ := kOk_b h
  refine k_putFR G kc5 (dc d_St_init 34 rfl) (ckO_ok e78).1 (ckO_ok e78).2 8 (by decide) rfl rfl hin rfl fl_RX7_37 rfl rfl ?_
  obtain ⟨L79, e80, h⟩ := kOk_b h
  rw [Option.some.inj e80]
  refine k_aload_n G (dc d_St_init 35 rfl) 0 rfl rfl ?_
  refine k_iconst G (dc d_St_init 36 rfl) cI_4 ?_
  obtain ⟨_, e81, h⟩ := kOk_b h
  obtain ⟨_, e82, h⟩ := kOk_b h
  refine k_newI G hx ar_int (dc d_St_init 37 rfl) (len := 4) (by decide) (by decide) rfl (okN_ok e81) (okN_ok e82) ?_
  obtain ⟨⟨o85, L83, M84⟩, e86, h⟩ := kOk_b h
  obtain ⟨e86a, e86b, e86c⟩ := some3 e86
  rw [e86c, e86b, e86a]
  obtain ⟨_, e87, h⟩ := kOk_b h
  refine k_putFR G kc5 (dc d_St_init 38 rfl) (ckO_ok e87).1 (ckO_ok e87).2 9 (by decide) rfl rfl hin rfl fl_RX7_40 rfl rfl ?_
  obtain ⟨L88, e89, h⟩ := kOk_b h
  rw [Option.some.inj e89]
  refine k_aload_n G (dc d_St_init 39 rfl) 0 rfl rfl ?_
  refine k_iconst G (dc d_St_init 40 rfl) cI_2 ?_
  obtain ⟨_, e90, h⟩ := kOk_b h
  obtain ⟨_, e91, h⟩ := kOk_b h
  refine k_newI G hx ar_int (dc d_St_init 41 rfl) (len := 2) (by decide) (by decide) rfl (okN_ok e90) (okN_ok e91) ?_
  obtain ⟨⟨o94, L92, M93⟩, e95, h⟩ := kOk_b h
  obtain ⟨e95a, e95b, e95c⟩ := some3 e95
  rw [e95c, e95b, e95a]
  obtain ⟨_, e96, h⟩ := kOk_b h
  refine k_putFR G kc5 (dc d_St_init 42 rfl) (ckO_ok e96).1 (ckO_ok e96).2 10 (by decide) rfl rfl hin rfl fl_RX7_43 rfl rfl ?_
  obtain ⟨L97, e98, h⟩ := kOk_b h
  rw [Option.some.inj e98]
  refine k_aload_n G (dc d_St_init 43 rfl) 0 rfl rfl ?_
  obtain ⟨_, e99, h⟩ := kOk_b h
  obtain ⟨_, e100, h⟩ := kOk_b h
  obtain ⟨M101, e102, h⟩ := kOk_b h
  obtain ⟨_, e103, h⟩ := kOk_b h
  obtain ⟨_, e104, h⟩ := kOk_b h
  refine k_cVV G (dc d_St_init 44 rfl) kc5 (ckO_ok e99).1 (ckO_ok e99).2 mi_St_clear mv_St_clear rfl ml_RX7_46 (c_St_clear (gst G) (okB_ok (okN_ok e100)) e102) rfl rfl ⟨rfl, rfl⟩ rfl ⟨(okN_ok e103), (okN_ok e104)⟩ ⟨rfl, rfl⟩ ?_
  obtain ⟨_, e105, h⟩ := kOk_b h
  obtain ⟨_, e106, h⟩ := kOk_b h
  exact (kOk_s h) _ _ _ _ (okN_ok e105) (okN_ok e106) (dc d_St_init 45 rfl)
theorem c_St_init {l : Launch} {B : KB} {L L' : KLay} {M M' : KMem} {u : Nat} (hst : l.stackTraces = false) (hx : B.2.2.2 = true) (e : m_St_init u L M = some (L', M')) : CtrN l B yX7_init cX7_init 1 none rm_St_init [.ref (B.1 + u)] L M none L' M' :=
  mk_V rfl hst rfl (fun X hl G hin R => b_St_init G hx hin ⟨_, e, R⟩)
def I_Tw_init : List (Nat × Instr × Nat) := [(0, .aload_n 0, 1), (1, .invokespecial 3, 3), (4, .aload_n 0, 1), (5, .new 9, 3), (8, .dup, 1), (9, .invokespecial 11, 3), (12, .putfield 12, 3), (15, .aload_n 0, 1), (16, .new 18, 3), (19, .dup, 1), (20, .invokespecial 20, 3), (23, .putfield 21, 3), (26, .aload_n 0, 1), (27, .new 25, 3), (30, .dup, 1), (31, .invokespecial 27, 3), (34, .putfield 28, 3), (37, .aload_n 0, 1), (38, .bipush 8, 2), (40, .newarray .int, 2), (42, .putfield 32, 3), (45, .return_, 1)]
set_option maxRecDepth 100000 in
theorem d_Tw_init : decA cX8_init I_Tw_init = true := by decide +kernel
abbrev rm_Tw_init : Room := ({ frames := 3, cells := 17, slots := 154, locals := 63 } : Room)
def m_Tw_init (u : Nat) (L : KLay) (M : KMem) : Option (KLay × KMem) :=
 Option.bind (okN (Nat.ble (0 + 1) 17)) fun _ =>
 Option.bind (okN (Nat.ble (0 + 15) 154)) fun _ =>
 Option.bind (some (L.1, lNew L 5 0, mNew L M)) fun (o5, L3, M4) =>
 Option.bind (okN (Nat.ble ((0 + 1) + 11) 17)) fun _ =>
 Option.bind (okN (Nat.ble ((0 + 15) + 110) 154)) fun _ =>
 Option.bind (m_St_init o5 L3 M4) fun (L9, M10) =>
 Option.bind (ckO L9 u 6) fun _ =>
 Option.bind (some (lRef L9 u 0 o5)) fun L16 =>
 Option.bind (okN (Nat.ble (((0 + 1) + 11) + 1) 17)) fun _ =>
 Option.bind (okN (Nat.ble (((0 + 15) + 110) + 1) 154)) fun _ =>
 Option.bind (some (L16.1, lNew L16 4 0, mNew L16 M10)) fun (o22, L20, M21) =>
 Option.bind (okN (Nat.ble ((((0 + 1) + 11) + 1) + 1) 17)) fun _ =>
 Option.bind (okN (Nat.ble ((((0 + 15) + 110) + 1) + 9) 154)) fun _ =>
 Option.bind (m_Ru_init o22 L20 M21) fun (L26, M27) =>
 Option.bind (ckO L26 u 6) fun _ =>
 Option.bind (some (lRef L26 u 1 o22)) fun L33 =>
 Option.bind (okN (Nat.ble (((((0 + 1) + 11) + 1) + 1) + 1) 17)) fun _ =>
 Option.bind (okN (Nat.ble (((((0 + 15) + 110) + 1) + 9) + 1) 154)) fun _ =>
 Option.bind (some (L33.1, lNew L33 1 0, mNew L33 M27)) fun (o39, L37, M38) =>
 Option.bind (okN (Nat.ble ((((((0 + 1) + 11) + 1) + 1) + 1) + 1) 17)) fun _ =>
 Option.bind (okN (Nat.ble ((((((0 + 15) + 110) + 1) + 9) + 1) + 10) 154)) fun _ =>
 Option.bind (m_Fl_init o39 L37 M38) fun (L43, M44) =>
 Option.bind (ckO L43 u 6) fun _ =>
 Option.bind (some (lRef L43 u 2 o39)) fun L50 =>
 Option.bind (okN (Nat.ble (((((((0 + 1) + 11) + 1) + 1) + 1) + 1) + 1) 17)) fun _ =>
 Option.bind (okN (Nat.ble (((((((0 + 15) + 110) + 1) + 9) + 1) + 10) + 8) 154)) fun _ =>
 Option.bind (some (L50.1, lNew L50 9 8, mNew L50 M44)) fun (o56, L54, M55) =>
 Option.bind (ckO L54 u 6) fun _ =>
 Option.bind (some (lRef L54 u 3 o56)) fun L59 =>
 Option.bind (okN (Nat.ble (((((((0 + 1) + 11) + 1) + 1) + 1) + 1) + 1) 17)) fun _ =>
 Option.bind (okN (Nat.ble (((((((0 + 15) + 110) + 1) + 9) + 1) + 10) + 8) 154)) fun _ =>
 some (L59, M55)
set_option maxHeartbeats 4000000 in
set_option maxRecDepth 100000 in
theorem b_Tw_init {X : KX} {B : KB} {L : KLay} {M : KMem} {u : Nat} (G : Good X B RX8 cX8_init 1 rm_Tw_init) (hx : B.2.2.2 = true) (hin : (xH X).name = "<init>") (h : kOk (m_Tw_init u L M) (fun r => RV X B r.1 1 cX8_init rm_Tw_init r.2)) : KK X B L 1 0 0 M 0 [(0, .ref (B.1 + u))] [] := by
  unfold m_Tw_init at h
  refine k_aload_n G (dc d_Tw_init 0 rfl) 0 rfl rfl ?_
  refine k_objInit G (dc d_Tw_init 1 rfl) ob_RX8_3 obm rfl rfl ?_
  refine k_aload_n G (dc d_Tw_init 2 rfl) 0 rfl rfl ?_
  obtain ⟨_, e1, h⟩ := kOk_b h
  obtain ⟨_, e2, h⟩ := kOk_b h
  refine k_new G hx kc5 df_5 (dc d_Tw_init 3 rfl) cl_RX8_9 in_X7 ii_X7 (okN_ok e1) (okN_ok e2) ?_
  obtain ⟨⟨o5, L3, M4⟩, e6, h⟩ := kOk_b h
  obtain ⟨e6a, e6b, e6c⟩ := some3 e6
  rw [e6c, e6b, e6a]
  refine k_dup G (dc d_Tw_init 4 rfl) rfl ?_
  obtain ⟨_, e7, h⟩ := kOk_b h
  obtain ⟨_, e8, h⟩ := kOk_b h
  obtain ⟨⟨L9, M10⟩, e11, h⟩ := kOk_b h
  refine k_callI G (dc d_Tw_init 5 rfl) mi_St_init mn_St_init ml_RX8_11 (c_St_init (gst G) hx e11) rfl rfl ⟨rfl, rfl⟩ rfl ⟨(okN_ok e7), (okN_ok e8)⟩ ?_
  show KK X B L9 1 ((0 + 1) + 11) ((0 + 15) + 110) M10 12 [(0, .ref (B.1 + u))] [.ref (B.1 + o5), .ref (B.1 + u)]
  obtain ⟨_, e15, h⟩ := kOk_b h
  refine k_putFR G kc6 (dc d_Tw_init 6 rfl) (ckO_ok e15).1 (ckO_ok e15).2 0 (by decide) rfl rfl hin rfl fl_RX8_12 rfl rfl ?_
  obtain ⟨L16, e17, h⟩ := kOk_b h
  rw [Option.some.inj e17]
  refine k_aload_n G (dc d_Tw_init 7 rfl) 0 rfl rfl ?_
  obtain ⟨_, e18, h⟩ := kOk_b h
  obtain ⟨_, e19, h⟩ := kOk_b h
  refine k_new G hx kc4 df_4 (dc d_Tw_init 8 rfl) cl_RX8_18 in_X4 ii_X4 (okN_ok e18) (okN_ok e19) ?_
  obtain ⟨⟨o22, L20, M21⟩, e23, h⟩ := kOk_b h
  obtain ⟨e23a, e23b, e23c⟩ := some3 e23
  rw [e23c, e23b, e23a]
  refine k_dup G (dc d_Tw_init 9 rfl) rfl ?_
  obtain ⟨_, e24, h⟩ := kOk_b h
  obtain ⟨_, e25, h⟩ := kOk_b h
  obtain ⟨⟨L26, M27⟩, e28, h⟩ := kOk_b h
  refine k_callIN G (dc d_Tw_init 10 rfl) mi_Ru_init mn_Ru_init mx_RX8_20 (c_Ru_init (gst G) hx e28) rfl rfl ⟨rfl, rfl⟩ rfl ⟨(okN_ok e24), (okN_ok e25)⟩ ?_
  show KK X B L26 1 ((((0 + 1) + 11) + 1) + 1) ((((0 + 15) + 110) + 1) + 9) M27 23 [(0, .ref (B.1 + u))] [.ref (B.1 + o22), .ref (B.1 + u)]
  obtain ⟨_, e32, h⟩ := kOk_b h
  refine k_putFR G kc6 (dc d_Tw_init 11 rfl) (ckO_ok e32).1 (ckO_ok e32).2 1 (by decide) rfl rfl hin rfl fl_RX8_21 rfl rfl ?_
  obtain ⟨L33, e34, h⟩ := kOk_b h
  rw [Option.some.inj e34]
  refine k_aload_n G (dc d_Tw_init 12 rfl) 0 rfl rfl ?_
  obtain ⟨_, e35, h⟩ := kOk_b h
  obtain ⟨_, e36, h⟩ := kOk_b h
  refine k_new G hx kc1 df_1 (dc d_Tw_init 13 rfl) cl_RX8_25 in_X1 ii_X1 (okN_ok e35) (okN_ok e36) ?_
  obtain ⟨⟨o39, L37, M38⟩, e40, h⟩ := kOk_b h
  obtain ⟨e40a, e40b, e40c⟩ := some3 e40
  rw [e40c, e40b, e40a]
  refine k_dup G (dc d_Tw_init 14 rfl) rfl ?_
  obtain ⟨_, e41, h⟩ := kOk_b h
  obtain ⟨_, e42, h⟩ := kOk_b h
  obtain ⟨⟨L43, M44⟩, e45, h⟩ := kOk_b h
  refine k_callIN G (dc d_Tw_init 15 rfl) mi_Fl_init mn_Fl_init mx_RX8_27 (c_Fl_init (gst G) hx e45) rfl rfl ⟨rfl, rfl⟩ rfl ⟨(okN_ok e41), (okN_ok e42)⟩ ?_
  show KK X B L43 1 ((((((0 + 1) + 11) + 1) + 1) + 1) + 1) ((((((0 + 15) + 110) + 1) + 9) + 1) + 10) M44 34 [(0, .ref (B.1 + u))] [.ref (B.1 + o39), .ref (B.1 + u)]
  obtain ⟨_, e49, h⟩ := kOk_b h
  refine k_putFR G kc6 (dc d_Tw_init 16 rfl) (ckO_ok e49).1 (ckO_ok e49).2 2 (by decide) rfl rfl hin rfl fl_RX8_28 rfl rfl ?_
  obtain ⟨L50, e51, h⟩ := kOk_b h
  rw [Option.some.inj e51]
  refine k_aload_n G (dc d_Tw_init 17 rfl) 0 rfl rfl ?_
  refine k_bipush G (dc d_Tw_init 18 rfl) cB_8 ?_
  obtain ⟨_, e52, h⟩ := kOk_b h
  obtain ⟨_, e53, h⟩ := kOk_b h
  refine k_newI G hx ar_int (dc d_Tw_init 19 rfl) (len := 8) (by decide) (by decide) rfl (okN_ok e52) (okN_ok e53) ?_
  obtain ⟨⟨o56, L54, M55⟩, e57, h⟩ := kOk_b h
  obtain ⟨e57a, e57b, e57c⟩ := some3 e57
  rw [e57c, e57b, e57a]
  obtain ⟨_, e58, h⟩ := kOk_b h
  refine k_putFR G kc6 (dc d_Tw_init 20 rfl) (ckO_ok e58).1 (ckO_ok e58).2 3 (by decide) rfl rfl hin rfl fl_RX8_32 rfl rfl ?_
  obtain ⟨L59, e60, h⟩ := kOk_b h
  rw [Option.some.inj e60]
  obtain ⟨_, e61, h⟩ := kOk_b h
  obtain ⟨_, e62, h⟩ := kOk_b h
  exact (kOk_s h) _ _ _ _ (okN_ok e61) (okN_ok e62) (dc d_Tw_init 21 rfl)
theorem c_Tw_init {l : Launch} {B : KB} {L L' : KLay} {M M' : KMem} {u : Nat} (hst : l.stackTraces = false) (hx : B.2.2.2 = true) (e : m_Tw_init u L M = some (L', M')) : CtrN l B yX8_init cX8_init 1 none rm_Tw_init [.ref (B.1 + u)] L M none L' M' :=
  mk_V rfl hst rfl (fun X hl G hin R => b_Tw_init G hx hin ⟨_, e, R⟩)
def I_Me_init : List (Nat × Instr × Nat) := [(0, .aload_n 0, 1), (1, .invokespecial 3, 3), (4, .aload_n 0, 1), (5, .bipush 14, 2), (7, .anewarray 9, 3), (10, .putfield 11, 3), (13, .aload_n 0, 1), (14, .iconst 2, 1), (15, .anewarray 9, 3), (18, .putfield 17, 3), (21, .aload_n 0, 1), (22, .iconst 2, 1), (23, .newarray .boolean, 2), (25, .putfield 20, 3), (28, .iconst 0, 1), (29, .istore_n 1, 1), (30, .iload_n 1, 1), (31, .bipush 14, 2), (33, .if_icmp .ge 22, 3), (36, .aload_n 0, 1), (37, .getfield 11, 3), (40, .iload_n 1, 1), (41, .new 9, 3), (44, .dup, 1), (45, .invokespecial 24, 3), (48, .aastore, 1), (49, .iinc 1 1, 3), (52, .goto (-22), 3), (55, .iconst 0, 1), (56, .istore_n 1, 1), (57, .iload_n 1, 1), (58, .iconst 2, 1), (59, .if_icmp .ge 22, 3), (62, .aload_n 0, 1), (63, .getfield 17, 3), (66, .iload_n 1, 1), (67, .new 9, 3), (70, .dup, 1), (71, .invokespecial 24, 3), (74, .aastore, 1), (75, .iinc 1 1, 3), (78, .goto (-21), 3), (81, .return_, 1)]
set_option maxRecDepth 100000 in
theorem d_Me_init : decA cX2_init I_Me_init = true := by decide +kernel
abbrev rm_Me_init : Room := ({ frames := 3, cells := 195, slots := 2018, locals := 63 } : Room)
def m_Me_init_l30 (u : Nat) : (Int32 × KLay × KMem × Nat × Nat) → Option ((Int32 × KLay × KMem × Nat × Nat) ⊕ (KLay × KMem × Nat × Nat)) := fun (v28, L29, M30, n31, n32) =>
 if 14 ≤ v28 then
 (some (.inr (L29, M30, n31, n32)))
 else
 (Option.bind (ckO L29 u 2) fun _ =>
 Option.bind (L29.2.2.2 u 0) fun o35 =>
 Option.bind (okN (Nat.ble (n31 + 1) 195)) fun _ =>
 Option.bind (okN (Nat.ble (n32 + 15) 2018)) fun _ =>
 Option.bind (some (L29.1, lNew L29 5 0, mNew L29 M30)) fun (o41, L39, M40) =>
 Option.bind (okN (Nat.ble ((n31 + 1) + 11) 195)) fun _ =>
 Option.bind (okN (Nat.ble ((n32 + 15) + 110) 2018)) fun _ =>
 Option.bind (m_St_init o41 L39 M40) fun (L45, M46) =>
 Option.bind (ckO L45 o35 11) fun _ =>
 Option.bind (ckO L45 o41 5) fun _ =>
 Option.bind (ckI (L45.2.2.1 o35) v28) fun j53 =>
 Option.bind (some (lRef L45 o35 j53 o41)) fun L55 =>
 some (.inl (v28 + 1, L55, M46, ((n31 + 1) + 11), ((n32 + 15) + 110))))
def m_Me_init_l57 (u : Nat) : (Int32 × KLay × KMem × Nat × Nat) → Option ((Int32 × KLay × KMem × Nat × Nat) ⊕ (KLay × KMem × Nat × Nat)) := fun (v61, L62, M63, n64, n65) =>
 if 2 ≤ v61 then
 (some (.inr (L62, M63, n64, n65)))
 else
 (Option.bind (ckO L62 u 2) fun _ =>
 Option.bind (L62.2.2.2 u 3) fun o68 =>
 Option.bind (okN (Nat.ble (n64 + 1) 195)) fun _ =>
 Option.bind (okN (Nat.ble (n65 + 15) 2018)) fun _ =>
 Option.bind (some (L62.1, lNew L62 5 0, mNew L62 M63)) fun (o74, L72, M73) =>
 Option.bind (okN (Nat.ble ((n64 + 1) + 11) 195)) fun _ =>
 Option.bind (okN (Nat.ble ((n65 + 15) + 110) 2018)) fun _ =>
 Option.bind (m_St_init o74 L72 M73) fun (L78, M79) =>
 Option.bind (ckO L78 o68 11) fun _ =>
 Option.bind (ckO L78 o74 5) fun _ =>
 Option.bind (ckI (L78.2.2.1 o68) v61) fun j86 =>
 Option.bind (some (lRef L78 o68 j86 o74)) fun L88 =>
 some (.inl (v61 + 1, L88, M79, ((n64 + 1) + 11), ((n65 + 15) + 110))))
def m_Me_init (u : Nat) (L : KLay) (M : KMem) : Option (KLay × KMem) :=
 Option.bind (okN (Nat.ble (0 + 1) 195)) fun _ =>
 Option.bind (okN (Nat.ble (0 + 14) 2018)) fun _ =>
 Option.bind (some (L.1, lNew L 11 14, mNew L M)) fun (o5, L3, M4) =>
 Option.bind (ckO L3 u 2) fun _ =>
 Option.bind (some (lRef L3 u 0 o5)) fun L8 =>
 Option.bind (okN (Nat.ble ((0 + 1) + 1) 195)) fun _ =>
 Option.bind (okN (Nat.ble ((0 + 14) + 2) 2018)) fun _ =>
 Option.bind (some (L8.1, lNew L8 11 2, mNew L8 M4)) fun (o14, L12, M13) =>
 Option.bind (ckO L12 u 2) fun _ =>
 Option.bind (some (lRef L12 u 3 o14)) fun L17 =>
 Option.bind (okN (Nat.ble (((0 + 1) + 1) + 1) 195)) fun _ =>
 Option.bind (okN (Nat.ble (((0 + 14) + 2) + 2) 2018)) fun _ =>
 Option.bind (some (L17.1, lNew L17 10 2, mNew L17 M13)) fun (o23, L21, M22) =>
 Option.bind (ckO L21 u 2) fun _ =>
 Option.bind (some (lRef L21 u 4 o23)) fun L26 =>
 Option.bind (kLp (m_Me_init_l30 u) kFU (0, L26, M22, (((0 + 1) + 1) + 1), (((0 + 14) + 2) + 2))) fun (L57, M58, n59, n60) =>
 Option.bind (kLp (m_Me_init_l57 u) kFU (0, L57, M58, n59, n60)) fun (L90, M91, n92, n93) =>
 Option.bind (okN (Nat.ble n92 195)) fun _ =>
 Option.bind (okN (Nat.ble n93 2018)) fun _ =>
 some (L90, M91)
set_option maxHeartbeats 4000000 in
set_option maxRecDepth 100000 in
theorem b_Me_init {X : KX} {B : KB} {L : KLay} {M : KMem} {u : Nat} (G : Good X B RX2 cX2_init 2 rm_Me_init) (hx : B.2.2.2 = true) (hin : (xH X).name = "<init>") (h : kOk (m_Me_init u L M) (fun r => RV X B r.1 2 cX2_init rm_Me_init r.2)) : KK X B L 2 0 0 M 0 [(0, .ref (B.1 + u))] [] := by
  unfold m_Me_init at h
  refine k_aload_n G (dc d_Me_init 0 rfl) 0 rfl rfl ?_
  refine k_objInit G (dc d_Me_init 1 rfl) ob_RX2_3 obm rfl rfl ?_
  refine k_aload_n G (dc d_Me_init 2 rfl) 0 rfl rfl ?_
  refine k_bipush G (dc d_Me_init 3 rfl) cB_14 ?_
  obtain ⟨_, e1, h⟩ := kOk_b h
  obtain ⟨_, e2, h⟩ := kOk_b h
  refine k_newQ G hx cl_RX2_9 (dc d_Me_init 4 rfl) (len := 14) (by decide) (by decide) rfl (okN_ok e1) (okN_ok e2) ?_
  obtain ⟨⟨o5, L3, M4⟩, e6, h⟩ := kOk_b h
  obtain ⟨e6a, e6b, e6c⟩ := some3 e6
  rw [e6c, e6b, e6a]
  obtain ⟨_, e7, h⟩ := kOk_b h
  refine k_putFR G kc2 (dc d_Me_init 5 rfl) (ckO_ok e7).1 (ckO_ok e7).2 0 (by decide) rfl rfl hin rfl fl_RX2_11 rfl rfl ?_
  obtain ⟨L8, e9, h⟩ := kOk_b h
  rw [Option.some.inj e9]
  refine k_aload_n G (dc d_Me_init 6 rfl) 0 rfl rfl ?_
  refine k_iconst G (dc d_Me_init 7 rfl) cI_2 ?_
  obtain ⟨_, e10, h⟩ := kOk_b h
  obtain ⟨_, e11, h⟩ := kOk_b h
  refine k_newQ G hx cl_RX2_9 (dc d_Me_init 8 rfl) (len := 2) (by decide) (by decide) rfl (okN_ok e10) (okN_ok e11) ?_
  obtain ⟨⟨o14, L12, M13⟩, e15, h⟩ := kOk_b h
  obtain ⟨e15a, e15b, e15c⟩ := some3 e15
  rw [e15c, e15b, e15a]
  obtain ⟨_, e16, h⟩ := kOk_b h
  refine k_putFR G kc2 (dc d_Me_init 9 rfl) (ckO_ok e16).1 (ckO_ok e16).2 3 (by decide) rfl rfl hin rfl fl_RX2_17 rfl rfl ?_
  obtain ⟨L17, e18, h⟩ := kOk_b h
  rw [Option.some.inj e18]
  refine k_aload_n G (dc d_Me_init 10 rfl) 0 rfl rfl ?_
  refine k_iconst G (dc d_Me_init 11 rfl) cI_2 ?_
  obtain ⟨_, e19, h⟩ := kOk_b h
  obtain ⟨_, e20, h⟩ := kOk_b h
  refine k_newZ G hx ar_boolean (dc d_Me_init 12 rfl) (len := 2) (by decide) (by decide) rfl (okN_ok e19) (okN_ok e20) ?_
  obtain ⟨⟨o23, L21, M22⟩, e24, h⟩ := kOk_b h
  obtain ⟨e24a, e24b, e24c⟩ := some3 e24
  rw [e24c, e24b, e24a]
  obtain ⟨_, e25, h⟩ := kOk_b h
  refine k_putFR G kc2 (dc d_Me_init 13 rfl) (ckO_ok e25).1 (ckO_ok e25).2 4 (by decide) rfl rfl hin rfl fl_RX2_20 rfl rfl ?_
  obtain ⟨L26, e27, h⟩ := kOk_b h
  rw [Option.some.inj e27]
  refine k_iconst G (dc d_Me_init 14 rfl) cI_0 ?_
  refine k_istore_n G (dc d_Me_init 15 rfl) (ls' := [(1, .int 0), (0, .ref (B.1 + u))]) rfl rfl rfl ?_
  refine kJ h (fun r98 => KK X B r98.1 2 r98.2.2.1 r98.2.2.2 r98.2.1 55 [(0, .ref (B.1 + u))] []) (fun r98 h => ?_) (fun h => ?_)
  · obtain ⟨L57, M58, n59, n60⟩ := r98
    show KK X B L57 2 n59 n60 M58 55 [(0, .ref (B.1 + u))] []
    refine k_iconst G (dc d_Me_init 28 rfl) cI_0 ?_
    refine k_istore_n G (dc d_Me_init 29 rfl) (ls' := [(1, .int 0), (0, .ref (B.1 + u))]) rfl rfl rfl ?_
    refine kJ h (fun r96 => KK X B r96.1 2 r96.2.2.1 r96.2.2.2 r96.2.1 81 [] []) (fun r96 h => ?_) (fun h => ?_)
    · obtain ⟨L90, M91, n92, n93⟩ := r96
      show KK X B L90 2 n92 n93 M91 81 [] []
      obtain ⟨_, e94, h⟩ := kOk_b h
      obtain ⟨_, e95, h⟩ := kOk_b h
      exact (kOk_s h) _ _ _ _ (okN_ok e94) (okN_ok e95) (dc d_Me_init 42 rfl)
    · refine k_sub [1, 0] rfl ?_
      refine kLp_ok (P := fun s97 => KK X B s97.2.1 2 s97.2.2.2.1 s97.2.2.2.2 s97.2.2.1 57 [(0, .ref (B.1 + u)), (1, .int s97.1)] []) (fun s97 h => ?_) kFU _ h
      obtain ⟨v61, L62, M63, n64, n65⟩ := s97
      unfold m_Me_init_l57 at h
      show KK X B L62 2 n64 n65 M63 57 [(0, .ref (B.1 + u)), (1, .int v61)] []
      refine k_iload_n G (dc d_Me_init 30 rfl) 1 rfl rfl ?_
      refine k_iconst G (dc d_Me_init 31 rfl) cI_2 ?_
      refine k_icmp_ge G (dc d_Me_init 32 rfl) (tgt := 81) rfl (fun c66 => ?_) (fun c66 => ?_)
      · replace h := kOk_p c66 h
        refine k_sub [] rfl ?_
        have h9 := kOk_s h
        exact h9
      · replace h := kOk_n c66 h
        refine k_aload_n G (dc d_Me_init 33 rfl) 0 rfl rfl ?_
        obtain ⟨_, e67, h⟩ := kOk_b h
        obtain ⟨o68, e69, h⟩ := kOk_b h
        refine k_getR G kc2 (dc d_Me_init 34 rfl) (ckO_ok e67).1 (ckO_ok e67).2 3 (by decide) rfl fl_RX2_17 o68 e69 ?_
        refine k_iload_n G (dc d_Me_init 35 rfl) 1 rfl rfl ?_
        obtain ⟨_, e70, h⟩ := kOk_b h
        obtain ⟨_, e71, h⟩ := kOk_b h
        refine k_new G hx kc5 df_5 (dc d_Me_init 36 rfl) cl_RX2_9 in_X7 ii_X7 (okN_ok e70) (okN_ok e71) ?_
        obtain ⟨⟨o74, L72, M73⟩, e75, h⟩ := kOk_b h
        obtain ⟨e75a, e75b, e75c⟩ := some3 e75
        rw [e75c, e75b, e75a]
        refine k_dup G (dc d_Me_init 37 rfl) rfl ?_
        obtain ⟨_, e76, h⟩ := kOk_b h
        obtain ⟨_, e77, h⟩ := kOk_b h
        obtain ⟨⟨L78, M79⟩, e80, h⟩ := kOk_b h
        refine k_callI G (dc d_Me_init 38 rfl) mi_St_init mn_St_init ml_RX2_24 (c_St_init (gst G) hx e80) rfl rfl ⟨rfl, rfl⟩ rfl ⟨(okN_ok e76), (okN_ok e77)⟩ ?_
        show KK X B L78 2 ((n64 + 1) + 11) ((n65 + 15) + 110) M79 74 [(0, .ref (B.1 + u)), (1, .int v61)] [.ref (B.1 + o74), .int v61, .ref (B.1 + o68)]
        obtain ⟨_, e84, h⟩ := kOk_b h
        obtain ⟨_, e85, h⟩ := kOk_b h
        obtain ⟨j86, e87, h⟩ := kOk_b h
        refine k_qst G (dc d_Me_init 39 rfl) (ckO_ok e84).1 (ckO_ok e84).2 rfl e87 (ckO_ok e85).1 (ckO_ok e85).2 ?_
        obtain ⟨L88, e89, h⟩ := kOk_b h
        rw [Option.some.inj e89]
        refine k_iinc G (dc d_Me_init 40 rfl) (ls' := [(1, .int (v61 + 1)), (0, .ref (B.1 + u))]) 1 rfl cI_1 rfl rfl ?_
        refine k_goto G (dc d_Me_init 41 rfl) (tgt := 57) rfl ?_
        refine k_sub [1, 0] rfl ?_
        have h9 := kOk_s h
        exact h9
  · refine k_sub [1, 0] rfl ?_
    refine kLp_ok (P := fun s99 => KK X B s99.2.1 2 s99.2.2.2.1 s99.2.2.2.2 s99.2.2.1 30 [(0, .ref (B.1 + u)), (1, .int s99.1)] []) (fun s99 h => ?_) kFU _ h
    obtain ⟨v28, L29, M30, n31, n32⟩ := s99
    unfold m_Me_init_l30 at h
    show KK X B L29 2 n31 n32 M30 30 [(0, .ref (B.1 + u)), (1, .int v28)] []
    refine k_iload_n G (dc d_Me_init 16 rfl) 1 rfl rfl ?_
    refine k_bipush G (dc d_Me_init 17 rfl) cB_14 ?_
    refine k_icmp_ge G (dc d_Me_init 18 rfl) (tgt := 55) rfl (fun c33 => ?_) (fun c33 => ?_)
    · replace h := kOk_p c33 h
      refine k_sub [0] rfl ?_
      have h9 := kOk_s h
      exact h9
    · replace h := kOk_n c33 h
      refine k_aload_n G (dc d_Me_init 19 rfl) 0 rfl rfl ?_
      obtain ⟨_, e34, h⟩ := kOk_b h
      obtain ⟨o35, e36, h⟩ := kOk_b h
      refine k_getR G kc2 (dc d_Me_init 20 rfl) (ckO_ok e34).1 (ckO_ok e34).2 0 (by decide) rfl fl_RX2_11 o35 e36 ?_
      refine k_iload_n G (dc d_Me_init 21 rfl) 1 rfl rfl ?_
      obtain ⟨_, e37, h⟩ := kOk_b h
      obtain ⟨_, e38, h⟩ := kOk_b h
      refine k_new G hx kc5 df_5 (dc d_Me_init 22 rfl) cl_RX2_9 in_X7 ii_X7 (okN_ok e37) (okN_ok e38) ?_
      obtain ⟨⟨o41, L39, M40⟩, e42, h⟩ := kOk_b h
      obtain ⟨e42a, e42b, e42c⟩ := some3 e42
      rw [e42c, e42b, e42a]
      refine k_dup G (dc d_Me_init 23 rfl) rfl ?_
      obtain ⟨_, e43, h⟩ := kOk_b h
      obtain ⟨_, e44, h⟩ := kOk_b h
      obtain ⟨⟨L45, M46⟩, e47, h⟩ := kOk_b h
      refine k_callI G (dc d_Me_init 24 rfl) mi_St_init mn_St_init ml_RX2_24 (c_St_init (gst G) hx e47) rfl rfl ⟨rfl, rfl⟩ rfl ⟨(okN_ok e43), (okN_ok e44)⟩ ?_
      show KK X B L45 2 ((n31 + 1) + 11) ((n32 + 15) + 110) M46 48 [(0, .ref (B.1 + u)), (1, .int v28)] [.ref (B.1 + o41), .int v28, .ref (B.1 + o35)]
      obtain ⟨_, e51, h⟩ := kOk_b h
      obtain ⟨_, e52, h⟩ := kOk_b h
      obtain ⟨j53, e54, h⟩ := kOk_b h
      refine k_qst G (dc d_Me_init 25 rfl) (ckO_ok e51).1 (ckO_ok e51).2 rfl e54 (ckO_ok e52).1 (ckO_ok e52).2 ?_
      obtain ⟨L55, e56, h⟩ := kOk_b h
      rw [Option.some.inj e56]
      refine k_iinc G (dc d_Me_init 26 rfl) (ls' := [(1, .int (v28 + 1)), (0, .ref (B.1 + u))]) 1 rfl cI_1 rfl rfl ?_
      refine k_goto G (dc d_Me_init 27 rfl) (tgt := 30) rfl ?_
      refine k_sub [1, 0] rfl ?_
      have h9 := kOk_s h
      exact h9
theorem c_Me_init {l : Launch} {B : KB} {L L' : KLay} {M M' : KMem} {u : Nat} (hst : l.stackTraces = false) (hx : B.2.2.2 = true) (e : m_Me_init u L M = some (L', M')) : CtrN l B yX2_init cX2_init 2 none rm_Me_init [.ref (B.1 + u)] L M none L' M' :=
  mk_V rfl hst rfl (fun X hl G hin R => b_Me_init G hx hin ⟨_, e, R⟩)
def I_SR_init : List (Nat × Instr × Nat) := [(0, .aload_n 0, 1), (1, .invokespecial 1, 3), (4, .aload_n 0, 1), (5, .new 7, 3), (8, .dup, 1), (9, .invokespecial 9, 3), (12, .putfield 10, 3), (15, .aload_n 0, 1), (16, .new 16, 3), (19, .dup, 1), (20, .invokespecial 18, 3), (23, .putfield 19, 3), (26, .aload_n 0, 1), (27, .new 16, 3), (30, .dup, 1), (31, .invokespecial 18, 3), (34, .putfield 23, 3), (37, .aload_n 0, 1), (38, .new 26, 3), (41, .dup, 1), (42, .invokespecial 28, 3), (45, .putfield 29, 3), (48, .return_, 1)]
set_option maxRecDepth 100000 in
theorem d_SR_init : decA cX10_init I_SR_init = true := by decide +kernel
abbrev rm_SR_init : Room := ({ frames := 4, cells := 234, slots := 2465, locals := 84 } : Room)
def m_SR_init (u : Nat) (L : KLay) (M : KMem) : Option (KLay × KMem) :=
 Option.bind (okN (Nat.ble (0 + 1) 234)) fun _ =>
 Option.bind (okN (Nat.ble (0 + 6) 2465)) fun _ =>
 Option.bind (some (L.1, lNew L 3 0, mNew L M)) fun (o5, L3, M4) =>
 Option.bind (okN (Nat.ble ((0 + 1) + 1) 234)) fun _ =>
 Option.bind (okN (Nat.ble ((0 + 6) + 120) 2465)) fun _ =>
 Option.bind (m_Tx_init o5 L3 M4) fun (L9, M10) =>
 Option.bind (ckO L9 u 7) fun _ =>
 Option.bind (some (lRef L9 u 0 o5)) fun L16 =>
 Option.bind (okN (Nat.ble (((0 + 1) + 1) + 1) 234)) fun _ =>
 Option.bind (okN (Nat.ble (((0 + 6) + 120) + 4) 2465)) fun _ =>
 Option.bind (some (L16.1, lNew L16 6 0, mNew L16 M10)) fun (o22, L20, M21) =>
 Option.bind (okN (Nat.ble ((((0 + 1) + 1) + 1) + 17) 234)) fun _ =>
 Option.bind (okN (Nat.ble ((((0 + 6) + 120) + 4) + 154) 2465)) fun _ =>
 Option.bind (m_Tw_init o22 L20 M21) fun (L26, M27) =>
 Option.bind (ckO L26 u 7) fun _ =>
 Option.bind (some (lRef L26 u 1 o22)) fun L33 =>
 Option.bind (okN (Nat.ble (((((0 + 1) + 1) + 1) + 17) + 1) 234)) fun _ =>
 Option.bind (okN (Nat.ble (((((0 + 6) + 120) + 4) + 154) + 4) 2465)) fun _ =>
 Option.bind (some (L33.1, lNew L33 6 0, mNew L33 M27)) fun (o39, L37, M38) =>
 Option.bind (okN (Nat.ble ((((((0 + 1) + 1) + 1) + 17) + 1) + 17) 234)) fun _ =>
 Option.bind (okN (Nat.ble ((((((0 + 6) + 120) + 4) + 154) + 4) + 154) 2465)) fun _ =>
 Option.bind (m_Tw_init o39 L37 M38) fun (L43, M44) =>
 Option.bind (ckO L43 u 7) fun _ =>
 Option.bind (some (lRef L43 u 2 o39)) fun L50 =>
 Option.bind (okN (Nat.ble (((((((0 + 1) + 1) + 1) + 17) + 1) + 17) + 1) 234)) fun _ =>
 Option.bind (okN (Nat.ble (((((((0 + 6) + 120) + 4) + 154) + 4) + 154) + 5) 2465)) fun _ =>
 Option.bind (some (L50.1, lNew L50 2 0, mNew L50 M44)) fun (o56, L54, M55) =>
 Option.bind (okN (Nat.ble ((((((((0 + 1) + 1) + 1) + 17) + 1) + 17) + 1) + 195) 234)) fun _ =>
 Option.bind (okN (Nat.ble ((((((((0 + 6) + 120) + 4) + 154) + 4) + 154) + 5) + 2018) 2465)) fun _ =>
 Option.bind (m_Me_init o56 L54 M55) fun (L60, M61) =>
 Option.bind (ckO L60 u 7) fun _ =>
 Option.bind (some (lRef L60 u 3 o56)) fun L67 =>
 Option.bind (okN (Nat.ble ((((((((0 + 1) + 1) + 1) + 17) + 1) + 17) + 1) + 195) 234)) fun _ =>
 Option.bind (okN (Nat.ble ((((((((0 + 6) + 120) + 4) + 154) + 4) + 154) + 5) + 2018) 2465)) fun _ =>
 some (L67, M61)
set_option maxHeartbeats 4000000 in
set_option maxRecDepth 100000 in
theorem b_SR_init {X : KX} {B : KB} {L : KLay} {M : KMem} {u : Nat} (G : Good X B RX10 cX10_init 1 rm_SR_init) (hx : B.2.2.2 = true) (hin : (xH X).name = "<init>") (h : kOk (m_SR_init u L M) (fun r => RV X B r.1 1 cX10_init rm_SR_init r.2)) : KK X B L 1 0 0 M 0 [(0, .ref (B.1 + u))] [] := by
  unfold m_SR_init at h
  refine k_aload_n G (dc d_SR_init 0 rfl) 0 rfl rfl ?_
  refine k_objInit G (dc d_SR_init 1 rfl) ob_RX10_1 obm rfl rfl ?_
  refine k_aload_n G (dc d_SR_init 2 rfl) 0 rfl rfl ?_
  obtain ⟨_, e1, h⟩ := kOk_b h
  obtain ⟨_, e2, h⟩ := kOk_b h
  refine k_new G hx kc3 df_3 (dc d_SR_init 3 rfl) cl_RX10_7 in_X3 ii_X3 (okN_ok e1) (okN_ok e2) ?_
  obtain ⟨⟨o5, L3, M4⟩, e6, h⟩ := kOk_b h
  obtain ⟨e6a, e6b, e6c⟩ := some3 e6
  rw [e6c, e6b, e6a]
  refine k_dup G (dc d_SR_init 4 rfl) rfl ?_
  obtain ⟨_, e7, h⟩ := kOk_b h
  obtain ⟨_, e8, h⟩ := kOk_b h
  obtain ⟨⟨L9, M10⟩, e11, h⟩ := kOk_b h
  refine k_callIN G (dc d_SR_init 5 rfl) mi_Tx_init mn_Tx_init mx_RX10_9 (c_Tx_init (gst G) hx e11) rfl rfl ⟨rfl, rfl⟩ rfl ⟨(okN_ok e7), (okN_ok e8)⟩ ?_
  show KK X B L9 1 ((0 + 1) + 1) ((0 + 6) + 120) M10 12 [(0, .ref (B.1 + u))] [.ref (B.1 + o5), .ref (B.1 + u)]
  obtain ⟨_, e15, h⟩ := kOk_b h
  refine k_putFR G kc7 (dc d_SR_init 6 rfl) (ckO_ok e15).1 (ckO_ok e15).2 0 (by decide) rfl rfl hin rfl fl_RX10_10 rfl rfl ?_
  obtain ⟨L16, e17, h⟩ := kOk_b h
  rw [Option.some.inj e17]
  refine k_aload_n G (dc d_SR_init 7 rfl) 0 rfl rfl ?_
  obtain ⟨_, e18, h⟩ := kOk_b h
  obtain ⟨_, e19, h⟩ := kOk_b h
  refine k_new G hx kc6 df_6 (dc d_SR_init 8 rfl) cl_RX10_16 in_X8 ii_X8 (okN_ok e18) (okN_ok e19) ?_
  obtain ⟨⟨o22, L20, M21⟩, e23, h⟩ := kOk_b h
  obtain ⟨e23a, e23b, e23c⟩ := some3 e23
  rw [e23c, e23b, e23a]
  refine k_dup G (dc d_SR_init 9 rfl) rfl ?_
  obtain ⟨_, e24, h⟩ := kOk_b h
  obtain ⟨_, e25, h⟩ := kOk_b h
  obtain ⟨⟨L26, M27⟩, e28, h⟩ := kOk_b h
  refine k_callIN G (dc d_SR_init 10 rfl) mi_Tw_init mn_Tw_init mx_RX10_18 (c_Tw_init (gst G) hx e28) rfl rfl ⟨rfl, rfl⟩ rfl ⟨(okN_ok e24), (okN_ok e25)⟩ ?_
  show KK X B L26 1 ((((0 + 1) + 1) + 1) + 17) ((((0 + 6) + 120) + 4) + 154) M27 23 [(0, .ref (B.1 + u))] [.ref (B.1 + o22), .ref (B.1 + u)]
  obtain ⟨_, e32, h⟩ := kOk_b h
  refine k_putFR G kc7 (dc d_SR_init 11 rfl) (ckO_ok e32).1 (ckO_ok e32).2 1 (by decide) rfl rfl hin rfl fl_RX10_19 rfl rfl ?_
  obtain ⟨L33, e34, h⟩ := kOk_b h
  rw [Option.some.inj e34]
  refine k_aload_n G (dc d_SR_init 12 rfl) 0 rfl rfl ?_
  obtain ⟨_, e35, h⟩ := kOk_b h
  obtain ⟨_, e36, h⟩ := kOk_b h
  refine k_new G hx kc6 df_6 (dc d_SR_init 13 rfl) cl_RX10_16 in_X8 ii_X8 (okN_ok e35) (okN_ok e36) ?_
  obtain ⟨⟨o39, L37, M38⟩, e40, h⟩ := kOk_b h
  obtain ⟨e40a, e40b, e40c⟩ := some3 e40
  rw [e40c, e40b, e40a]
  refine k_dup G (dc d_SR_init 14 rfl) rfl ?_
  obtain ⟨_, e41, h⟩ := kOk_b h
  obtain ⟨_, e42, h⟩ := kOk_b h
  obtain ⟨⟨L43, M44⟩, e45, h⟩ := kOk_b h
  refine k_callIN G (dc d_SR_init 15 rfl) mi_Tw_init mn_Tw_init mx_RX10_18 (c_Tw_init (gst G) hx e45) rfl rfl ⟨rfl, rfl⟩ rfl ⟨(okN_ok e41), (okN_ok e42)⟩ ?_
  show KK X B L43 1 ((((((0 + 1) + 1) + 1) + 17) + 1) + 17) ((((((0 + 6) + 120) + 4) + 154) + 4) + 154) M44 34 [(0, .ref (B.1 + u))] [.ref (B.1 + o39), .ref (B.1 + u)]
  obtain ⟨_, e49, h⟩ := kOk_b h
  refine k_putFR G kc7 (dc d_SR_init 16 rfl) (ckO_ok e49).1 (ckO_ok e49).2 2 (by decide) rfl rfl hin rfl fl_RX10_23 rfl rfl ?_
  obtain ⟨L50, e51, h⟩ := kOk_b h
  rw [Option.some.inj e51]
  refine k_aload_n G (dc d_SR_init 17 rfl) 0 rfl rfl ?_
  obtain ⟨_, e52, h⟩ := kOk_b h
  obtain ⟨_, e53, h⟩ := kOk_b h
  refine k_new G hx kc2 df_2 (dc d_SR_init 18 rfl) cl_RX10_26 in_X2 ii_X2 (okN_ok e52) (okN_ok e53) ?_
  obtain ⟨⟨o56, L54, M55⟩, e57, h⟩ := kOk_b h
  obtain ⟨e57a, e57b, e57c⟩ := some3 e57
  rw [e57c, e57b, e57a]
  refine k_dup G (dc d_SR_init 19 rfl) rfl ?_
  obtain ⟨_, e58, h⟩ := kOk_b h
  obtain ⟨_, e59, h⟩ := kOk_b h
  obtain ⟨⟨L60, M61⟩, e62, h⟩ := kOk_b h
  refine k_callI G (dc d_SR_init 20 rfl) mi_Me_init mn_Me_init ml_RX10_28 (c_Me_init (gst G) hx e62) rfl rfl ⟨rfl, rfl⟩ rfl ⟨(okN_ok e58), (okN_ok e59)⟩ ?_
  show KK X B L60 1 ((((((((0 + 1) + 1) + 1) + 17) + 1) + 17) + 1) + 195) ((((((((0 + 6) + 120) + 4) + 154) + 4) + 154) + 5) + 2018) M61 45 [(0, .ref (B.1 + u))] [.ref (B.1 + o56), .ref (B.1 + u)]
  obtain ⟨_, e66, h⟩ := kOk_b h
  refine k_putFR G kc7 (dc d_SR_init 21 rfl) (ckO_ok e66).1 (ckO_ok e66).2 3 (by decide) rfl rfl hin rfl fl_RX10_29 rfl rfl ?_
  obtain ⟨L67, e68, h⟩ := kOk_b h
  rw [Option.some.inj e68]
  obtain ⟨_, e69, h⟩ := kOk_b h
  obtain ⟨_, e70, h⟩ := kOk_b h
  exact (kOk_s h) _ _ _ _ (okN_ok e69) (okN_ok e70) (dc d_SR_init 22 rfl)
theorem c_SR_init {l : Launch} {B : KB} {L L' : KLay} {M M' : KMem} {u : Nat} (hst : l.stackTraces = false) (hx : B.2.2.2 = true) (e : m_SR_init u L M = some (L', M')) : CtrN l B yX10_init cX10_init 1 none rm_SR_init [.ref (B.1 + u)] L M none L' M' :=
  mk_V rfl hst rfl (fun X hl G hin R => b_SR_init G hx hin ⟨_, e, R⟩)
