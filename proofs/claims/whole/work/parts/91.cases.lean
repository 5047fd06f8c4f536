/-! laid by wip/whole/lawgen2.py: THE LAW'S CASES -/
/-- a call of a static method with an exception table -/
theorem k_cSH {X : KX} {B : KB} {L : KLay} {own : String} {cc : ByteArray} {nL : Nat} {rm : Room} {cn sn : Nat} {M : KMem} {pc : Nat} {ls : List (Nat × Value)} {st rest : List Value} (G : Good X B own cc nL rm) {idx : Nat} (d : decode cc pc = .ok (.invokestatic idx, 3)) {y : MethodName} {bytes : ByteArray} {maxL n : Nat} {hh : List (Nat × Nat × Nat × Nat)} {rmc : Room} (m : MIH y bytes maxL hh n) (ms : Cond.static y ∈ GT) (hl : Cond.methodLink own idx y ∈ GT) {As : List Value} {v : Int32} {L' : KLay} {M' : KMem}
    (hM : CtrH (xL X) B y bytes maxL hh rmc As L M (some (.int v)) L' M') (hn : As.length = n) (hs : st = As.reverse ++ rest) (hR : Nat.ble (rmc.frames + 1) rm.frames = true ∧ Nat.ble (8 + (maxL + 11) + rmc.locals) rm.locals = true) (hr : Nat.ble ((rest.map fun v => v.category).sum) 8 = true) (hcs : Nat.ble (cn + rmc.cells) rm.cells = true ∧ Nat.ble (sn + rmc.slots) rm.slots = true)
    (kk : KK X B L' nL (cn + rmc.cells) (sn + rmc.slots) M' (pc + 3) ls (.int v :: rest)) : KK X B L nL cn sn M pc ls st := by
  intro H locs la hW hS hla
  have hrm : xR X = rm := G.2.2.2.2.2.2.2.2.2.2
  have hts := G.2.2.2.2.1
  obtain ⟨h1, h2, h3, h4⟩ := m
  refine k_run hS hla (vx_runSW (good_fix G) hM ⟨⟨rfl, rfl, by rw [hrm]; exact Nat.le_of_ble_eq_true hR.1, by rw [hrm]; exact Nat.le_of_ble_eq_true hR.2, fun w hw a' U hU => ?_, List.mem_cons_self⟩, hts _ h1, hts _ h2, h3, fun sig h => ?_, hts _ hl, hts _ ms⟩ ⟨kpc_blind, fun U hU hWm => ⟨rfl, good_kwo G hW hS hU hWm⟩⟩ rfl hn hla.1 hs (lv_room (Nat.le_of_ble_eq_true hr)) d (by rw [hrm]; exact ⟨Nat.le_of_ble_eq_true hcs.1, Nat.le_of_ble_eq_true hcs.2⟩)) kk
  · rcases List.mem_cons.mp hw with rfl | hw
    · exact word_at hU (gt_good h1) (hts _ h1)
    · exact word_at hU (gt_good hw) (hts _ hw)
  · rw [h] at h4
    exact (Option.some.inj h4).symm
/-- the law's frame, its script -/
def LG (X : KX) (B : KB) (L : KLay) (b Ln : Nat) (xs : Nat → Int32) : Prop := Good X B RL code 7 room_1 ∧ B.2.2.2 = false ∧ (okL L 0 srT ∧ okL L 235 moT ∧ arL L 244 12 1) ∧ va_X b Ln xs (xS X) (xS X).heap ∧ b < (xS X).heap.size ∧ b < B.1
theorem k_sld {X : KX} {B : KB} {L : KLay} {cn sn : Nat} {M : KMem} {pc b Ln : Nat} {xs : Nat → Int32} {ls : List (Nat × Value)} {st : List Value} (H : LG X B L b Ln xs) {i : Int32} (hin : vp_in i Ln) (d : decode code pc = .ok (.iaload, 1)) (kk : KK X B L 7 cn sn M (pc + 1) ls (.int (xs i.toNatClampNeg) :: st)) : KK X B L 7 cn sn M pc ls (.int i :: .ref b :: st) :=
  fun H0 locs la hW hS hla => va_sld H.1.1 H.1.2.1 H.2.2.2.1 H.2.2.2.2.1 (Nat.not_le.mpr H.2.2.2.2.2) hS hin d (kk H0 locs la hW hS hla)
theorem k_slen {X : KX} {B : KB} {L : KLay} {cn sn : Nat} {M : KMem} {pc b Ln : Nat} {xs : Nat → Int32} {ls : List (Nat × Value)} {st : List Value} (H : LG X B L b Ln xs) (d : decode code pc = .ok (.arraylength, 1)) (kk : KK X B L 7 cn sn M (pc + 1) ls (.int (nI Ln) :: st)) : KK X B L 7 cn sn M pc ls (.ref b :: st) :=
  fun H0 locs la hW hS hla => va_slen H.1.1 H.1.2.1 H.2.2.2.1 H.2.2.2.2.1 (Nat.not_le.mpr H.2.2.2.2.2) hS d (kk H0 locs la hW hS hla)
theorem k_wide {X : KX} {B : KB} {L : KLay} {nL cn sn k n : Nat} {M : KMem} {pc : Nat} {ls : List (Nat × Value)} {st : List Value} (h1 : cn ≤ k) (h2 : sn ≤ n) (kk : KK X B L nL k n M pc ls st) : KK X B L nL cn sn M pc ls st :=
  fun H0 locs la hW hS hla => W.widen h1 h2 (kk H0 locs la hW hS hla)
abbrev ls5 (B : KB) (b : Nat) (i : Int32) : List (Nat × Value) := [(0, .ref b), (1, .ref (B.1 + 0)), (2, .ref (B.1 + 235)), (3, .ref (B.1 + 244)), (4, .int i)]
theorem blC {cn k : Nat} (h : cn + 100 ≤ 601024) (hk : Nat.ble k 100 = true) : Nat.ble (cn + k) room_1.cells = true := Nat.ble_eq_true_of_le (by have := Nat.le_of_ble_eq_true hk; show cn + k ≤ 601024; omega)
theorem blS {sn k : Nat} (h : sn + 1000 ≤ 7293034) (hk : Nat.ble k 1000 = true) : Nat.ble (sn + k) room_1.slots = true := Nat.ble_eq_true_of_le (by have := Nat.le_of_ble_eq_true hk; show sn + k ≤ 7293034; omega)
theorem blC2 {cn a k : Nat} (h : cn + 100 ≤ 601024) (hk : Nat.ble (a + k) 100 = true) : Nat.ble (cn + a + k) room_1.cells = true := by rw [Nat.add_assoc]; exact blC h hk
theorem blS2 {sn a k : Nat} (h : sn + 1000 ≤ 7293034) (hk : Nat.ble (a + k) 1000 = true) : Nat.ble (sn + a + k) room_1.slots = true := by rw [Nat.add_assoc]; exact blS h hk
theorem leC {cn a N : Nat} (h : Nat.ble a N = true) : cn + a ≤ cn + N := Nat.add_le_add_left (Nat.le_of_ble_eq_true h) _
/-- both sides of a wrapped call -/
theorem pub_w {M : KMem} {xs : List String} {oc : Option ((String ⊕ Int32) × KMem)} {om : KMem → Option (Int32 × KMem)} (h : Pub M xs oc om) (hx : xs.length ≤ 3) : ∃ r M1 k M2 b M3, oc = some (r, M1) ∧ wk xs r M1 k M2 ∧ om M2 = some (b, M3) ∧ M3 235 0 = k ∧ (k = 0 → M3 244 0 = b) ∧ GI M3 := by
  obtain ⟨r, M1, e1, f1, hom⟩ := h
  cases r with
  | inr v =>
    obtain ⟨b, M3, e2, f2, ⟨t0, hv⟩, g⟩ := hom (kup M1 244 0 v) (frS.up rfl)
    refine ⟨_, M1, 0, kup M1 244 0 v, b, M3, e1, ⟨rfl, rfl⟩, e2, t0, fun _ => ?_, g⟩
    rw [f2 244 (by omega), kup_s, hv]
  | inl E =>
    obtain ⟨b, M3, e2, f2, ⟨i, hi, t0⟩, g⟩ := hom M1 rfl
    refine ⟨_, M1, nI (i + 1), M1, b, M3, e1, ⟨⟨i, hi, rfl⟩, rfl⟩, e2, t0, fun hk => ?_, g⟩
    have h6 := (List.getElem?_eq_some_iff.mp hi).1
    have := (nI_eq (a := i + 1) (b := 0) (by omega) (by omega)).mp hk
    omega
theorem wm_some {M M1 : KMem} {o : Option (String ⊕ Int32)} {r : String ⊕ Int32} (h : wm M o = some (r, M1)) : o = some r ∧ M1 = M := by
  unfold wm at h
  cases o with
  | none => cases h
  | some r' => cases h; exact ⟨rfl, rfl⟩
theorem lgc_self (x : Int64) : lg_cmp x x = 0 := by
  unfold lg_cmp
  rw [if_neg (fun z => Int64.lt_irrefl z), if_pos rfl]

def I_law_h : List (Nat × Instr × Nat) := [(0, .new 8, 3), (3, .dup, 1), (4, .invokespecial 93, 3), (7, .astore_n 1, 1), (8, .new 94, 3), (11, .dup, 1), (12, .invokespecial 96, 3), (15, .astore_n 2, 1), (16, .iconst 1, 1), (17, .newarray .long, 2), (19, .astore_n 3, 1), (20, .iconst 0, 1), (21, .istore 4, 2), (23, .iload 4, 2), (25, .aload_n 0, 1), (26, .arraylength, 1), (27, .iconst 5, 1), (28, .isub, 1), (29, .if_icmp .gt 1740, 3), (32, .aload_n 0, 1), (33, .iload 4, 2), (35, .iaload, 1), (36, .bipush 31, 2), (38, .iand, 1), (39, .tableswitch 1724 0 26 #[121, 177, 190, 203, 247, 303, 371, 439, 507, 575, 631, 699, 791, 847, 903, 959, 1015, 1083, 1127, 1219, 1232, 1300, 1356, 1412, 1512, 1612, 1668], 121)]
set_option maxRecDepth 100000 in
theorem d_law_h : decA code I_law_h = true := by decide +kernel
def I_law_0 : List (Nat × Instr × Nat) := [(160, .aload_n 1, 1), (161, .aload_n 0, 1), (162, .iload 4, 2), (164, .iconst 1, 1), (165, .iadd, 1), (166, .iaload, 1), (167, .aload_n 3, 1), (168, .invokestatic 97, 3), (171, .istore 5, 2), (173, .aload_n 2, 1), (174, .aload_n 0, 1), (175, .iload 4, 2), (177, .iconst 1, 1), (178, .iadd, 1), (179, .iaload, 1), (180, .invokevirtual 102, 3), (183, .istore 6, 2), (185, .aload_n 2, 1), (186, .invokevirtual 103, 3), (189, .iload 5, 2), (191, .if_icmp .eq 5, 3), (194, .iconst 0, 1), (195, .ireturn, 1), (196, .iload 5, 2), (198, .ifCond .ne 15, 3), (201, .aload_n 3, 1), (202, .iconst 0, 1), (203, .laload, 1), (204, .iload 6, 2), (206, .i2l, 1), (207, .lcmp, 1), (208, .ifCond .eq 5, 3), (211, .iconst 0, 1), (212, .ireturn, 1), (213, .goto 1550, 3)]
set_option maxRecDepth 100000 in
theorem d_law_0 : decA code I_law_0 = true := by decide +kernel
def I_law_1 : List (Nat × Instr × Nat) := [(216, .aload_n 1, 1), (217, .invokevirtual 106, 3), (220, .aload_n 2, 1), (221, .invokevirtual 109, 3), (224, .if_icmp .eq 1539, 3), (227, .iconst 0, 1), (228, .ireturn, 1)]
set_option maxRecDepth 100000 in
theorem d_law_1 : decA code I_law_1 = true := by decide +kernel
def I_law_2 : List (Nat × Instr × Nat) := [(229, .aload_n 1, 1), (230, .invokevirtual 110, 3), (233, .aload_n 2, 1), (234, .invokevirtual 113, 3), (237, .if_icmp .eq 1526, 3), (240, .iconst 0, 1), (241, .ireturn, 1)]
set_option maxRecDepth 100000 in
theorem d_law_2 : decA code I_law_2 = true := by decide +kernel
def I_law_3 : List (Nat × Instr × Nat) := [(242, .aload_n 1, 1), (243, .aload_n 3, 1), (244, .invokestatic 114, 3), (247, .istore 5, 2), (249, .aload_n 2, 1), (250, .invokevirtual 117, 3), (253, .istore 6, 2), (255, .aload_n 2, 1), (256, .invokevirtual 103, 3), (259, .iload 5, 2), (261, .if_icmp .eq 5, 3), (264, .iconst 0, 1), (265, .ireturn, 1), (266, .iload 5, 2), (268, .ifCond .ne 15, 3), (271, .aload_n 3, 1), (272, .iconst 0, 1), (273, .laload, 1), (274, .iload 6, 2), (276, .i2l, 1), (277, .lcmp, 1), (278, .ifCond .eq 5, 3), (281, .iconst 0, 1), (282, .ireturn, 1), (283, .goto 1480, 3)]
set_option maxRecDepth 100000 in
theorem d_law_3 : decA code I_law_3 = true := by decide +kernel
def I_law_4 : List (Nat × Instr × Nat) := [(286, .aload_n 1, 1), (287, .aload_n 0, 1), (288, .iload 4, 2), (290, .iconst 1, 1), (291, .iadd, 1), (292, .iaload, 1), (293, .aload_n 3, 1), (294, .invokestatic 118, 3), (297, .istore 5, 2), (299, .aload_n 2, 1), (300, .aload_n 0, 1), (301, .iload 4, 2), (303, .iconst 1, 1), (304, .iadd, 1), (305, .iaload, 1), (306, .invokevirtual 120, 3), (309, .istore 6, 2), (311, .aload_n 2, 1), (312, .invokevirtual 103, 3), (315, .iload 5, 2), (317, .if_icmp .eq 5, 3), (320, .iconst 0, 1), (321, .ireturn, 1), (322, .iload 5, 2), (324, .ifCond .ne 15, 3), (327, .aload_n 3, 1), (328, .iconst 0, 1), (329, .laload, 1), (330, .iload 6, 2), (332, .i2l, 1), (333, .lcmp, 1), (334, .ifCond .eq 5, 3), (337, .iconst 0, 1), (338, .ireturn, 1), (339, .goto 1424, 3)]
set_option maxRecDepth 100000 in
theorem d_law_4 : decA code I_law_4 = true := by decide +kernel
def I_law_5 : List (Nat × Instr × Nat) := [(342, .aload_n 1, 1), (343, .aload_n 0, 1), (344, .iload 4, 2), (346, .iconst 1, 1), (347, .iadd, 1), (348, .iaload, 1), (349, .aload_n 0, 1), (350, .iload 4, 2), (352, .iconst 2, 1), (353, .iadd, 1), (354, .iaload, 1), (355, .aload_n 3, 1), (356, .invokestatic 121, 3), (359, .istore 5, 2), (361, .aload_n 2, 1), (362, .aload_n 0, 1), (363, .iload 4, 2), (365, .iconst 1, 1), (366, .iadd, 1), (367, .iaload, 1), (368, .aload_n 0, 1), (369, .iload 4, 2), (371, .iconst 2, 1), (372, .iadd, 1), (373, .iaload, 1), (374, .invokevirtual 124, 3), (377, .istore 6, 2), (379, .aload_n 2, 1), (380, .invokevirtual 103, 3), (383, .iload 5, 2), (385, .if_icmp .eq 5, 3), (388, .iconst 0, 1), (389, .ireturn, 1), (390, .iload 5, 2), (392, .ifCond .ne 15, 3), (395, .aload_n 3, 1), (396, .iconst 0, 1), (397, .laload, 1), (398, .iload 6, 2), (400, .i2l, 1), (401, .lcmp, 1), (402, .ifCond .eq 5, 3), (405, .iconst 0, 1), (406, .ireturn, 1), (407, .goto 1356, 3)]
set_option maxRecDepth 100000 in
theorem d_law_5 : decA code I_law_5 = true := by decide +kernel
def I_law_6 : List (Nat × Instr × Nat) := [(410, .aload_n 1, 1), (411, .aload_n 0, 1), (412, .iload 4, 2), (414, .iconst 1, 1), (415, .iadd, 1), (416, .iaload, 1), (417, .aload_n 0, 1), (418, .iload 4, 2), (420, .iconst 2, 1), (421, .iadd, 1), (422, .iaload, 1), (423, .aload_n 3, 1), (424, .invokestatic 125, 3), (427, .istore 5, 2), (429, .aload_n 2, 1), (430, .aload_n 0, 1), (431, .iload 4, 2), (433, .iconst 1, 1), (434, .iadd, 1), (435, .iaload, 1), (436, .aload_n 0, 1), (437, .iload 4, 2), (439, .iconst 2, 1), (440, .iadd, 1), (441, .iaload, 1), (442, .invokevirtual 127, 3), (445, .istore 6, 2), (447, .aload_n 2, 1), (448, .invokevirtual 103, 3), (451, .iload 5, 2), (453, .if_icmp .eq 5, 3), (456, .iconst 0, 1), (457, .ireturn, 1), (458, .iload 5, 2), (460, .ifCond .ne 15, 3), (463, .aload_n 3, 1), (464, .iconst 0, 1), (465, .laload, 1), (466, .iload 6, 2), (468, .i2l, 1), (469, .lcmp, 1), (470, .ifCond .eq 5, 3), (473, .iconst 0, 1), (474, .ireturn, 1), (475, .goto 1288, 3)]
set_option maxRecDepth 100000 in
theorem d_law_6 : decA code I_law_6 = true := by decide +kernel
def I_law_7 : List (Nat × Instr × Nat) := [(478, .aload_n 1, 1), (479, .aload_n 0, 1), (480, .iload 4, 2), (482, .iconst 1, 1), (483, .iadd, 1), (484, .iaload, 1), (485, .aload_n 0, 1), (486, .iload 4, 2), (488, .iconst 2, 1), (489, .iadd, 1), (490, .iaload, 1), (491, .aload_n 3, 1), (492, .invokestatic 128, 3), (495, .istore 5, 2), (497, .aload_n 2, 1), (498, .aload_n 0, 1), (499, .iload 4, 2), (501, .iconst 1, 1), (502, .iadd, 1), (503, .iaload, 1), (504, .aload_n 0, 1), (505, .iload 4, 2), (507, .iconst 2, 1), (508, .iadd, 1), (509, .iaload, 1), (510, .invokevirtual 130, 3), (513, .istore 6, 2), (515, .aload_n 2, 1), (516, .invokevirtual 103, 3), (519, .iload 5, 2), (521, .if_icmp .eq 5, 3), (524, .iconst 0, 1), (525, .ireturn, 1), (526, .iload 5, 2), (528, .ifCond .ne 15, 3), (531, .aload_n 3, 1), (532, .iconst 0, 1), (533, .laload, 1), (534, .iload 6, 2), (536, .i2l, 1), (537, .lcmp, 1), (538, .ifCond .eq 5, 3), (541, .iconst 0, 1), (542, .ireturn, 1), (543, .goto 1220, 3)]
set_option maxRecDepth 100000 in
theorem d_law_7 : decA code I_law_7 = true := by decide +kernel
def I_law_8 : List (Nat × Instr × Nat) := [(546, .aload_n 1, 1), (547, .aload_n 0, 1), (548, .iload 4, 2), (550, .iconst 1, 1), (551, .iadd, 1), (552, .iaload, 1), (553, .aload_n 0, 1), (554, .iload 4, 2), (556, .iconst 2, 1), (557, .iadd, 1), (558, .iaload, 1), (559, .aload_n 3, 1), (560, .invokestatic 131, 3), (563, .istore 5, 2), (565, .aload_n 2, 1), (566, .aload_n 0, 1), (567, .iload 4, 2), (569, .iconst 1, 1), (570, .iadd, 1), (571, .iaload, 1), (572, .aload_n 0, 1), (573, .iload 4, 2), (575, .iconst 2, 1), (576, .iadd, 1), (577, .iaload, 1), (578, .invokevirtual 133, 3), (581, .istore 6, 2), (583, .aload_n 2, 1), (584, .invokevirtual 103, 3), (587, .iload 5, 2), (589, .if_icmp .eq 5, 3), (592, .iconst 0, 1), (593, .ireturn, 1), (594, .iload 5, 2), (596, .ifCond .ne 15, 3), (599, .aload_n 3, 1), (600, .iconst 0, 1), (601, .laload, 1), (602, .iload 6, 2), (604, .i2l, 1), (605, .lcmp, 1), (606, .ifCond .eq 5, 3), (609, .iconst 0, 1), (610, .ireturn, 1), (611, .goto 1152, 3)]
set_option maxRecDepth 100000 in
theorem d_law_8 : decA code I_law_8 = true := by decide +kernel
def I_law_9 : List (Nat × Instr × Nat) := [(614, .aload_n 1, 1), (615, .aload_n 0, 1), (616, .iload 4, 2), (618, .iconst 1, 1), (619, .iadd, 1), (620, .iaload, 1), (621, .aload_n 3, 1), (622, .invokestatic 134, 3), (625, .istore 5, 2), (627, .aload_n 2, 1), (628, .aload_n 0, 1), (629, .iload 4, 2), (631, .iconst 1, 1), (632, .iadd, 1), (633, .iaload, 1), (634, .invokevirtual 136, 3), (637, .istore 6, 2), (639, .aload_n 2, 1), (640, .invokevirtual 103, 3), (643, .iload 5, 2), (645, .if_icmp .eq 5, 3), (648, .iconst 0, 1), (649, .ireturn, 1), (650, .iload 5, 2), (652, .ifCond .ne 15, 3), (655, .aload_n 3, 1), (656, .iconst 0, 1), (657, .laload, 1), (658, .iload 6, 2), (660, .i2l, 1), (661, .lcmp, 1), (662, .ifCond .eq 5, 3), (665, .iconst 0, 1), (666, .ireturn, 1), (667, .goto 1096, 3)]
set_option maxRecDepth 100000 in
theorem d_law_9 : decA code I_law_9 = true := by decide +kernel
def I_law_10 : List (Nat × Instr × Nat) := [(670, .aload_n 1, 1), (671, .aload_n 0, 1), (672, .iload 4, 2), (674, .iconst 1, 1), (675, .iadd, 1), (676, .iaload, 1), (677, .aload_n 0, 1), (678, .iload 4, 2), (680, .iconst 2, 1), (681, .iadd, 1), (682, .iaload, 1), (683, .aload_n 3, 1), (684, .invokestatic 137, 3), (687, .istore 5, 2), (689, .aload_n 2, 1), (690, .aload_n 0, 1), (691, .iload 4, 2), (693, .iconst 1, 1), (694, .iadd, 1), (695, .iaload, 1), (696, .aload_n 0, 1), (697, .iload 4, 2), (699, .iconst 2, 1), (700, .iadd, 1), (701, .iaload, 1), (702, .invokevirtual 139, 3), (705, .istore 6, 2), (707, .aload_n 2, 1), (708, .invokevirtual 103, 3), (711, .iload 5, 2), (713, .if_icmp .eq 5, 3), (716, .iconst 0, 1), (717, .ireturn, 1), (718, .iload 5, 2), (720, .ifCond .ne 15, 3), (723, .aload_n 3, 1), (724, .iconst 0, 1), (725, .laload, 1), (726, .iload 6, 2), (728, .i2l, 1), (729, .lcmp, 1), (730, .ifCond .eq 5, 3), (733, .iconst 0, 1), (734, .ireturn, 1), (735, .goto 1028, 3)]
set_option maxRecDepth 100000 in
theorem d_law_10 : decA code I_law_10 = true := by decide +kernel
def I_law_11 : List (Nat × Instr × Nat) := [(738, .aload_n 1, 1), (739, .aload_n 0, 1), (740, .iload 4, 2), (742, .iconst 1, 1), (743, .iadd, 1), (744, .iaload, 1), (745, .aload_n 0, 1), (746, .iload 4, 2), (748, .iconst 2, 1), (749, .iadd, 1), (750, .iaload, 1), (751, .aload_n 0, 1), (752, .iload 4, 2), (754, .iconst 3, 1), (755, .iadd, 1), (756, .iaload, 1), (757, .aload_n 0, 1), (758, .iload 4, 2), (760, .iconst 4, 1), (761, .iadd, 1), (762, .iaload, 1), (763, .aload_n 3, 1), (764, .invokestatic 140, 3), (767, .istore 5, 2), (769, .aload_n 2, 1), (770, .aload_n 0, 1), (771, .iload 4, 2), (773, .iconst 1, 1), (774, .iadd, 1), (775, .iaload, 1), (776, .aload_n 0, 1), (777, .iload 4, 2), (779, .iconst 2, 1), (780, .iadd, 1), (781, .iaload, 1), (782, .aload_n 0, 1), (783, .iload 4, 2), (785, .iconst 3, 1), (786, .iadd, 1), (787, .iaload, 1), (788, .aload_n 0, 1), (789, .iload 4, 2), (791, .iconst 4, 1), (792, .iadd, 1), (793, .iaload, 1), (794, .invokevirtual 143, 3), (797, .istore 6, 2), (799, .aload_n 2, 1), (800, .invokevirtual 103, 3), (803, .iload 5, 2), (805, .if_icmp .eq 5, 3), (808, .iconst 0, 1), (809, .ireturn, 1), (810, .iload 5, 2), (812, .ifCond .ne 15, 3), (815, .aload_n 3, 1), (816, .iconst 0, 1), (817, .laload, 1), (818, .iload 6, 2), (820, .i2l, 1), (821, .lcmp, 1), (822, .ifCond .eq 5, 3), (825, .iconst 0, 1), (826, .ireturn, 1), (827, .goto 936, 3)]
set_option maxRecDepth 100000 in
theorem d_law_11 : decA code I_law_11 = true := by decide +kernel
def I_law_12 : List (Nat × Instr × Nat) := [(830, .aload_n 1, 1), (831, .aload_n 0, 1), (832, .iload 4, 2), (834, .iconst 1, 1), (835, .iadd, 1), (836, .iaload, 1), (837, .aload_n 3, 1), (838, .invokestatic 144, 3), (841, .istore 5, 2), (843, .aload_n 2, 1), (844, .aload_n 0, 1), (845, .iload 4, 2), (847, .iconst 1, 1), (848, .iadd, 1), (849, .iaload, 1), (850, .invokevirtual 146, 3), (853, .istore 6, 2), (855, .aload_n 2, 1), (856, .invokevirtual 103, 3), (859, .iload 5, 2), (861, .if_icmp .eq 5, 3), (864, .iconst 0, 1), (865, .ireturn, 1), (866, .iload 5, 2), (868, .ifCond .ne 15, 3), (871, .aload_n 3, 1), (872, .iconst 0, 1), (873, .laload, 1), (874, .iload 6, 2), (876, .i2l, 1), (877, .lcmp, 1), (878, .ifCond .eq 5, 3), (881, .iconst 0, 1), (882, .ireturn, 1), (883, .goto 880, 3)]
set_option maxRecDepth 100000 in
theorem d_law_12 : decA code I_law_12 = true := by decide +kernel
def I_law_13 : List (Nat × Instr × Nat) := [(886, .aload_n 1, 1), (887, .aload_n 0, 1), (888, .iload 4, 2), (890, .iconst 1, 1), (891, .iadd, 1), (892, .iaload, 1), (893, .aload_n 3, 1), (894, .invokestatic 147, 3), (897, .istore 5, 2), (899, .aload_n 2, 1), (900, .aload_n 0, 1), (901, .iload 4, 2), (903, .iconst 1, 1), (904, .iadd, 1), (905, .iaload, 1), (906, .invokevirtual 149, 3), (909, .istore 6, 2), (911, .aload_n 2, 1), (912, .invokevirtual 103, 3), (915, .iload 5, 2), (917, .if_icmp .eq 5, 3), (920, .iconst 0, 1), (921, .ireturn, 1), (922, .iload 5, 2), (924, .ifCond .ne 15, 3), (927, .aload_n 3, 1), (928, .iconst 0, 1), (929, .laload, 1), (930, .iload 6, 2), (932, .i2l, 1), (933, .lcmp, 1), (934, .ifCond .eq 5, 3), (937, .iconst 0, 1), (938, .ireturn, 1), (939, .goto 824, 3)]
set_option maxRecDepth 100000 in
theorem d_law_13 : decA code I_law_13 = true := by decide +kernel
def I_law_14 : List (Nat × Instr × Nat) := [(942, .aload_n 1, 1), (943, .aload_n 0, 1), (944, .iload 4, 2), (946, .iconst 1, 1), (947, .iadd, 1), (948, .iaload, 1), (949, .aload_n 3, 1), (950, .invokestatic 150, 3), (953, .istore 5, 2), (955, .aload_n 2, 1), (956, .aload_n 0, 1), (957, .iload 4, 2), (959, .iconst 1, 1), (960, .iadd, 1), (961, .iaload, 1), (962, .invokevirtual 152, 3), (965, .istore 6, 2), (967, .aload_n 2, 1), (968, .invokevirtual 103, 3), (971, .iload 5, 2), (973, .if_icmp .eq 5, 3), (976, .iconst 0, 1), (977, .ireturn, 1), (978, .iload 5, 2), (980, .ifCond .ne 15, 3), (983, .aload_n 3, 1), (984, .iconst 0, 1), (985, .laload, 1), (986, .iload 6, 2), (988, .i2l, 1), (989, .lcmp, 1), (990, .ifCond .eq 5, 3), (993, .iconst 0, 1), (994, .ireturn, 1), (995, .goto 768, 3)]
set_option maxRecDepth 100000 in
theorem d_law_14 : decA code I_law_14 = true := by decide +kernel
def I_law_15 : List (Nat × Instr × Nat) := [(998, .aload_n 1, 1), (999, .aload_n 0, 1), (1000, .iload 4, 2), (1002, .iconst 1, 1), (1003, .iadd, 1), (1004, .iaload, 1), (1005, .aload_n 3, 1), (1006, .invokestatic 153, 3), (1009, .istore 5, 2), (1011, .aload_n 2, 1), (1012, .aload_n 0, 1), (1013, .iload 4, 2), (1015, .iconst 1, 1), (1016, .iadd, 1), (1017, .iaload, 1), (1018, .invokevirtual 155, 3), (1021, .istore 6, 2), (1023, .aload_n 2, 1), (1024, .invokevirtual 103, 3), (1027, .iload 5, 2), (1029, .if_icmp .eq 5, 3), (1032, .iconst 0, 1), (1033, .ireturn, 1), (1034, .iload 5, 2), (1036, .ifCond .ne 15, 3), (1039, .aload_n 3, 1), (1040, .iconst 0, 1), (1041, .laload, 1), (1042, .iload 6, 2), (1044, .i2l, 1), (1045, .lcmp, 1), (1046, .ifCond .eq 5, 3), (1049, .iconst 0, 1), (1050, .ireturn, 1), (1051, .goto 712, 3)]
set_option maxRecDepth 100000 in
theorem d_law_15 : decA code I_law_15 = true := by decide +kernel
def I_law_16 : List (Nat × Instr × Nat) := [(1054, .aload_n 1, 1), (1055, .aload_n 0, 1), (1056, .iload 4, 2), (1058, .iconst 1, 1), (1059, .iadd, 1), (1060, .iaload, 1), (1061, .aload_n 0, 1), (1062, .iload 4, 2), (1064, .iconst 2, 1), (1065, .iadd, 1), (1066, .iaload, 1), (1067, .aload_n 3, 1), (1068, .invokestatic 156, 3), (1071, .istore 5, 2), (1073, .aload_n 2, 1), (1074, .aload_n 0, 1), (1075, .iload 4, 2), (1077, .iconst 1, 1), (1078, .iadd, 1), (1079, .iaload, 1), (1080, .aload_n 0, 1), (1081, .iload 4, 2), (1083, .iconst 2, 1), (1084, .iadd, 1), (1085, .iaload, 1), (1086, .invokevirtual 158, 3), (1089, .istore 6, 2), (1091, .aload_n 2, 1), (1092, .invokevirtual 103, 3), (1095, .iload 5, 2), (1097, .if_icmp .eq 5, 3), (1100, .iconst 0, 1), (1101, .ireturn, 1), (1102, .iload 5, 2), (1104, .ifCond .ne 15, 3), (1107, .aload_n 3, 1), (1108, .iconst 0, 1), (1109, .laload, 1), (1110, .iload 6, 2), (1112, .i2l, 1), (1113, .lcmp, 1), (1114, .ifCond .eq 5, 3), (1117, .iconst 0, 1), (1118, .ireturn, 1), (1119, .goto 644, 3)]
set_option maxRecDepth 100000 in
theorem d_law_16 : decA code I_law_16 = true := by decide +kernel
def I_law_17 : List (Nat × Instr × Nat) := [(1122, .aload_n 1, 1), (1123, .aload_n 3, 1), (1124, .invokestatic 159, 3), (1127, .istore 5, 2), (1129, .aload_n 2, 1), (1130, .invokevirtual 161, 3), (1133, .istore 6, 2), (1135, .aload_n 2, 1), (1136, .invokevirtual 103, 3), (1139, .iload 5, 2), (1141, .if_icmp .eq 5, 3), (1144, .iconst 0, 1), (1145, .ireturn, 1), (1146, .iload 5, 2), (1148, .ifCond .ne 15, 3), (1151, .aload_n 3, 1), (1152, .iconst 0, 1), (1153, .laload, 1), (1154, .iload 6, 2), (1156, .i2l, 1), (1157, .lcmp, 1), (1158, .ifCond .eq 5, 3), (1161, .iconst 0, 1), (1162, .ireturn, 1), (1163, .goto 600, 3)]
set_option maxRecDepth 100000 in
theorem d_law_17 : decA code I_law_17 = true := by decide +kernel
def I_law_18 : List (Nat × Instr × Nat) := [(1166, .aload_n 1, 1), (1167, .aload_n 0, 1), (1168, .iload 4, 2), (1170, .iconst 1, 1), (1171, .iadd, 1), (1172, .iaload, 1), (1173, .aload_n 0, 1), (1174, .iload 4, 2), (1176, .iconst 2, 1), (1177, .iadd, 1), (1178, .iaload, 1), (1179, .aload_n 0, 1), (1180, .iload 4, 2), (1182, .iconst 3, 1), (1183, .iadd, 1), (1184, .iaload, 1), (1185, .aload_n 0, 1), (1186, .iload 4, 2), (1188, .iconst 4, 1), (1189, .iadd, 1), (1190, .iaload, 1), (1191, .aload_n 3, 1), (1192, .invokestatic 162, 3), (1195, .istore 5, 2), (1197, .aload_n 2, 1), (1198, .aload_n 0, 1), (1199, .iload 4, 2), (1201, .iconst 1, 1), (1202, .iadd, 1), (1203, .iaload, 1), (1204, .aload_n 0, 1), (1205, .iload 4, 2), (1207, .iconst 2, 1), (1208, .iadd, 1), (1209, .iaload, 1), (1210, .aload_n 0, 1), (1211, .iload 4, 2), (1213, .iconst 3, 1), (1214, .iadd, 1), (1215, .iaload, 1), (1216, .aload_n 0, 1), (1217, .iload 4, 2), (1219, .iconst 4, 1), (1220, .iadd, 1), (1221, .iaload, 1), (1222, .invokevirtual 164, 3), (1225, .istore 6, 2), (1227, .aload_n 2, 1), (1228, .invokevirtual 103, 3), (1231, .iload 5, 2), (1233, .if_icmp .eq 5, 3), (1236, .iconst 0, 1), (1237, .ireturn, 1), (1238, .iload 5, 2), (1240, .ifCond .ne 15, 3), (1243, .aload_n 3, 1), (1244, .iconst 0, 1), (1245, .laload, 1), (1246, .iload 6, 2), (1248, .i2l, 1), (1249, .lcmp, 1), (1250, .ifCond .eq 5, 3), (1253, .iconst 0, 1), (1254, .ireturn, 1), (1255, .goto 508, 3)]
set_option maxRecDepth 100000 in
theorem d_law_18 : decA code I_law_18 = true := by decide +kernel
def I_law_19 : List (Nat × Instr × Nat) := [(1258, .aload_n 1, 1), (1259, .invokevirtual 165, 3), (1262, .aload_n 2, 1), (1263, .invokevirtual 168, 3), (1266, .if_icmp .eq 497, 3), (1269, .iconst 0, 1), (1270, .ireturn, 1)]
set_option maxRecDepth 100000 in
theorem d_law_19 : decA code I_law_19 = true := by decide +kernel
def I_law_20 : List (Nat × Instr × Nat) := [(1271, .aload_n 1, 1), (1272, .aload_n 0, 1), (1273, .iload 4, 2), (1275, .iconst 1, 1), (1276, .iadd, 1), (1277, .iaload, 1), (1278, .aload_n 0, 1), (1279, .iload 4, 2), (1281, .iconst 2, 1), (1282, .iadd, 1), (1283, .iaload, 1), (1284, .aload_n 3, 1), (1285, .invokestatic 169, 3), (1288, .istore 5, 2), (1290, .aload_n 2, 1), (1291, .aload_n 0, 1), (1292, .iload 4, 2), (1294, .iconst 1, 1), (1295, .iadd, 1), (1296, .iaload, 1), (1297, .aload_n 0, 1), (1298, .iload 4, 2), (1300, .iconst 2, 1), (1301, .iadd, 1), (1302, .iaload, 1), (1303, .invokevirtual 171, 3), (1306, .istore 6, 2), (1308, .aload_n 2, 1), (1309, .invokevirtual 103, 3), (1312, .iload 5, 2), (1314, .if_icmp .eq 5, 3), (1317, .iconst 0, 1), (1318, .ireturn, 1), (1319, .iload 5, 2), (1321, .ifCond .ne 15, 3), (1324, .aload_n 3, 1), (1325, .iconst 0, 1), (1326, .laload, 1), (1327, .iload 6, 2), (1329, .i2l, 1), (1330, .lcmp, 1), (1331, .ifCond .eq 5, 3), (1334, .iconst 0, 1), (1335, .ireturn, 1), (1336, .goto 427, 3)]
set_option maxRecDepth 100000 in
theorem d_law_20 : decA code I_law_20 = true := by decide +kernel
def I_law_21 : List (Nat × Instr × Nat) := [(1339, .aload_n 1, 1), (1340, .aload_n 0, 1), (1341, .iload 4, 2), (1343, .iconst 1, 1), (1344, .iadd, 1), (1345, .iaload, 1), (1346, .aload_n 3, 1), (1347, .invokestatic 172, 3), (1350, .istore 5, 2), (1352, .aload_n 2, 1), (1353, .aload_n 0, 1), (1354, .iload 4, 2), (1356, .iconst 1, 1), (1357, .iadd, 1), (1358, .iaload, 1), (1359, .invokevirtual 174, 3), (1362, .istore 6, 2), (1364, .aload_n 2, 1), (1365, .invokevirtual 103, 3), (1368, .iload 5, 2), (1370, .if_icmp .eq 5, 3), (1373, .iconst 0, 1), (1374, .ireturn, 1), (1375, .iload 5, 2), (1377, .ifCond .ne 15, 3), (1380, .aload_n 3, 1), (1381, .iconst 0, 1), (1382, .laload, 1), (1383, .iload 6, 2), (1385, .i2l, 1), (1386, .lcmp, 1), (1387, .ifCond .eq 5, 3), (1390, .iconst 0, 1), (1391, .ireturn, 1), (1392, .goto 371, 3)]
set_option maxRecDepth 100000 in
theorem d_law_21 : decA code I_law_21 = true := by decide +kernel
def I_law_22 : List (Nat × Instr × Nat) := [(1395, .aload_n 1, 1), (1396, .aload_n 0, 1), (1397, .iload 4, 2), (1399, .iconst 1, 1), (1400, .iadd, 1), (1401, .iaload, 1), (1402, .aload_n 3, 1), (1403, .invokestatic 175, 3), (1406, .istore 5, 2), (1408, .aload_n 2, 1), (1409, .aload_n 0, 1), (1410, .iload 4, 2), (1412, .iconst 1, 1), (1413, .iadd, 1), (1414, .iaload, 1), (1415, .invokevirtual 177, 3), (1418, .istore 6, 2), (1420, .aload_n 2, 1), (1421, .invokevirtual 103, 3), (1424, .iload 5, 2), (1426, .if_icmp .eq 5, 3), (1429, .iconst 0, 1), (1430, .ireturn, 1), (1431, .iload 5, 2), (1433, .ifCond .ne 15, 3), (1436, .aload_n 3, 1), (1437, .iconst 0, 1), (1438, .laload, 1), (1439, .iload 6, 2), (1441, .i2l, 1), (1442, .lcmp, 1), (1443, .ifCond .eq 5, 3), (1446, .iconst 0, 1), (1447, .ireturn, 1), (1448, .goto 315, 3)]
set_option maxRecDepth 100000 in
theorem d_law_22 : decA code I_law_22 = true := by decide +kernel
def I_law_23 : List (Nat × Instr × Nat) := [(1451, .aload_n 1, 1), (1452, .aload_n 0, 1), (1453, .iload 4, 2), (1455, .iconst 1, 1), (1456, .iadd, 1), (1457, .iaload, 1), (1458, .aload_n 0, 1), (1459, .iload 4, 2), (1461, .iconst 2, 1), (1462, .iadd, 1), (1463, .iaload, 1), (1464, .i2l, 1), (1465, .bipush 32, 2), (1467, .lshl, 1), (1468, .aload_n 0, 1), (1469, .iload 4, 2), (1471, .iconst 3, 1), (1472, .iadd, 1), (1473, .iaload, 1), (1474, .i2l, 1), (1475, .ldc2_w 178, 3), (1478, .land, 1), (1479, .lor, 1), (1480, .aload_n 3, 1), (1481, .invokestatic 180, 3), (1484, .istore 5, 2), (1486, .aload_n 2, 1), (1487, .aload_n 0, 1), (1488, .iload 4, 2), (1490, .iconst 1, 1), (1491, .iadd, 1), (1492, .iaload, 1), (1493, .aload_n 0, 1), (1494, .iload 4, 2), (1496, .iconst 2, 1), (1497, .iadd, 1), (1498, .iaload, 1), (1499, .i2l, 1), (1500, .bipush 32, 2), (1502, .lshl, 1), (1503, .aload_n 0, 1), (1504, .iload 4, 2), (1506, .iconst 3, 1), (1507, .iadd, 1), (1508, .iaload, 1), (1509, .i2l, 1), (1510, .ldc2_w 178, 3), (1513, .land, 1), (1514, .lor, 1), (1515, .invokevirtual 183, 3), (1518, .istore 6, 2), (1520, .aload_n 2, 1), (1521, .invokevirtual 103, 3), (1524, .iload 5, 2), (1526, .if_icmp .eq 5, 3), (1529, .iconst 0, 1), (1530, .ireturn, 1), (1531, .iload 5, 2), (1533, .ifCond .ne 15, 3), (1536, .aload_n 3, 1), (1537, .iconst 0, 1), (1538, .laload, 1), (1539, .iload 6, 2), (1541, .i2l, 1), (1542, .lcmp, 1), (1543, .ifCond .eq 5, 3), (1546, .iconst 0, 1), (1547, .ireturn, 1), (1548, .goto 215, 3)]
set_option maxRecDepth 100000 in
theorem d_law_23 : decA code I_law_23 = true := by decide +kernel
def I_law_24 : List (Nat × Instr × Nat) := [(1551, .aload_n 1, 1), (1552, .aload_n 0, 1), (1553, .iload 4, 2), (1555, .iconst 1, 1), (1556, .iadd, 1), (1557, .iaload, 1), (1558, .i2l, 1), (1559, .bipush 32, 2), (1561, .lshl, 1), (1562, .aload_n 0, 1), (1563, .iload 4, 2), (1565, .iconst 2, 1), (1566, .iadd, 1), (1567, .iaload, 1), (1568, .i2l, 1), (1569, .ldc2_w 178, 3), (1572, .land, 1), (1573, .lor, 1), (1574, .aload_n 0, 1), (1575, .iload 4, 2), (1577, .iconst 3, 1), (1578, .iadd, 1), (1579, .iaload, 1), (1580, .aload_n 3, 1), (1581, .invokestatic 184, 3), (1584, .istore 5, 2), (1586, .aload_n 2, 1), (1587, .aload_n 0, 1), (1588, .iload 4, 2), (1590, .iconst 1, 1), (1591, .iadd, 1), (1592, .iaload, 1), (1593, .i2l, 1), (1594, .bipush 32, 2), (1596, .lshl, 1), (1597, .aload_n 0, 1), (1598, .iload 4, 2), (1600, .iconst 2, 1), (1601, .iadd, 1), (1602, .iaload, 1), (1603, .i2l, 1), (1604, .ldc2_w 178, 3), (1607, .land, 1), (1608, .lor, 1), (1609, .aload_n 0, 1), (1610, .iload 4, 2), (1612, .iconst 3, 1), (1613, .iadd, 1), (1614, .iaload, 1), (1615, .invokevirtual 187, 3), (1618, .istore 6, 2), (1620, .aload_n 2, 1), (1621, .invokevirtual 103, 3), (1624, .iload 5, 2), (1626, .if_icmp .eq 5, 3), (1629, .iconst 0, 1), (1630, .ireturn, 1), (1631, .iload 5, 2), (1633, .ifCond .ne 15, 3), (1636, .aload_n 3, 1), (1637, .iconst 0, 1), (1638, .laload, 1), (1639, .iload 6, 2), (1641, .i2l, 1), (1642, .lcmp, 1), (1643, .ifCond .eq 5, 3), (1646, .iconst 0, 1), (1647, .ireturn, 1), (1648, .goto 115, 3)]
set_option maxRecDepth 100000 in
theorem d_law_24 : decA code I_law_24 = true := by decide +kernel
def I_law_25 : List (Nat × Instr × Nat) := [(1651, .aload_n 1, 1), (1652, .aload_n 0, 1), (1653, .iload 4, 2), (1655, .iconst 1, 1), (1656, .iadd, 1), (1657, .iaload, 1), (1658, .aload_n 3, 1), (1659, .invokestatic 188, 3), (1662, .istore 5, 2), (1664, .aload_n 2, 1), (1665, .aload_n 0, 1), (1666, .iload 4, 2), (1668, .iconst 1, 1), (1669, .iadd, 1), (1670, .iaload, 1), (1671, .invokevirtual 190, 3), (1674, .istore 6, 2), (1676, .aload_n 2, 1), (1677, .invokevirtual 103, 3), (1680, .iload 5, 2), (1682, .if_icmp .eq 5, 3), (1685, .iconst 0, 1), (1686, .ireturn, 1), (1687, .iload 5, 2), (1689, .ifCond .ne 15, 3), (1692, .aload_n 3, 1), (1693, .iconst 0, 1), (1694, .laload, 1), (1695, .iload 6, 2), (1697, .i2l, 1), (1698, .lcmp, 1), (1699, .ifCond .eq 5, 3), (1702, .iconst 0, 1), (1703, .ireturn, 1), (1704, .goto 59, 3)]
set_option maxRecDepth 100000 in
theorem d_law_25 : decA code I_law_25 = true := by decide +kernel
def I_law_26 : List (Nat × Instr × Nat) := [(1707, .aload_n 1, 1), (1708, .aload_n 0, 1), (1709, .iload 4, 2), (1711, .iconst 1, 1), (1712, .iadd, 1), (1713, .iaload, 1), (1714, .aload_n 3, 1), (1715, .invokestatic 191, 3), (1718, .istore 5, 2), (1720, .aload_n 2, 1), (1721, .aload_n 0, 1), (1722, .iload 4, 2), (1724, .iconst 1, 1), (1725, .iadd, 1), (1726, .iaload, 1), (1727, .invokevirtual 193, 3), (1730, .istore 6, 2), (1732, .aload_n 2, 1), (1733, .invokevirtual 103, 3), (1736, .iload 5, 2), (1738, .if_icmp .eq 5, 3), (1741, .iconst 0, 1), (1742, .ireturn, 1), (1743, .iload 5, 2), (1745, .ifCond .ne 15, 3), (1748, .aload_n 3, 1), (1749, .iconst 0, 1), (1750, .laload, 1), (1751, .iload 6, 2), (1753, .i2l, 1), (1754, .lcmp, 1), (1755, .ifCond .eq 5, 3), (1758, .iconst 0, 1), (1759, .ireturn, 1), (1760, .goto 3, 3)]
set_option maxRecDepth 100000 in
theorem d_law_26 : decA code I_law_26 = true := by decide +kernel
def I_law_e : List (Nat × Instr × Nat) := [(1763, .iinc 4 5, 3), (1766, .goto (-1743), 3), (1769, .iconst 1, 1), (1770, .ireturn, 1)]
set_option maxRecDepth 100000 in
theorem d_law_e : decA code I_law_e = true := by decide +kernel
theorem ld_RL_178 : Cond.constantLong RL 178 4294967295 ∈ GT := gt_in 1476 (by decide +kernel) rfl
theorem ml_RL_97 : Cond.methodLink RL 97 yL_append ∈ GT := gt_in 472 (by decide +kernel) rfl
set_option maxRecDepth 100000 in
theorem mi_Mo_append : MI yX11_append cX11_append 2 (some .int) 1 := ⟨gt_in 1142 (by rfl) rfl, gt_in 79 (by decide +kernel) rfl, by decide +kernel, by decide +kernel⟩
theorem mv_Mo_append : MV yX11_append := ⟨gt_in 1140 (by decide +kernel) rfl, gt_in 1141 (by decide +kernel) rfl⟩
theorem ml_RL_102 : Cond.methodLink RL 102 yX11_append ∈ GT := gt_in 1139 (by decide +kernel) rfl
set_option maxRecDepth 100000 in
theorem mi_Mo_thrown : MI yX11_thrown cX11_thrown 1 (some .int) 0 := ⟨gt_in 1138 (by rfl) rfl, gt_in 79 (by decide +kernel) rfl, by decide +kernel, by decide +kernel⟩
theorem mv_Mo_thrown : MV yX11_thrown := ⟨gt_in 1136 (by decide +kernel) rfl, gt_in 1137 (by decide +kernel) rfl⟩
theorem ml_RL_103 : Cond.methodLink RL 103 yX11_thrown ∈ GT := gt_in 1135 (by decide +kernel) rfl
set_option maxRecDepth 100000 in
theorem mi_SR_clearText : MI yX10_clearText cX10_clearText 2 (some .int) 0 := ⟨gt_in 312 (by rfl) rfl, gt_in 70 (by decide +kernel) rfl, by decide +kernel, by decide +kernel⟩
theorem mv_SR_clearText : MV yX10_clearText := ⟨gt_in 310 (by decide +kernel) rfl, gt_in 311 (by decide +kernel) rfl⟩
theorem ml_RL_106 : Cond.methodLink RL 106 yX10_clearText ∈ GT := gt_in 309 (by decide +kernel) rfl
set_option maxRecDepth 100000 in
theorem mi_Mo_clearText : MI yX11_clearText cX11_clearText 2 (some .int) 0 := ⟨gt_in 1153 (by rfl) rfl, gt_in 79 (by decide +kernel) rfl, by decide +kernel, by decide +kernel⟩
theorem mv_Mo_clearText : MV yX11_clearText := ⟨gt_in 1151 (by decide +kernel) rfl, gt_in 1152 (by decide +kernel) rfl⟩
theorem ml_RL_109 : Cond.methodLink RL 109 yX11_clearText ∈ GT := gt_in 1150 (by decide +kernel) rfl
set_option maxRecDepth 100000 in
theorem mi_SR_errorPosition : MI yX10_errorPosition cX10_errorPosition 1 (some .int) 0 := ⟨gt_in 316 (by rfl) rfl, gt_in 70 (by decide +kernel) rfl, by decide +kernel, by decide +kernel⟩
theorem mv_SR_errorPosition : MV yX10_errorPosition := ⟨gt_in 314 (by decide +kernel) rfl, gt_in 315 (by decide +kernel) rfl⟩
theorem ml_RL_110 : Cond.methodLink RL 110 yX10_errorPosition ∈ GT := gt_in 313 (by decide +kernel) rfl
set_option maxRecDepth 100000 in
theorem mi_Mo_errorPosition : MI yX11_errorPosition cX11_errorPosition 2 (some .int) 0 := ⟨gt_in 1157 (by rfl) rfl, gt_in 79 (by decide +kernel) rfl, by decide +kernel, by decide +kernel⟩
theorem mv_Mo_errorPosition : MV yX11_errorPosition := ⟨gt_in 1155 (by decide +kernel) rfl, gt_in 1156 (by decide +kernel) rfl⟩
theorem ml_RL_113 : Cond.methodLink RL 113 yX11_errorPosition ∈ GT := gt_in 1154 (by decide +kernel) rfl
theorem ml_RL_114 : Cond.methodLink RL 114 yL_load ∈ GT := gt_in 568 (by decide +kernel) rfl
set_option maxRecDepth 100000 in
theorem mi_Mo_load : MI yX11_load cX11_load 2 (some .int) 0 := ⟨gt_in 1310 (by rfl) rfl, gt_in 79 (by decide +kernel) rfl, by decide +kernel, by decide +kernel⟩
theorem mv_Mo_load : MV yX11_load := ⟨gt_in 1308 (by decide +kernel) rfl, gt_in 1309 (by decide +kernel) rfl⟩
theorem ml_RL_117 : Cond.methodLink RL 117 yX11_load ∈ GT := gt_in 1307 (by decide +kernel) rfl
theorem ml_RL_118 : Cond.methodLink RL 118 yL_about ∈ GT := gt_in 700 (by decide +kernel) rfl
set_option maxRecDepth 100000 in
theorem mi_Mo_about : MI yX11_about cX11_about 2 (some .int) 1 := ⟨gt_in 1314 (by rfl) rfl, gt_in 79 (by decide +kernel) rfl, by decide +kernel, by decide +kernel⟩
theorem mv_Mo_about : MV yX11_about := ⟨gt_in 1312 (by decide +kernel) rfl, gt_in 1313 (by decide +kernel) rfl⟩
theorem ml_RL_120 : Cond.methodLink RL 120 yX11_about ∈ GT := gt_in 1311 (by decide +kernel) rfl
theorem ml_RL_121 : Cond.methodLink RL 121 yL_signOf ∈ GT := gt_in 725 (by decide +kernel) rfl
set_option maxRecDepth 100000 in
theorem mi_Mo_signOf : MI yX11_signOf cX11_signOf 3 (some .int) 2 := ⟨gt_in 1326 (by rfl) rfl, gt_in 79 (by decide +kernel) rfl, by decide +kernel, by decide +kernel⟩
theorem mv_Mo_signOf : MV yX11_signOf := ⟨gt_in 1324 (by decide +kernel) rfl, gt_in 1325 (by decide +kernel) rfl⟩
theorem ml_RL_124 : Cond.methodLink RL 124 yX11_signOf ∈ GT := gt_in 1323 (by decide +kernel) rfl
theorem ml_RL_125 : Cond.methodLink RL 125 yL_decreeOf ∈ GT := gt_in 759 (by decide +kernel) rfl
set_option maxRecDepth 100000 in
theorem mi_Mo_decreeOf : MI yX11_decreeOf cX11_decreeOf 3 (some .int) 2 := ⟨gt_in 1334 (by rfl) rfl, gt_in 79 (by decide +kernel) rfl, by decide +kernel, by decide +kernel⟩
theorem mv_Mo_decreeOf : MV yX11_decreeOf := ⟨gt_in 1332 (by decide +kernel) rfl, gt_in 1333 (by decide +kernel) rfl⟩
theorem ml_RL_127 : Cond.methodLink RL 127 yX11_decreeOf ∈ GT := gt_in 1331 (by decide +kernel) rfl
theorem ml_RL_128 : Cond.methodLink RL 128 yL_guildOf ∈ GT := gt_in 777 (by decide +kernel) rfl
set_option maxRecDepth 100000 in
theorem mi_Mo_guildOf : MI yX11_guildOf cX11_guildOf 3 (some .int) 2 := ⟨gt_in 1338 (by rfl) rfl, gt_in 79 (by decide +kernel) rfl, by decide +kernel, by decide +kernel⟩
theorem mv_Mo_guildOf : MV yX11_guildOf := ⟨gt_in 1336 (by decide +kernel) rfl, gt_in 1337 (by decide +kernel) rfl⟩
theorem ml_RL_130 : Cond.methodLink RL 130 yX11_guildOf ∈ GT := gt_in 1335 (by decide +kernel) rfl
theorem ml_RL_131 : Cond.methodLink RL 131 yL_right ∈ GT := gt_in 797 (by decide +kernel) rfl
set_option maxRecDepth 100000 in
theorem mi_Mo_right : MI yX11_right cX11_right 3 (some .int) 2 := ⟨gt_in 1346 (by rfl) rfl, gt_in 79 (by decide +kernel) rfl, by decide +kernel, by decide +kernel⟩
theorem mv_Mo_right : MV yX11_right := ⟨gt_in 1344 (by decide +kernel) rfl, gt_in 1345 (by decide +kernel) rfl⟩
theorem ml_RL_133 : Cond.methodLink RL 133 yX11_right ∈ GT := gt_in 1343 (by decide +kernel) rfl
theorem ml_RL_134 : Cond.methodLink RL 134 yL_setting ∈ GT := gt_in 832 (by decide +kernel) rfl
set_option maxRecDepth 100000 in
theorem mi_Mo_setting : MI yX11_setting cX11_setting 2 (some .int) 1 := ⟨gt_in 1350 (by rfl) rfl, gt_in 79 (by decide +kernel) rfl, by decide +kernel, by decide +kernel⟩
theorem mv_Mo_setting : MV yX11_setting := ⟨gt_in 1348 (by decide +kernel) rfl, gt_in 1349 (by decide +kernel) rfl⟩
theorem ml_RL_136 : Cond.methodLink RL 136 yX11_setting ∈ GT := gt_in 1347 (by decide +kernel) rfl
theorem ml_RL_137 : Cond.methodLink RL 137 yL_sign ∈ GT := gt_in 843 (by decide +kernel) rfl
set_option maxRecDepth 100000 in
theorem mi_Mo_sign : MI yX11_sign cX11_sign 3 (some .int) 2 := ⟨gt_in 1354 (by rfl) rfl, gt_in 79 (by decide +kernel) rfl, by decide +kernel, by decide +kernel⟩
theorem mv_Mo_sign : MV yX11_sign := ⟨gt_in 1352 (by decide +kernel) rfl, gt_in 1353 (by decide +kernel) rfl⟩
theorem ml_RL_139 : Cond.methodLink RL 139 yX11_sign ∈ GT := gt_in 1351 (by decide +kernel) rfl
theorem ml_RL_140 : Cond.methodLink RL 140 yL_decree ∈ GT := gt_in 876 (by decide +kernel) rfl
set_option maxRecDepth 100000 in
theorem mi_Mo_decree : MI yX11_decree cX11_decree 5 (some .int) 4 := ⟨gt_in 1366 (by rfl) rfl, gt_in 79 (by decide +kernel) rfl, by decide +kernel, by decide +kernel⟩
theorem mv_Mo_decree : MV yX11_decree := ⟨gt_in 1364 (by decide +kernel) rfl, gt_in 1365 (by decide +kernel) rfl⟩
theorem ml_RL_143 : Cond.methodLink RL 143 yX11_decree ∈ GT := gt_in 1363 (by decide +kernel) rfl
theorem ml_RL_144 : Cond.methodLink RL 144 yL_revoke ∈ GT := gt_in 892 (by decide +kernel) rfl
set_option maxRecDepth 100000 in
theorem mi_Mo_revoke : MI yX11_revoke cX11_revoke 2 (some .int) 1 := ⟨gt_in 1370 (by rfl) rfl, gt_in 79 (by decide +kernel) rfl, by decide +kernel, by decide +kernel⟩
theorem mv_Mo_revoke : MV yX11_revoke := ⟨gt_in 1368 (by decide +kernel) rfl, gt_in 1369 (by decide +kernel) rfl⟩
theorem ml_RL_146 : Cond.methodLink RL 146 yX11_revoke ∈ GT := gt_in 1367 (by decide +kernel) rfl
theorem ml_RL_147 : Cond.methodLink RL 147 yL_paint ∈ GT := gt_in 899 (by decide +kernel) rfl
set_option maxRecDepth 100000 in
theorem mi_Mo_paint : MI yX11_paint cX11_paint 2 (some .int) 1 := ⟨gt_in 1374 (by rfl) rfl, gt_in 79 (by decide +kernel) rfl, by decide +kernel, by decide +kernel⟩
theorem mv_Mo_paint : MV yX11_paint := ⟨gt_in 1372 (by decide +kernel) rfl, gt_in 1373 (by decide +kernel) rfl⟩
theorem ml_RL_149 : Cond.methodLink RL 149 yX11_paint ∈ GT := gt_in 1371 (by decide +kernel) rfl
theorem ml_RL_150 : Cond.methodLink RL 150 yL_months ∈ GT := gt_in 906 (by decide +kernel) rfl
set_option maxRecDepth 100000 in
theorem mi_Mo_months : MI yX11_months cX11_months 2 (some .int) 1 := ⟨gt_in 1378 (by rfl) rfl, gt_in 79 (by decide +kernel) rfl, by decide +kernel, by decide +kernel⟩
theorem mv_Mo_months : MV yX11_months := ⟨gt_in 1376 (by decide +kernel) rfl, gt_in 1377 (by decide +kernel) rfl⟩
theorem ml_RL_152 : Cond.methodLink RL 152 yX11_months ∈ GT := gt_in 1375 (by decide +kernel) rfl
theorem ml_RL_153 : Cond.methodLink RL 153 yL_amnesty ∈ GT := gt_in 914 (by decide +kernel) rfl
set_option maxRecDepth 100000 in
theorem mi_Mo_amnesty : MI yX11_amnesty cX11_amnesty 2 (some .int) 1 := ⟨gt_in 1382 (by rfl) rfl, gt_in 79 (by decide +kernel) rfl, by decide +kernel, by decide +kernel⟩
theorem mv_Mo_amnesty : MV yX11_amnesty := ⟨gt_in 1380 (by decide +kernel) rfl, gt_in 1381 (by decide +kernel) rfl⟩
theorem ml_RL_155 : Cond.methodLink RL 155 yX11_amnesty ∈ GT := gt_in 1379 (by decide +kernel) rfl
theorem ml_RL_156 : Cond.methodLink RL 156 yL_set ∈ GT := gt_in 923 (by decide +kernel) rfl
set_option maxRecDepth 100000 in
theorem mi_Mo_set : MI yX11_set cX11_set 4 (some .int) 2 := ⟨gt_in 1386 (by rfl) rfl, gt_in 79 (by decide +kernel) rfl, by decide +kernel, by decide +kernel⟩
theorem mv_Mo_set : MV yX11_set := ⟨gt_in 1384 (by decide +kernel) rfl, gt_in 1385 (by decide +kernel) rfl⟩
theorem ml_RL_158 : Cond.methodLink RL 158 yX11_set ∈ GT := gt_in 1383 (by decide +kernel) rfl
theorem ml_RL_159 : Cond.methodLink RL 159 yL_undo ∈ GT := gt_in 931 (by decide +kernel) rfl
set_option maxRecDepth 100000 in
theorem mi_Mo_undo : MI yX11_undo cX11_undo 2 (some .int) 0 := ⟨gt_in 1390 (by rfl) rfl, gt_in 79 (by decide +kernel) rfl, by decide +kernel, by decide +kernel⟩
theorem mv_Mo_undo : MV yX11_undo := ⟨gt_in 1388 (by decide +kernel) rfl, gt_in 1389 (by decide +kernel) rfl⟩
theorem ml_RL_161 : Cond.methodLink RL 161 yX11_undo ∈ GT := gt_in 1387 (by decide +kernel) rfl
theorem ml_RL_162 : Cond.methodLink RL 162 yL_why ∈ GT := gt_in 943 (by decide +kernel) rfl
set_option maxRecDepth 100000 in
theorem mi_Mo_why : MI yX11_why cX11_why 5 (some .int) 4 := ⟨gt_in 1394 (by rfl) rfl, gt_in 79 (by decide +kernel) rfl, by decide +kernel, by decide +kernel⟩
theorem mv_Mo_why : MV yX11_why := ⟨gt_in 1392 (by decide +kernel) rfl, gt_in 1393 (by decide +kernel) rfl⟩
theorem ml_RL_164 : Cond.methodLink RL 164 yX11_why ∈ GT := gt_in 1391 (by decide +kernel) rfl
set_option maxRecDepth 100000 in
theorem mi_SR_droppable : MI yX10_droppable cX10_droppable 3 (some .int) 0 := ⟨gt_in 444 (by rfl) rfl, gt_in 70 (by decide +kernel) rfl, by decide +kernel, by decide +kernel⟩
theorem mv_SR_droppable : MV yX10_droppable := ⟨gt_in 442 (by decide +kernel) rfl, gt_in 443 (by decide +kernel) rfl⟩
theorem ml_RL_165 : Cond.methodLink RL 165 yX10_droppable ∈ GT := gt_in 441 (by decide +kernel) rfl
set_option maxRecDepth 100000 in
theorem mi_Mo_droppable : MI yX11_droppable cX11_droppable 3 (some .int) 0 := ⟨gt_in 1406 (by rfl) rfl, gt_in 79 (by decide +kernel) rfl, by decide +kernel, by decide +kernel⟩
theorem mv_Mo_droppable : MV yX11_droppable := ⟨gt_in 1404 (by decide +kernel) rfl, gt_in 1405 (by decide +kernel) rfl⟩
theorem ml_RL_168 : Cond.methodLink RL 168 yX11_droppable ∈ GT := gt_in 1403 (by decide +kernel) rfl
theorem ml_RL_169 : Cond.methodLink RL 169 yL_apart ∈ GT := gt_in 950 (by decide +kernel) rfl
set_option maxRecDepth 100000 in
theorem mi_Mo_apart : MI yX11_apart cX11_apart 3 (some .int) 2 := ⟨gt_in 1410 (by rfl) rfl, gt_in 79 (by decide +kernel) rfl, by decide +kernel, by decide +kernel⟩
theorem mv_Mo_apart : MV yX11_apart := ⟨gt_in 1408 (by decide +kernel) rfl, gt_in 1409 (by decide +kernel) rfl⟩
theorem ml_RL_171 : Cond.methodLink RL 171 yX11_apart ∈ GT := gt_in 1407 (by decide +kernel) rfl
theorem ml_RL_172 : Cond.methodLink RL 172 yL_payable ∈ GT := gt_in 961 (by decide +kernel) rfl
set_option maxRecDepth 100000 in
theorem mi_Mo_payable : MI yX11_payable cX11_payable 2 (some .int) 1 := ⟨gt_in 1414 (by rfl) rfl, gt_in 79 (by decide +kernel) rfl, by decide +kernel, by decide +kernel⟩
theorem mv_Mo_payable : MV yX11_payable := ⟨gt_in 1412 (by decide +kernel) rfl, gt_in 1413 (by decide +kernel) rfl⟩
theorem ml_RL_174 : Cond.methodLink RL 174 yX11_payable ∈ GT := gt_in 1411 (by decide +kernel) rfl
theorem ml_RL_175 : Cond.methodLink RL 175 yL_worthIn ∈ GT := gt_in 973 (by decide +kernel) rfl
set_option maxRecDepth 100000 in
theorem mi_Mo_worthIn : MI yX11_worthIn cX11_worthIn 2 (some .int) 1 := ⟨gt_in 1422 (by rfl) rfl, gt_in 79 (by decide +kernel) rfl, by decide +kernel, by decide +kernel⟩
theorem mv_Mo_worthIn : MV yX11_worthIn := ⟨gt_in 1420 (by decide +kernel) rfl, gt_in 1421 (by decide +kernel) rfl⟩
theorem ml_RL_177 : Cond.methodLink RL 177 yX11_worthIn ∈ GT := gt_in 1419 (by decide +kernel) rfl
theorem ml_RL_180 : Cond.methodLink RL 180 yL_runScript ∈ GT := gt_in 984 (by decide +kernel) rfl
set_option maxRecDepth 100000 in
theorem mi_Mo_runScript : MI yX11_runScript cX11_runScript 6 (some .int) 2 := ⟨gt_in 1430 (by rfl) rfl, gt_in 79 (by decide +kernel) rfl, by decide +kernel, by decide +kernel⟩
theorem mv_Mo_runScript : MV yX11_runScript := ⟨gt_in 1428 (by decide +kernel) rfl, gt_in 1429 (by decide +kernel) rfl⟩
theorem ml_RL_183 : Cond.methodLink RL 183 yX11_runScript ∈ GT := gt_in 1427 (by decide +kernel) rfl
theorem ml_RL_184 : Cond.methodLink RL 184 yL_simulate ∈ GT := gt_in 1013 (by decide +kernel) rfl
set_option maxRecDepth 100000 in
theorem mi_Mo_simulate : MI yX11_simulate cX11_simulate 4 (some .int) 2 := ⟨gt_in 1454 (by rfl) rfl, gt_in 79 (by decide +kernel) rfl, by decide +kernel, by decide +kernel⟩
theorem mv_Mo_simulate : MV yX11_simulate := ⟨gt_in 1452 (by decide +kernel) rfl, gt_in 1453 (by decide +kernel) rfl⟩
theorem ml_RL_187 : Cond.methodLink RL 187 yX11_simulate ∈ GT := gt_in 1451 (by decide +kernel) rfl
theorem ml_RL_188 : Cond.methodLink RL 188 yL_save ∈ GT := gt_in 1038 (by decide +kernel) rfl
set_option maxRecDepth 100000 in
theorem mi_Mo_save : MI yX11_save cX11_save 3 (some .int) 1 := ⟨gt_in 1471 (by rfl) rfl, gt_in 79 (by decide +kernel) rfl, by decide +kernel, by decide +kernel⟩
theorem mv_Mo_save : MV yX11_save := ⟨gt_in 1469 (by decide +kernel) rfl, gt_in 1470 (by decide +kernel) rfl⟩
theorem ml_RL_190 : Cond.methodLink RL 190 yX11_save ∈ GT := gt_in 1468 (by decide +kernel) rfl
theorem ml_RL_191 : Cond.methodLink RL 191 yL_restore ∈ GT := gt_in 1053 (by decide +kernel) rfl
set_option maxRecDepth 100000 in
theorem mi_Mo_restore : MI yX11_restore cX11_restore 3 (some .int) 1 := ⟨gt_in 1475 (by rfl) rfl, gt_in 79 (by decide +kernel) rfl, by decide +kernel, by decide +kernel⟩
theorem mv_Mo_restore : MV yX11_restore := ⟨gt_in 1473 (by decide +kernel) rfl, gt_in 1474 (by decide +kernel) rfl⟩
theorem ml_RL_193 : Cond.methodLink RL 193 yX11_restore ∈ GT := gt_in 1472 (by decide +kernel) rfl
theorem l_0 {X : KX} {B : KB} {L : KLay} {b Ln : Nat} {xs : Nat → Int32} {M : KMem} {cn sn : Nat} {i : Int32} (H : LG X B L b Ln xs) (hg : GI M) (h1 : vp_in (i + 1) Ln) (h2 : vp_in (i + 2) Ln) (h3 : vp_in (i + 3) Ln) (h4 : vp_in (i + 4) Ln) (hc : cn + 100 ≤ 601024) (hs : sn + 1000 ≤ 7293034) (K : ∀ M3 k n, GI M3 → k ≤ cn + 100 → n ≤ sn + 1000 → KK X B L 7 k n M3 1763 (ls5 B b i) []) : KK X B L 7 cn sn M 160 (ls5 B b i) [] := by
  obtain ⟨G, hx, ⟨hu, hv, ho⟩, -⟩ := id H
  obtain ⟨r, M1, k, M2, q, M3, e1, e2, e3, e4, e5, g3⟩ := pub_w (pub_append hg (xs (i + 1).toNatClampNeg)) (by decide)
  refine k_aload_n G (dc d_law_0 0 rfl) 1 rfl rfl ?_
  refine k_aload_n G (dc d_law_0 1 rfl) 0 rfl rfl ?_
  refine k_iload G (dc d_law_0 2 rfl) 4 rfl ?_
  refine k_iconst G (dc d_law_0 3 rfl) cI_1 ?_
  refine k_iadd G (dc d_law_0 4 rfl) ?_
  refine k_sld H h1 (dc d_law_0 5 rfl) ?_
  refine k_aload_n G (dc d_law_0 6 rfl) 3 rfl rfl ?_
  refine k_cSH G (dc d_law_0 7 rfl) mh_append mst_append ml_RL_97 (c_La_append (gst G) hx hu ho e1 e2) rfl rfl ⟨rfl, rfl⟩ rfl ⟨blC hc rfl, blS hs rfl⟩ ?_
  refine k_istore G (dc d_law_0 8 rfl) rfl rfl ?_
  refine k_aload_n G (dc d_law_0 9 rfl) 3 rfl rfl ?_
  refine k_aload_n G (dc d_law_0 10 rfl) 1 rfl rfl ?_
  refine k_iload G (dc d_law_0 11 rfl) 5 rfl ?_
  refine k_iconst G (dc d_law_0 12 rfl) cI_1 ?_
  refine k_iadd G (dc d_law_0 13 rfl) ?_
  refine k_sld H h1 (dc d_law_0 14 rfl) ?_
  refine k_cVI G (dc d_law_0 15 rfl) kc8 (okL_lt hv (o := 0) 0 rfl) (okL_k hv (o := 0) 0 rfl) mi_Mo_append mv_Mo_append rfl ml_RL_102 (c_Mo_append (gst G) hv e3) rfl rfl ⟨rfl, rfl⟩ rfl ⟨blC2 hc rfl, blS2 hs rfl⟩ ⟨rfl, rfl⟩ ?_
  refine k_istore G (dc d_law_0 16 rfl) rfl rfl ?_
  refine k_aload_n G (dc d_law_0 17 rfl) 4 rfl rfl ?_
  refine k_cVI G (dc d_law_0 18 rfl) kc8 (okL_lt hv (o := 0) 0 rfl) (okL_k hv (o := 0) 0 rfl) mi_Mo_thrown mv_Mo_thrown rfl ml_RL_103 (c_Mo_thrown (gst G) hv (show m_Mo_thrown 235 M3 = some (M3 235 0) from rfl)) rfl rfl ⟨rfl, rfl⟩ rfl ⟨blC2 hc rfl, blS2 hs rfl⟩ ⟨rfl, rfl⟩ ?_
  refine k_iload G (dc d_law_0 19 rfl) 1 rfl ?_
  refine k_icmp_eq G (dc d_law_0 20 rfl) (tgt := 196) rfl (fun _ => ?_) (fun c9 => (c9 e4).elim)
  refine k_iload G (dc d_law_0 23 rfl) 1 rfl ?_
  refine k_if_ne G (dc d_law_0 24 rfl) (tgt := 213) rfl (fun _ => ?_) (fun c9 => ?_)
  · refine k_goto G (dc d_law_0 34 rfl) (tgt := 1763) rfl ?_
    refine k_sub [2, 3, 4, 5, 6] rfl ?_
    exact K M3 _ _ g3 (leC rfl) (leC rfl)
  refine k_aload_n G (dc d_law_0 25 rfl) 5 rfl rfl ?_
  refine k_iconst G (dc d_law_0 26 rfl) cI_0 ?_
  refine k_lld G (dc d_law_0 27 rfl) ho.1 ho.2.1 ho.2.2 (rdN (j := 0) (by omega) (by omega)) ?_
  refine k_iload G (dc d_law_0 28 rfl) 0 rfl ?_
  refine k_i2l G (dc d_law_0 29 rfl) ?_
  refine k_lcmp G (dc d_law_0 30 rfl) ?_
  refine k_if_eq G (dc d_law_0 31 rfl) (tgt := 213) rfl (fun _ => ?_) (fun c8 => (c8 (by rw [e5 c9]; exact lgc_self _)).elim)
  refine k_goto G (dc d_law_0 34 rfl) (tgt := 1763) rfl ?_
  refine k_sub [2, 3, 4, 5, 6] rfl ?_
  exact K M3 _ _ g3 (leC rfl) (leC rfl)
theorem l_1 {X : KX} {B : KB} {L : KLay} {b Ln : Nat} {xs : Nat → Int32} {M : KMem} {cn sn : Nat} {i : Int32} (H : LG X B L b Ln xs) (hg : GI M) (h1 : vp_in (i + 1) Ln) (h2 : vp_in (i + 2) Ln) (h3 : vp_in (i + 3) Ln) (h4 : vp_in (i + 4) Ln) (hc : cn + 100 ≤ 601024) (hs : sn + 1000 ≤ 7293034) (K : ∀ M3 k n, GI M3 → k ≤ cn + 100 → n ≤ sn + 1000 → KK X B L 7 k n M3 1763 (ls5 B b i) []) : KK X B L 7 cn sn M 216 (ls5 B b i) [] := by
  obtain ⟨G, hx, ⟨hu, hv, ho⟩, -⟩ := id H
  obtain ⟨q, M1, e1, f1, M3, e3, f3, g3⟩ := pub_clearText hg
  refine k_aload_n G (dc d_law_1 0 rfl) 1 rfl rfl ?_
  refine k_cVI G (dc d_law_1 1 rfl) kc7 (okL_lt hu (o := 0) 0 rfl) (okL_k hu (o := 0) 0 rfl) mi_SR_clearText mv_SR_clearText rfl ml_RL_106 (c_SR_clearText (gst G) hu e1) rfl rfl ⟨rfl, rfl⟩ rfl ⟨blC hc rfl, blS hs rfl⟩ ⟨rfl, rfl⟩ ?_
  refine k_aload_n G (dc d_law_1 2 rfl) 2 rfl rfl ?_
  refine k_cVI G (dc d_law_1 3 rfl) kc8 (okL_lt hv (o := 0) 0 rfl) (okL_k hv (o := 0) 0 rfl) mi_Mo_clearText mv_Mo_clearText rfl ml_RL_109 (c_Mo_clearText (gst G) hv e3) rfl rfl ⟨rfl, rfl⟩ rfl ⟨blC hc rfl, blS hs rfl⟩ ⟨rfl, rfl⟩ ?_
  refine k_icmp_eq G (dc d_law_1 4 rfl) (tgt := 1763) rfl (fun _ => ?_) (fun c9 => (c9 rfl).elim)
  exact K M3 cn sn g3 (Nat.le_add_right _ _) (Nat.le_add_right _ _)
theorem l_2 {X : KX} {B : KB} {L : KLay} {b Ln : Nat} {xs : Nat → Int32} {M : KMem} {cn sn : Nat} {i : Int32} (H : LG X B L b Ln xs) (hg : GI M) (h1 : vp_in (i + 1) Ln) (h2 : vp_in (i + 2) Ln) (h3 : vp_in (i + 3) Ln) (h4 : vp_in (i + 4) Ln) (hc : cn + 100 ≤ 601024) (hs : sn + 1000 ≤ 7293034) (K : ∀ M3 k n, GI M3 → k ≤ cn + 100 → n ≤ sn + 1000 → KK X B L 7 k n M3 1763 (ls5 B b i) []) : KK X B L 7 cn sn M 229 (ls5 B b i) [] := by
  obtain ⟨G, hx, ⟨hu, hv, ho⟩, -⟩ := id H
  obtain ⟨q, M1, e1, f1, M3, e3, f3, g3⟩ := pub_errorPosition hg
  refine k_aload_n G (dc d_law_2 0 rfl) 1 rfl rfl ?_
  refine k_cVI G (dc d_law_2 1 rfl) kc7 (okL_lt hu (o := 0) 0 rfl) (okL_k hu (o := 0) 0 rfl) mi_SR_errorPosition mv_SR_errorPosition rfl ml_RL_110 (c_SR_errorPosition (gst G) hu e1) rfl rfl ⟨rfl, rfl⟩ rfl ⟨blC hc rfl, blS hs rfl⟩ ⟨rfl, rfl⟩ ?_
  refine k_aload_n G (dc d_law_2 2 rfl) 2 rfl rfl ?_
  refine k_cVI G (dc d_law_2 3 rfl) kc8 (okL_lt hv (o := 0) 0 rfl) (okL_k hv (o := 0) 0 rfl) mi_Mo_errorPosition mv_Mo_errorPosition rfl ml_RL_113 (c_Mo_errorPosition (gst G) hv e3) rfl rfl ⟨rfl, rfl⟩ rfl ⟨blC hc rfl, blS hs rfl⟩ ⟨rfl, rfl⟩ ?_
  refine k_icmp_eq G (dc d_law_2 4 rfl) (tgt := 1763) rfl (fun _ => ?_) (fun c9 => (c9 rfl).elim)
  exact K M3 cn sn g3 (Nat.le_add_right _ _) (Nat.le_add_right _ _)
theorem l_3 {X : KX} {B : KB} {L : KLay} {b Ln : Nat} {xs : Nat → Int32} {M : KMem} {cn sn : Nat} {i : Int32} (H : LG X B L b Ln xs) (hg : GI M) (h1 : vp_in (i + 1) Ln) (h2 : vp_in (i + 2) Ln) (h3 : vp_in (i + 3) Ln) (h4 : vp_in (i + 4) Ln) (hc : cn + 100 ≤ 601024) (hs : sn + 1000 ≤ 7293034) (K : ∀ M3 k n, GI M3 → k ≤ cn + 100 → n ≤ sn + 1000 → KK X B L 7 k n M3 1763 (ls5 B b i) []) : KK X B L 7 cn sn M 242 (ls5 B b i) [] := by
  obtain ⟨G, hx, ⟨hu, hv, ho⟩, -⟩ := id H
  obtain ⟨r, M1, k, M2, q, M3, e1, e2, e3, e4, e5, g3⟩ := pub_w (pub_load hg) (by decide)
  refine k_aload_n G (dc d_law_3 0 rfl) 1 rfl rfl ?_
  refine k_aload_n G (dc d_law_3 1 rfl) 3 rfl rfl ?_
  refine k_cSH G (dc d_law_3 2 rfl) mh_load mst_load ml_RL_114 (c_La_load (gst G) hx hu ho e1 e2) rfl rfl ⟨rfl, rfl⟩ rfl ⟨blC hc rfl, blS hs rfl⟩ ?_
  refine k_istore G (dc d_law_3 3 rfl) rfl rfl ?_
  refine k_aload_n G (dc d_law_3 4 rfl) 3 rfl rfl ?_
  refine k_cVI G (dc d_law_3 5 rfl) kc8 (okL_lt hv (o := 0) 0 rfl) (okL_k hv (o := 0) 0 rfl) mi_Mo_load mv_Mo_load rfl ml_RL_117 (c_Mo_load (gst G) hv e3) rfl rfl ⟨rfl, rfl⟩ rfl ⟨blC2 hc rfl, blS2 hs rfl⟩ ⟨rfl, rfl⟩ ?_
  refine k_istore G (dc d_law_3 6 rfl) rfl rfl ?_
  refine k_aload_n G (dc d_law_3 7 rfl) 4 rfl rfl ?_
  refine k_cVI G (dc d_law_3 8 rfl) kc8 (okL_lt hv (o := 0) 0 rfl) (okL_k hv (o := 0) 0 rfl) mi_Mo_thrown mv_Mo_thrown rfl ml_RL_103 (c_Mo_thrown (gst G) hv (show m_Mo_thrown 235 M3 = some (M3 235 0) from rfl)) rfl rfl ⟨rfl, rfl⟩ rfl ⟨blC2 hc rfl, blS2 hs rfl⟩ ⟨rfl, rfl⟩ ?_
  refine k_iload G (dc d_law_3 9 rfl) 1 rfl ?_
  refine k_icmp_eq G (dc d_law_3 10 rfl) (tgt := 266) rfl (fun _ => ?_) (fun c9 => (c9 e4).elim)
  refine k_iload G (dc d_law_3 13 rfl) 1 rfl ?_
  refine k_if_ne G (dc d_law_3 14 rfl) (tgt := 283) rfl (fun _ => ?_) (fun c9 => ?_)
  · refine k_goto G (dc d_law_3 24 rfl) (tgt := 1763) rfl ?_
    refine k_sub [2, 3, 4, 5, 6] rfl ?_
    exact K M3 _ _ g3 (leC rfl) (leC rfl)
  refine k_aload_n G (dc d_law_3 15 rfl) 5 rfl rfl ?_
  refine k_iconst G (dc d_law_3 16 rfl) cI_0 ?_
  refine k_lld G (dc d_law_3 17 rfl) ho.1 ho.2.1 ho.2.2 (rdN (j := 0) (by omega) (by omega)) ?_
  refine k_iload G (dc d_law_3 18 rfl) 0 rfl ?_
  refine k_i2l G (dc d_law_3 19 rfl) ?_
  refine k_lcmp G (dc d_law_3 20 rfl) ?_
  refine k_if_eq G (dc d_law_3 21 rfl) (tgt := 283) rfl (fun _ => ?_) (fun c8 => (c8 (by rw [e5 c9]; exact lgc_self _)).elim)
  refine k_goto G (dc d_law_3 24 rfl) (tgt := 1763) rfl ?_
  refine k_sub [2, 3, 4, 5, 6] rfl ?_
  exact K M3 _ _ g3 (leC rfl) (leC rfl)
theorem l_4 {X : KX} {B : KB} {L : KLay} {b Ln : Nat} {xs : Nat → Int32} {M : KMem} {cn sn : Nat} {i : Int32} (H : LG X B L b Ln xs) (hg : GI M) (h1 : vp_in (i + 1) Ln) (h2 : vp_in (i + 2) Ln) (h3 : vp_in (i + 3) Ln) (h4 : vp_in (i + 4) Ln) (hc : cn + 100 ≤ 601024) (hs : sn + 1000 ≤ 7293034) (K : ∀ M3 k n, GI M3 → k ≤ cn + 100 → n ≤ sn + 1000 → KK X B L 7 k n M3 1763 (ls5 B b i) []) : KK X B L 7 cn sn M 286 (ls5 B b i) [] := by
  obtain ⟨G, hx, ⟨hu, hv, ho⟩, -⟩ := id H
  obtain ⟨r, M1, k, M2, q, M3, e1, e2, e3, e4, e5, g3⟩ := pub_w (pub_about hg (xs (i + 1).toNatClampNeg)) (by decide)
  refine k_aload_n G (dc d_law_4 0 rfl) 1 rfl rfl ?_
  refine k_aload_n G (dc d_law_4 1 rfl) 0 rfl rfl ?_
  refine k_iload G (dc d_law_4 2 rfl) 4 rfl ?_
  refine k_iconst G (dc d_law_4 3 rfl) cI_1 ?_
  refine k_iadd G (dc d_law_4 4 rfl) ?_
  refine k_sld H h1 (dc d_law_4 5 rfl) ?_
  refine k_aload_n G (dc d_law_4 6 rfl) 3 rfl rfl ?_
  refine k_cSH G (dc d_law_4 7 rfl) mh_about mst_about ml_RL_118 (c_La_about (gst G) hx hu ho e1 e2) rfl rfl ⟨rfl, rfl⟩ rfl ⟨blC hc rfl, blS hs rfl⟩ ?_
  refine k_istore G (dc d_law_4 8 rfl) rfl rfl ?_
  refine k_aload_n G (dc d_law_4 9 rfl) 3 rfl rfl ?_
  refine k_aload_n G (dc d_law_4 10 rfl) 1 rfl rfl ?_
  refine k_iload G (dc d_law_4 11 rfl) 5 rfl ?_
  refine k_iconst G (dc d_law_4 12 rfl) cI_1 ?_
  refine k_iadd G (dc d_law_4 13 rfl) ?_
  refine k_sld H h1 (dc d_law_4 14 rfl) ?_
  refine k_cVI G (dc d_law_4 15 rfl) kc8 (okL_lt hv (o := 0) 0 rfl) (okL_k hv (o := 0) 0 rfl) mi_Mo_about mv_Mo_about rfl ml_RL_120 (c_Mo_about (gst G) hv e3) rfl rfl ⟨rfl, rfl⟩ rfl ⟨blC2 hc rfl, blS2 hs rfl⟩ ⟨rfl, rfl⟩ ?_
  refine k_istore G (dc d_law_4 16 rfl) rfl rfl ?_
  refine k_aload_n G (dc d_law_4 17 rfl) 4 rfl rfl ?_
  refine k_cVI G (dc d_law_4 18 rfl) kc8 (okL_lt hv (o := 0) 0 rfl) (okL_k hv (o := 0) 0 rfl) mi_Mo_thrown mv_Mo_thrown rfl ml_RL_103 (c_Mo_thrown (gst G) hv (show m_Mo_thrown 235 M3 = some (M3 235 0) from rfl)) rfl rfl ⟨rfl, rfl⟩ rfl ⟨blC2 hc rfl, blS2 hs rfl⟩ ⟨rfl, rfl⟩ ?_
  refine k_iload G (dc d_law_4 19 rfl) 1 rfl ?_
  refine k_icmp_eq G (dc d_law_4 20 rfl) (tgt := 322) rfl (fun _ => ?_) (fun c9 => (c9 e4).elim)
  refine k_iload G (dc d_law_4 23 rfl) 1 rfl ?_
  refine k_if_ne G (dc d_law_4 24 rfl) (tgt := 339) rfl (fun _ => ?_) (fun c9 => ?_)
  · refine k_goto G (dc d_law_4 34 rfl) (tgt := 1763) rfl ?_
    refine k_sub [2, 3, 4, 5, 6] rfl ?_
    exact K M3 _ _ g3 (leC rfl) (leC rfl)
  refine k_aload_n G (dc d_law_4 25 rfl) 5 rfl rfl ?_
  refine k_iconst G (dc d_law_4 26 rfl) cI_0 ?_
  refine k_lld G (dc d_law_4 27 rfl) ho.1 ho.2.1 ho.2.2 (rdN (j := 0) (by omega) (by omega)) ?_
  refine k_iload G (dc d_law_4 28 rfl) 0 rfl ?_
  refine k_i2l G (dc d_law_4 29 rfl) ?_
  refine k_lcmp G (dc d_law_4 30 rfl) ?_
  refine k_if_eq G (dc d_law_4 31 rfl) (tgt := 339) rfl (fun _ => ?_) (fun c8 => (c8 (by rw [e5 c9]; exact lgc_self _)).elim)
  refine k_goto G (dc d_law_4 34 rfl) (tgt := 1763) rfl ?_
  refine k_sub [2, 3, 4, 5, 6] rfl ?_
  exact K M3 _ _ g3 (leC rfl) (leC rfl)
theorem l_5 {X : KX} {B : KB} {L : KLay} {b Ln : Nat} {xs : Nat → Int32} {M : KMem} {cn sn : Nat} {i : Int32} (H : LG X B L b Ln xs) (hg : GI M) (h1 : vp_in (i + 1) Ln) (h2 : vp_in (i + 2) Ln) (h3 : vp_in (i + 3) Ln) (h4 : vp_in (i + 4) Ln) (hc : cn + 100 ≤ 601024) (hs : sn + 1000 ≤ 7293034) (K : ∀ M3 k n, GI M3 → k ≤ cn + 100 → n ≤ sn + 1000 → KK X B L 7 k n M3 1763 (ls5 B b i) []) : KK X B L 7 cn sn M 342 (ls5 B b i) [] := by
  obtain ⟨G, hx, ⟨hu, hv, ho⟩, -⟩ := id H
  obtain ⟨r, M1, k, M2, q, M3, e1, e2, e3, e4, e5, g3⟩ := pub_w (pub_signOf hg (xs (i + 1).toNatClampNeg) (xs (i + 2).toNatClampNeg)) (by decide)
  refine k_aload_n G (dc d_law_5 0 rfl) 1 rfl rfl ?_
  refine k_aload_n G (dc d_law_5 1 rfl) 0 rfl rfl ?_
  refine k_iload G (dc d_law_5 2 rfl) 4 rfl ?_
  refine k_iconst G (dc d_law_5 3 rfl) cI_1 ?_
  refine k_iadd G (dc d_law_5 4 rfl) ?_
  refine k_sld H h1 (dc d_law_5 5 rfl) ?_
  refine k_aload_n G (dc d_law_5 6 rfl) 0 rfl rfl ?_
  refine k_iload G (dc d_law_5 7 rfl) 4 rfl ?_
  refine k_iconst G (dc d_law_5 8 rfl) cI_2 ?_
  refine k_iadd G (dc d_law_5 9 rfl) ?_
  refine k_sld H h2 (dc d_law_5 10 rfl) ?_
  refine k_aload_n G (dc d_law_5 11 rfl) 3 rfl rfl ?_
  refine k_cSH G (dc d_law_5 12 rfl) mh_signOf mst_signOf ml_RL_121 (c_La_signOf (gst G) hx hu ho e1 e2) rfl rfl ⟨rfl, rfl⟩ rfl ⟨blC hc rfl, blS hs rfl⟩ ?_
  refine k_istore G (dc d_law_5 13 rfl) rfl rfl ?_
  refine k_aload_n G (dc d_law_5 14 rfl) 3 rfl rfl ?_
  refine k_aload_n G (dc d_law_5 15 rfl) 1 rfl rfl ?_
  refine k_iload G (dc d_law_5 16 rfl) 5 rfl ?_
  refine k_iconst G (dc d_law_5 17 rfl) cI_1 ?_
  refine k_iadd G (dc d_law_5 18 rfl) ?_
  refine k_sld H h1 (dc d_law_5 19 rfl) ?_
  refine k_aload_n G (dc d_law_5 20 rfl) 1 rfl rfl ?_
  refine k_iload G (dc d_law_5 21 rfl) 5 rfl ?_
  refine k_iconst G (dc d_law_5 22 rfl) cI_2 ?_
  refine k_iadd G (dc d_law_5 23 rfl) ?_
  refine k_sld H h2 (dc d_law_5 24 rfl) ?_
  refine k_cVI G (dc d_law_5 25 rfl) kc8 (okL_lt hv (o := 0) 0 rfl) (okL_k hv (o := 0) 0 rfl) mi_Mo_signOf mv_Mo_signOf rfl ml_RL_124 (c_Mo_signOf (gst G) hv e3) rfl rfl ⟨rfl, rfl⟩ rfl ⟨blC2 hc rfl, blS2 hs rfl⟩ ⟨rfl, rfl⟩ ?_
  refine k_istore G (dc d_law_5 26 rfl) rfl rfl ?_
  refine k_aload_n G (dc d_law_5 27 rfl) 4 rfl rfl ?_
  refine k_cVI G (dc d_law_5 28 rfl) kc8 (okL_lt hv (o := 0) 0 rfl) (okL_k hv (o := 0) 0 rfl) mi_Mo_thrown mv_Mo_thrown rfl ml_RL_103 (c_Mo_thrown (gst G) hv (show m_Mo_thrown 235 M3 = some (M3 235 0) from rfl)) rfl rfl ⟨rfl, rfl⟩ rfl ⟨blC2 hc rfl, blS2 hs rfl⟩ ⟨rfl, rfl⟩ ?_
  refine k_iload G (dc d_law_5 29 rfl) 1 rfl ?_
  refine k_icmp_eq G (dc d_law_5 30 rfl) (tgt := 390) rfl (fun _ => ?_) (fun c9 => (c9 e4).elim)
  refine k_iload G (dc d_law_5 33 rfl) 1 rfl ?_
  refine k_if_ne G (dc d_law_5 34 rfl) (tgt := 407) rfl (fun _ => ?_) (fun c9 => ?_)
  · refine k_goto G (dc d_law_5 44 rfl) (tgt := 1763) rfl ?_
    refine k_sub [2, 3, 4, 5, 6] rfl ?_
    exact K M3 _ _ g3 (leC rfl) (leC rfl)
  refine k_aload_n G (dc d_law_5 35 rfl) 5 rfl rfl ?_
  refine k_iconst G (dc d_law_5 36 rfl) cI_0 ?_
  refine k_lld G (dc d_law_5 37 rfl) ho.1 ho.2.1 ho.2.2 (rdN (j := 0) (by omega) (by omega)) ?_
  refine k_iload G (dc d_law_5 38 rfl) 0 rfl ?_
  refine k_i2l G (dc d_law_5 39 rfl) ?_
  refine k_lcmp G (dc d_law_5 40 rfl) ?_
  refine k_if_eq G (dc d_law_5 41 rfl) (tgt := 407) rfl (fun _ => ?_) (fun c8 => (c8 (by rw [e5 c9]; exact lgc_self _)).elim)
  refine k_goto G (dc d_law_5 44 rfl) (tgt := 1763) rfl ?_
  refine k_sub [2, 3, 4, 5, 6] rfl ?_
  exact K M3 _ _ g3 (leC rfl) (leC rfl)
theorem l_6 {X : KX} {B : KB} {L : KLay} {b Ln : Nat} {xs : Nat → Int32} {M : KMem} {cn sn : Nat} {i : Int32} (H : LG X B L b Ln xs) (hg : GI M) (h1 : vp_in (i + 1) Ln) (h2 : vp_in (i + 2) Ln) (h3 : vp_in (i + 3) Ln) (h4 : vp_in (i + 4) Ln) (hc : cn + 100 ≤ 601024) (hs : sn + 1000 ≤ 7293034) (K : ∀ M3 k n, GI M3 → k ≤ cn + 100 → n ≤ sn + 1000 → KK X B L 7 k n M3 1763 (ls5 B b i) []) : KK X B L 7 cn sn M 410 (ls5 B b i) [] := by
  obtain ⟨G, hx, ⟨hu, hv, ho⟩, -⟩ := id H
  obtain ⟨r, M1, k, M2, q, M3, e1, e2, e3, e4, e5, g3⟩ := pub_w (pub_decreeOf hg (xs (i + 1).toNatClampNeg) (xs (i + 2).toNatClampNeg)) (by decide)
  obtain ⟨e1, rfl⟩ := wm_some e1
  refine k_aload_n G (dc d_law_6 0 rfl) 1 rfl rfl ?_
  refine k_aload_n G (dc d_law_6 1 rfl) 0 rfl rfl ?_
  refine k_iload G (dc d_law_6 2 rfl) 4 rfl ?_
  refine k_iconst G (dc d_law_6 3 rfl) cI_1 ?_
  refine k_iadd G (dc d_law_6 4 rfl) ?_
  refine k_sld H h1 (dc d_law_6 5 rfl) ?_
  refine k_aload_n G (dc d_law_6 6 rfl) 0 rfl rfl ?_
  refine k_iload G (dc d_law_6 7 rfl) 4 rfl ?_
  refine k_iconst G (dc d_law_6 8 rfl) cI_2 ?_
  refine k_iadd G (dc d_law_6 9 rfl) ?_
  refine k_sld H h2 (dc d_law_6 10 rfl) ?_
  refine k_aload_n G (dc d_law_6 11 rfl) 3 rfl rfl ?_
  refine k_cSH G (dc d_law_6 12 rfl) mh_decreeOf mst_decreeOf ml_RL_125 (c_La_decreeOf (gst G) hx hu ho e1 e2) rfl rfl ⟨rfl, rfl⟩ rfl ⟨blC hc rfl, blS hs rfl⟩ ?_
  refine k_istore G (dc d_law_6 13 rfl) rfl rfl ?_
  refine k_aload_n G (dc d_law_6 14 rfl) 3 rfl rfl ?_
  refine k_aload_n G (dc d_law_6 15 rfl) 1 rfl rfl ?_
  refine k_iload G (dc d_law_6 16 rfl) 5 rfl ?_
  refine k_iconst G (dc d_law_6 17 rfl) cI_1 ?_
  refine k_iadd G (dc d_law_6 18 rfl) ?_
  refine k_sld H h1 (dc d_law_6 19 rfl) ?_
  refine k_aload_n G (dc d_law_6 20 rfl) 1 rfl rfl ?_
  refine k_iload G (dc d_law_6 21 rfl) 5 rfl ?_
  refine k_iconst G (dc d_law_6 22 rfl) cI_2 ?_
  refine k_iadd G (dc d_law_6 23 rfl) ?_
  refine k_sld H h2 (dc d_law_6 24 rfl) ?_
  refine k_cVI G (dc d_law_6 25 rfl) kc8 (okL_lt hv (o := 0) 0 rfl) (okL_k hv (o := 0) 0 rfl) mi_Mo_decreeOf mv_Mo_decreeOf rfl ml_RL_127 (c_Mo_decreeOf (gst G) hv e3) rfl rfl ⟨rfl, rfl⟩ rfl ⟨blC2 hc rfl, blS2 hs rfl⟩ ⟨rfl, rfl⟩ ?_
  refine k_istore G (dc d_law_6 26 rfl) rfl rfl ?_
  refine k_aload_n G (dc d_law_6 27 rfl) 4 rfl rfl ?_
  refine k_cVI G (dc d_law_6 28 rfl) kc8 (okL_lt hv (o := 0) 0 rfl) (okL_k hv (o := 0) 0 rfl) mi_Mo_thrown mv_Mo_thrown rfl ml_RL_103 (c_Mo_thrown (gst G) hv (show m_Mo_thrown 235 M3 = some (M3 235 0) from rfl)) rfl rfl ⟨rfl, rfl⟩ rfl ⟨blC2 hc rfl, blS2 hs rfl⟩ ⟨rfl, rfl⟩ ?_
  refine k_iload G (dc d_law_6 29 rfl) 1 rfl ?_
  refine k_icmp_eq G (dc d_law_6 30 rfl) (tgt := 458) rfl (fun _ => ?_) (fun c9 => (c9 e4).elim)
  refine k_iload G (dc d_law_6 33 rfl) 1 rfl ?_
  refine k_if_ne G (dc d_law_6 34 rfl) (tgt := 475) rfl (fun _ => ?_) (fun c9 => ?_)
  · refine k_goto G (dc d_law_6 44 rfl) (tgt := 1763) rfl ?_
    refine k_sub [2, 3, 4, 5, 6] rfl ?_
    exact K M3 _ _ g3 (leC rfl) (leC rfl)
  refine k_aload_n G (dc d_law_6 35 rfl) 5 rfl rfl ?_
  refine k_iconst G (dc d_law_6 36 rfl) cI_0 ?_
  refine k_lld G (dc d_law_6 37 rfl) ho.1 ho.2.1 ho.2.2 (rdN (j := 0) (by omega) (by omega)) ?_
  refine k_iload G (dc d_law_6 38 rfl) 0 rfl ?_
  refine k_i2l G (dc d_law_6 39 rfl) ?_
  refine k_lcmp G (dc d_law_6 40 rfl) ?_
  refine k_if_eq G (dc d_law_6 41 rfl) (tgt := 475) rfl (fun _ => ?_) (fun c8 => (c8 (by rw [e5 c9]; exact lgc_self _)).elim)
  refine k_goto G (dc d_law_6 44 rfl) (tgt := 1763) rfl ?_
  refine k_sub [2, 3, 4, 5, 6] rfl ?_
  exact K M3 _ _ g3 (leC rfl) (leC rfl)
theorem l_7 {X : KX} {B : KB} {L : KLay} {b Ln : Nat} {xs : Nat → Int32} {M : KMem} {cn sn : Nat} {i : Int32} (H : LG X B L b Ln xs) (hg : GI M) (h1 : vp_in (i + 1) Ln) (h2 : vp_in (i + 2) Ln) (h3 : vp_in (i + 3) Ln) (h4 : vp_in (i + 4) Ln) (hc : cn + 100 ≤ 601024) (hs : sn + 1000 ≤ 7293034) (K : ∀ M3 k n, GI M3 → k ≤ cn + 100 → n ≤ sn + 1000 → KK X B L 7 k n M3 1763 (ls5 B b i) []) : KK X B L 7 cn sn M 478 (ls5 B b i) [] := by
  obtain ⟨G, hx, ⟨hu, hv, ho⟩, -⟩ := id H
  obtain ⟨r, M1, k, M2, q, M3, e1, e2, e3, e4, e5, g3⟩ := pub_w (pub_guildOf hg (xs (i + 1).toNatClampNeg) (xs (i + 2).toNatClampNeg)) (by decide)
  obtain ⟨e1, rfl⟩ := wm_some e1
  refine k_aload_n G (dc d_law_7 0 rfl) 1 rfl rfl ?_
  refine k_aload_n G (dc d_law_7 1 rfl) 0 rfl rfl ?_
  refine k_iload G (dc d_law_7 2 rfl) 4 rfl ?_
  refine k_iconst G (dc d_law_7 3 rfl) cI_1 ?_
  refine k_iadd G (dc d_law_7 4 rfl) ?_
  refine k_sld H h1 (dc d_law_7 5 rfl) ?_
  refine k_aload_n G (dc d_law_7 6 rfl) 0 rfl rfl ?_
  refine k_iload G (dc d_law_7 7 rfl) 4 rfl ?_
  refine k_iconst G (dc d_law_7 8 rfl) cI_2 ?_
  refine k_iadd G (dc d_law_7 9 rfl) ?_
  refine k_sld H h2 (dc d_law_7 10 rfl) ?_
  refine k_aload_n G (dc d_law_7 11 rfl) 3 rfl rfl ?_
  refine k_cSH G (dc d_law_7 12 rfl) mh_guildOf mst_guildOf ml_RL_128 (c_La_guildOf (gst G) hx hu ho e1 e2) rfl rfl ⟨rfl, rfl⟩ rfl ⟨blC hc rfl, blS hs rfl⟩ ?_
  refine k_istore G (dc d_law_7 13 rfl) rfl rfl ?_
  refine k_aload_n G (dc d_law_7 14 rfl) 3 rfl rfl ?_
  refine k_aload_n G (dc d_law_7 15 rfl) 1 rfl rfl ?_
  refine k_iload G (dc d_law_7 16 rfl) 5 rfl ?_
  refine k_iconst G (dc d_law_7 17 rfl) cI_1 ?_
  refine k_iadd G (dc d_law_7 18 rfl) ?_
  refine k_sld H h1 (dc d_law_7 19 rfl) ?_
  refine k_aload_n G (dc d_law_7 20 rfl) 1 rfl rfl ?_
  refine k_iload G (dc d_law_7 21 rfl) 5 rfl ?_
  refine k_iconst G (dc d_law_7 22 rfl) cI_2 ?_
  refine k_iadd G (dc d_law_7 23 rfl) ?_
  refine k_sld H h2 (dc d_law_7 24 rfl) ?_
  refine k_cVI G (dc d_law_7 25 rfl) kc8 (okL_lt hv (o := 0) 0 rfl) (okL_k hv (o := 0) 0 rfl) mi_Mo_guildOf mv_Mo_guildOf rfl ml_RL_130 (c_Mo_guildOf (gst G) hv e3) rfl rfl ⟨rfl, rfl⟩ rfl ⟨blC2 hc rfl, blS2 hs rfl⟩ ⟨rfl, rfl⟩ ?_
  refine k_istore G (dc d_law_7 26 rfl) rfl rfl ?_
  refine k_aload_n G (dc d_law_7 27 rfl) 4 rfl rfl ?_
  refine k_cVI G (dc d_law_7 28 rfl) kc8 (okL_lt hv (o := 0) 0 rfl) (okL_k hv (o := 0) 0 rfl) mi_Mo_thrown mv_Mo_thrown rfl ml_RL_103 (c_Mo_thrown (gst G) hv (show m_Mo_thrown 235 M3 = some (M3 235 0) from rfl)) rfl rfl ⟨rfl, rfl⟩ rfl ⟨blC2 hc rfl, blS2 hs rfl⟩ ⟨rfl, rfl⟩ ?_
  refine k_iload G (dc d_law_7 29 rfl) 1 rfl ?_
  refine k_icmp_eq G (dc d_law_7 30 rfl) (tgt := 526) rfl (fun _ => ?_) (fun c9 => (c9 e4).elim)
  refine k_iload G (dc d_law_7 33 rfl) 1 rfl ?_
  refine k_if_ne G (dc d_law_7 34 rfl) (tgt := 543) rfl (fun _ => ?_) (fun c9 => ?_)
  · refine k_goto G (dc d_law_7 44 rfl) (tgt := 1763) rfl ?_
    refine k_sub [2, 3, 4, 5, 6] rfl ?_
    exact K M3 _ _ g3 (leC rfl) (leC rfl)
  refine k_aload_n G (dc d_law_7 35 rfl) 5 rfl rfl ?_
  refine k_iconst G (dc d_law_7 36 rfl) cI_0 ?_
  refine k_lld G (dc d_law_7 37 rfl) ho.1 ho.2.1 ho.2.2 (rdN (j := 0) (by omega) (by omega)) ?_
  refine k_iload G (dc d_law_7 38 rfl) 0 rfl ?_
  refine k_i2l G (dc d_law_7 39 rfl) ?_
  refine k_lcmp G (dc d_law_7 40 rfl) ?_
  refine k_if_eq G (dc d_law_7 41 rfl) (tgt := 543) rfl (fun _ => ?_) (fun c8 => (c8 (by rw [e5 c9]; exact lgc_self _)).elim)
  refine k_goto G (dc d_law_7 44 rfl) (tgt := 1763) rfl ?_
  refine k_sub [2, 3, 4, 5, 6] rfl ?_
  exact K M3 _ _ g3 (leC rfl) (leC rfl)
theorem l_8 {X : KX} {B : KB} {L : KLay} {b Ln : Nat} {xs : Nat → Int32} {M : KMem} {cn sn : Nat} {i : Int32} (H : LG X B L b Ln xs) (hg : GI M) (h1 : vp_in (i + 1) Ln) (h2 : vp_in (i + 2) Ln) (h3 : vp_in (i + 3) Ln) (h4 : vp_in (i + 4) Ln) (hc : cn + 100 ≤ 601024) (hs : sn + 1000 ≤ 7293034) (K : ∀ M3 k n, GI M3 → k ≤ cn + 100 → n ≤ sn + 1000 → KK X B L 7 k n M3 1763 (ls5 B b i) []) : KK X B L 7 cn sn M 546 (ls5 B b i) [] := by
  obtain ⟨G, hx, ⟨hu, hv, ho⟩, -⟩ := id H
  obtain ⟨r, M1, k, M2, q, M3, e1, e2, e3, e4, e5, g3⟩ := pub_w (pub_right hg (xs (i + 1).toNatClampNeg) (xs (i + 2).toNatClampNeg)) (by decide)
  refine k_aload_n G (dc d_law_8 0 rfl) 1 rfl rfl ?_
  refine k_aload_n G (dc d_law_8 1 rfl) 0 rfl rfl ?_
  refine k_iload G (dc d_law_8 2 rfl) 4 rfl ?_
  refine k_iconst G (dc d_law_8 3 rfl) cI_1 ?_
  refine k_iadd G (dc d_law_8 4 rfl) ?_
  refine k_sld H h1 (dc d_law_8 5 rfl) ?_
  refine k_aload_n G (dc d_law_8 6 rfl) 0 rfl rfl ?_
  refine k_iload G (dc d_law_8 7 rfl) 4 rfl ?_
  refine k_iconst G (dc d_law_8 8 rfl) cI_2 ?_
  refine k_iadd G (dc d_law_8 9 rfl) ?_
  refine k_sld H h2 (dc d_law_8 10 rfl) ?_
  refine k_aload_n G (dc d_law_8 11 rfl) 3 rfl rfl ?_
  refine k_cSH G (dc d_law_8 12 rfl) mh_right mst_right ml_RL_131 (c_La_right (gst G) hx hu ho e1 e2) rfl rfl ⟨rfl, rfl⟩ rfl ⟨blC hc rfl, blS hs rfl⟩ ?_
  refine k_istore G (dc d_law_8 13 rfl) rfl rfl ?_
  refine k_aload_n G (dc d_law_8 14 rfl) 3 rfl rfl ?_
  refine k_aload_n G (dc d_law_8 15 rfl) 1 rfl rfl ?_
  refine k_iload G (dc d_law_8 16 rfl) 5 rfl ?_
  refine k_iconst G (dc d_law_8 17 rfl) cI_1 ?_
  refine k_iadd G (dc d_law_8 18 rfl) ?_
  refine k_sld H h1 (dc d_law_8 19 rfl) ?_
  refine k_aload_n G (dc d_law_8 20 rfl) 1 rfl rfl ?_
  refine k_iload G (dc d_law_8 21 rfl) 5 rfl ?_
  refine k_iconst G (dc d_law_8 22 rfl) cI_2 ?_
  refine k_iadd G (dc d_law_8 23 rfl) ?_
  refine k_sld H h2 (dc d_law_8 24 rfl) ?_
  refine k_cVI G (dc d_law_8 25 rfl) kc8 (okL_lt hv (o := 0) 0 rfl) (okL_k hv (o := 0) 0 rfl) mi_Mo_right mv_Mo_right rfl ml_RL_133 (c_Mo_right (gst G) hv e3) rfl rfl ⟨rfl, rfl⟩ rfl ⟨blC2 hc rfl, blS2 hs rfl⟩ ⟨rfl, rfl⟩ ?_
  refine k_istore G (dc d_law_8 26 rfl) rfl rfl ?_
  refine k_aload_n G (dc d_law_8 27 rfl) 4 rfl rfl ?_
  refine k_cVI G (dc d_law_8 28 rfl) kc8 (okL_lt hv (o := 0) 0 rfl) (okL_k hv (o := 0) 0 rfl) mi_Mo_thrown mv_Mo_thrown rfl ml_RL_103 (c_Mo_thrown (gst G) hv (show m_Mo_thrown 235 M3 = some (M3 235 0) from rfl)) rfl rfl ⟨rfl, rfl⟩ rfl ⟨blC2 hc rfl, blS2 hs rfl⟩ ⟨rfl, rfl⟩ ?_
  refine k_iload G (dc d_law_8 29 rfl) 1 rfl ?_
  refine k_icmp_eq G (dc d_law_8 30 rfl) (tgt := 594) rfl (fun _ => ?_) (fun c9 => (c9 e4).elim)
  refine k_iload G (dc d_law_8 33 rfl) 1 rfl ?_
  refine k_if_ne G (dc d_law_8 34 rfl) (tgt := 611) rfl (fun _ => ?_) (fun c9 => ?_)
  · refine k_goto G (dc d_law_8 44 rfl) (tgt := 1763) rfl ?_
    refine k_sub [2, 3, 4, 5, 6] rfl ?_
    exact K M3 _ _ g3 (leC rfl) (leC rfl)
  refine k_aload_n G (dc d_law_8 35 rfl) 5 rfl rfl ?_
  refine k_iconst G (dc d_law_8 36 rfl) cI_0 ?_
  refine k_lld G (dc d_law_8 37 rfl) ho.1 ho.2.1 ho.2.2 (rdN (j := 0) (by omega) (by omega)) ?_
  refine k_iload G (dc d_law_8 38 rfl) 0 rfl ?_
  refine k_i2l G (dc d_law_8 39 rfl) ?_
  refine k_lcmp G (dc d_law_8 40 rfl) ?_
  refine k_if_eq G (dc d_law_8 41 rfl) (tgt := 611) rfl (fun _ => ?_) (fun c8 => (c8 (by rw [e5 c9]; exact lgc_self _)).elim)
  refine k_goto G (dc d_law_8 44 rfl) (tgt := 1763) rfl ?_
  refine k_sub [2, 3, 4, 5, 6] rfl ?_
  exact K M3 _ _ g3 (leC rfl) (leC rfl)
theorem l_9 {X : KX} {B : KB} {L : KLay} {b Ln : Nat} {xs : Nat → Int32} {M : KMem} {cn sn : Nat} {i : Int32} (H : LG X B L b Ln xs) (hg : GI M) (h1 : vp_in (i + 1) Ln) (h2 : vp_in (i + 2) Ln) (h3 : vp_in (i + 3) Ln) (h4 : vp_in (i + 4) Ln) (hc : cn + 100 ≤ 601024) (hs : sn + 1000 ≤ 7293034) (K : ∀ M3 k n, GI M3 → k ≤ cn + 100 → n ≤ sn + 1000 → KK X B L 7 k n M3 1763 (ls5 B b i) []) : KK X B L 7 cn sn M 614 (ls5 B b i) [] := by
  obtain ⟨G, hx, ⟨hu, hv, ho⟩, -⟩ := id H
  obtain ⟨r, M1, k, M2, q, M3, e1, e2, e3, e4, e5, g3⟩ := pub_w (pub_setting hg (xs (i + 1).toNatClampNeg)) (by decide)
  obtain ⟨e1, rfl⟩ := wm_some e1
  refine k_aload_n G (dc d_law_9 0 rfl) 1 rfl rfl ?_
  refine k_aload_n G (dc d_law_9 1 rfl) 0 rfl rfl ?_
  refine k_iload G (dc d_law_9 2 rfl) 4 rfl ?_
  refine k_iconst G (dc d_law_9 3 rfl) cI_1 ?_
  refine k_iadd G (dc d_law_9 4 rfl) ?_
  refine k_sld H h1 (dc d_law_9 5 rfl) ?_
  refine k_aload_n G (dc d_law_9 6 rfl) 3 rfl rfl ?_
  refine k_cSH G (dc d_law_9 7 rfl) mh_setting mst_setting ml_RL_134 (c_La_setting (gst G) hx hu ho e1 e2) rfl rfl ⟨rfl, rfl⟩ rfl ⟨blC hc rfl, blS hs rfl⟩ ?_
  refine k_istore G (dc d_law_9 8 rfl) rfl rfl ?_
  refine k_aload_n G (dc d_law_9 9 rfl) 3 rfl rfl ?_
  refine k_aload_n G (dc d_law_9 10 rfl) 1 rfl rfl ?_
  refine k_iload G (dc d_law_9 11 rfl) 5 rfl ?_
  refine k_iconst G (dc d_law_9 12 rfl) cI_1 ?_
  refine k_iadd G (dc d_law_9 13 rfl) ?_
  refine k_sld H h1 (dc d_law_9 14 rfl) ?_
  refine k_cVI G (dc d_law_9 15 rfl) kc8 (okL_lt hv (o := 0) 0 rfl) (okL_k hv (o := 0) 0 rfl) mi_Mo_setting mv_Mo_setting rfl ml_RL_136 (c_Mo_setting (gst G) hv e3) rfl rfl ⟨rfl, rfl⟩ rfl ⟨blC2 hc rfl, blS2 hs rfl⟩ ⟨rfl, rfl⟩ ?_
  refine k_istore G (dc d_law_9 16 rfl) rfl rfl ?_
  refine k_aload_n G (dc d_law_9 17 rfl) 4 rfl rfl ?_
  refine k_cVI G (dc d_law_9 18 rfl) kc8 (okL_lt hv (o := 0) 0 rfl) (okL_k hv (o := 0) 0 rfl) mi_Mo_thrown mv_Mo_thrown rfl ml_RL_103 (c_Mo_thrown (gst G) hv (show m_Mo_thrown 235 M3 = some (M3 235 0) from rfl)) rfl rfl ⟨rfl, rfl⟩ rfl ⟨blC2 hc rfl, blS2 hs rfl⟩ ⟨rfl, rfl⟩ ?_
  refine k_iload G (dc d_law_9 19 rfl) 1 rfl ?_
  refine k_icmp_eq G (dc d_law_9 20 rfl) (tgt := 650) rfl (fun _ => ?_) (fun c9 => (c9 e4).elim)
  refine k_iload G (dc d_law_9 23 rfl) 1 rfl ?_
  refine k_if_ne G (dc d_law_9 24 rfl) (tgt := 667) rfl (fun _ => ?_) (fun c9 => ?_)
  · refine k_goto G (dc d_law_9 34 rfl) (tgt := 1763) rfl ?_
    refine k_sub [2, 3, 4, 5, 6] rfl ?_
    exact K M3 _ _ g3 (leC rfl) (leC rfl)
  refine k_aload_n G (dc d_law_9 25 rfl) 5 rfl rfl ?_
  refine k_iconst G (dc d_law_9 26 rfl) cI_0 ?_
  refine k_lld G (dc d_law_9 27 rfl) ho.1 ho.2.1 ho.2.2 (rdN (j := 0) (by omega) (by omega)) ?_
  refine k_iload G (dc d_law_9 28 rfl) 0 rfl ?_
  refine k_i2l G (dc d_law_9 29 rfl) ?_
  refine k_lcmp G (dc d_law_9 30 rfl) ?_
  refine k_if_eq G (dc d_law_9 31 rfl) (tgt := 667) rfl (fun _ => ?_) (fun c8 => (c8 (by rw [e5 c9]; exact lgc_self _)).elim)
  refine k_goto G (dc d_law_9 34 rfl) (tgt := 1763) rfl ?_
  refine k_sub [2, 3, 4, 5, 6] rfl ?_
  exact K M3 _ _ g3 (leC rfl) (leC rfl)
theorem l_10 {X : KX} {B : KB} {L : KLay} {b Ln : Nat} {xs : Nat → Int32} {M : KMem} {cn sn : Nat} {i : Int32} (H : LG X B L b Ln xs) (hg : GI M) (h1 : vp_in (i + 1) Ln) (h2 : vp_in (i + 2) Ln) (h3 : vp_in (i + 3) Ln) (h4 : vp_in (i + 4) Ln) (hc : cn + 100 ≤ 601024) (hs : sn + 1000 ≤ 7293034) (K : ∀ M3 k n, GI M3 → k ≤ cn + 100 → n ≤ sn + 1000 → KK X B L 7 k n M3 1763 (ls5 B b i) []) : KK X B L 7 cn sn M 670 (ls5 B b i) [] := by
  obtain ⟨G, hx, ⟨hu, hv, ho⟩, -⟩ := id H
  obtain ⟨r, M1, k, M2, q, M3, e1, e2, e3, e4, e5, g3⟩ := pub_w (pub_sign hg (xs (i + 1).toNatClampNeg) (xs (i + 2).toNatClampNeg)) (by decide)
  refine k_aload_n G (dc d_law_10 0 rfl) 1 rfl rfl ?_
  refine k_aload_n G (dc d_law_10 1 rfl) 0 rfl rfl ?_
  refine k_iload G (dc d_law_10 2 rfl) 4 rfl ?_
  refine k_iconst G (dc d_law_10 3 rfl) cI_1 ?_
  refine k_iadd G (dc d_law_10 4 rfl) ?_
  refine k_sld H h1 (dc d_law_10 5 rfl) ?_
  refine k_aload_n G (dc d_law_10 6 rfl) 0 rfl rfl ?_
  refine k_iload G (dc d_law_10 7 rfl) 4 rfl ?_
  refine k_iconst G (dc d_law_10 8 rfl) cI_2 ?_
  refine k_iadd G (dc d_law_10 9 rfl) ?_
  refine k_sld H h2 (dc d_law_10 10 rfl) ?_
  refine k_aload_n G (dc d_law_10 11 rfl) 3 rfl rfl ?_
  refine k_cSH G (dc d_law_10 12 rfl) mh_sign mst_sign ml_RL_137 (c_La_sign (gst G) hx hu ho e1 e2) rfl rfl ⟨rfl, rfl⟩ rfl ⟨blC hc rfl, blS hs rfl⟩ ?_
  refine k_istore G (dc d_law_10 13 rfl) rfl rfl ?_
  refine k_aload_n G (dc d_law_10 14 rfl) 3 rfl rfl ?_
  refine k_aload_n G (dc d_law_10 15 rfl) 1 rfl rfl ?_
  refine k_iload G (dc d_law_10 16 rfl) 5 rfl ?_
  refine k_iconst G (dc d_law_10 17 rfl) cI_1 ?_
  refine k_iadd G (dc d_law_10 18 rfl) ?_
  refine k_sld H h1 (dc d_law_10 19 rfl) ?_
  refine k_aload_n G (dc d_law_10 20 rfl) 1 rfl rfl ?_
  refine k_iload G (dc d_law_10 21 rfl) 5 rfl ?_
  refine k_iconst G (dc d_law_10 22 rfl) cI_2 ?_
  refine k_iadd G (dc d_law_10 23 rfl) ?_
  refine k_sld H h2 (dc d_law_10 24 rfl) ?_
  refine k_cVI G (dc d_law_10 25 rfl) kc8 (okL_lt hv (o := 0) 0 rfl) (okL_k hv (o := 0) 0 rfl) mi_Mo_sign mv_Mo_sign rfl ml_RL_139 (c_Mo_sign (gst G) hv e3) rfl rfl ⟨rfl, rfl⟩ rfl ⟨blC2 hc rfl, blS2 hs rfl⟩ ⟨rfl, rfl⟩ ?_
  refine k_istore G (dc d_law_10 26 rfl) rfl rfl ?_
  refine k_aload_n G (dc d_law_10 27 rfl) 4 rfl rfl ?_
  refine k_cVI G (dc d_law_10 28 rfl) kc8 (okL_lt hv (o := 0) 0 rfl) (okL_k hv (o := 0) 0 rfl) mi_Mo_thrown mv_Mo_thrown rfl ml_RL_103 (c_Mo_thrown (gst G) hv (show m_Mo_thrown 235 M3 = some (M3 235 0) from rfl)) rfl rfl ⟨rfl, rfl⟩ rfl ⟨blC2 hc rfl, blS2 hs rfl⟩ ⟨rfl, rfl⟩ ?_
  refine k_iload G (dc d_law_10 29 rfl) 1 rfl ?_
  refine k_icmp_eq G (dc d_law_10 30 rfl) (tgt := 718) rfl (fun _ => ?_) (fun c9 => (c9 e4).elim)
  refine k_iload G (dc d_law_10 33 rfl) 1 rfl ?_
  refine k_if_ne G (dc d_law_10 34 rfl) (tgt := 735) rfl (fun _ => ?_) (fun c9 => ?_)
  · refine k_goto G (dc d_law_10 44 rfl) (tgt := 1763) rfl ?_
    refine k_sub [2, 3, 4, 5, 6] rfl ?_
    exact K M3 _ _ g3 (leC rfl) (leC rfl)
  refine k_aload_n G (dc d_law_10 35 rfl) 5 rfl rfl ?_
  refine k_iconst G (dc d_law_10 36 rfl) cI_0 ?_
  refine k_lld G (dc d_law_10 37 rfl) ho.1 ho.2.1 ho.2.2 (rdN (j := 0) (by omega) (by omega)) ?_
  refine k_iload G (dc d_law_10 38 rfl) 0 rfl ?_
  refine k_i2l G (dc d_law_10 39 rfl) ?_
  refine k_lcmp G (dc d_law_10 40 rfl) ?_
  refine k_if_eq G (dc d_law_10 41 rfl) (tgt := 735) rfl (fun _ => ?_) (fun c8 => (c8 (by rw [e5 c9]; exact lgc_self _)).elim)
  refine k_goto G (dc d_law_10 44 rfl) (tgt := 1763) rfl ?_
  refine k_sub [2, 3, 4, 5, 6] rfl ?_
  exact K M3 _ _ g3 (leC rfl) (leC rfl)
theorem l_11 {X : KX} {B : KB} {L : KLay} {b Ln : Nat} {xs : Nat → Int32} {M : KMem} {cn sn : Nat} {i : Int32} (H : LG X B L b Ln xs) (hg : GI M) (h1 : vp_in (i + 1) Ln) (h2 : vp_in (i + 2) Ln) (h3 : vp_in (i + 3) Ln) (h4 : vp_in (i + 4) Ln) (hc : cn + 100 ≤ 601024) (hs : sn + 1000 ≤ 7293034) (K : ∀ M3 k n, GI M3 → k ≤ cn + 100 → n ≤ sn + 1000 → KK X B L 7 k n M3 1763 (ls5 B b i) []) : KK X B L 7 cn sn M 738 (ls5 B b i) [] := by
  obtain ⟨G, hx, ⟨hu, hv, ho⟩, -⟩ := id H
  obtain ⟨r, M1, k, M2, q, M3, e1, e2, e3, e4, e5, g3⟩ := pub_w (pub_decree hg (xs (i + 1).toNatClampNeg) (xs (i + 2).toNatClampNeg) (xs (i + 3).toNatClampNeg) (xs (i + 4).toNatClampNeg)) (by decide)
  refine k_aload_n G (dc d_law_11 0 rfl) 1 rfl rfl ?_
  refine k_aload_n G (dc d_law_11 1 rfl) 0 rfl rfl ?_
  refine k_iload G (dc d_law_11 2 rfl) 4 rfl ?_
  refine k_iconst G (dc d_law_11 3 rfl) cI_1 ?_
  refine k_iadd G (dc d_law_11 4 rfl) ?_
  refine k_sld H h1 (dc d_law_11 5 rfl) ?_
  refine k_aload_n G (dc d_law_11 6 rfl) 0 rfl rfl ?_
  refine k_iload G (dc d_law_11 7 rfl) 4 rfl ?_
  refine k_iconst G (dc d_law_11 8 rfl) cI_2 ?_
  refine k_iadd G (dc d_law_11 9 rfl) ?_
  refine k_sld H h2 (dc d_law_11 10 rfl) ?_
  refine k_aload_n G (dc d_law_11 11 rfl) 0 rfl rfl ?_
  refine k_iload G (dc d_law_11 12 rfl) 4 rfl ?_
  refine k_iconst G (dc d_law_11 13 rfl) cI_3 ?_
  refine k_iadd G (dc d_law_11 14 rfl) ?_
  refine k_sld H h3 (dc d_law_11 15 rfl) ?_
  refine k_aload_n G (dc d_law_11 16 rfl) 0 rfl rfl ?_
  refine k_iload G (dc d_law_11 17 rfl) 4 rfl ?_
  refine k_iconst G (dc d_law_11 18 rfl) cI_4 ?_
  refine k_iadd G (dc d_law_11 19 rfl) ?_
  refine k_sld H h4 (dc d_law_11 20 rfl) ?_
  refine k_aload_n G (dc d_law_11 21 rfl) 3 rfl rfl ?_
  refine k_cSH G (dc d_law_11 22 rfl) mh_decree mst_decree ml_RL_140 (c_La_decree (gst G) hx hu ho e1 e2) rfl rfl ⟨rfl, rfl⟩ rfl ⟨blC hc rfl, blS hs rfl⟩ ?_
  refine k_istore G (dc d_law_11 23 rfl) rfl rfl ?_
  refine k_aload_n G (dc d_law_11 24 rfl) 3 rfl rfl ?_
  refine k_aload_n G (dc d_law_11 25 rfl) 1 rfl rfl ?_
  refine k_iload G (dc d_law_11 26 rfl) 5 rfl ?_
  refine k_iconst G (dc d_law_11 27 rfl) cI_1 ?_
  refine k_iadd G (dc d_law_11 28 rfl) ?_
  refine k_sld H h1 (dc d_law_11 29 rfl) ?_
  refine k_aload_n G (dc d_law_11 30 rfl) 1 rfl rfl ?_
  refine k_iload G (dc d_law_11 31 rfl) 5 rfl ?_
  refine k_iconst G (dc d_law_11 32 rfl) cI_2 ?_
  refine k_iadd G (dc d_law_11 33 rfl) ?_
  refine k_sld H h2 (dc d_law_11 34 rfl) ?_
  refine k_aload_n G (dc d_law_11 35 rfl) 1 rfl rfl ?_
  refine k_iload G (dc d_law_11 36 rfl) 5 rfl ?_
  refine k_iconst G (dc d_law_11 37 rfl) cI_3 ?_
  refine k_iadd G (dc d_law_11 38 rfl) ?_
  refine k_sld H h3 (dc d_law_11 39 rfl) ?_
  refine k_aload_n G (dc d_law_11 40 rfl) 1 rfl rfl ?_
  refine k_iload G (dc d_law_11 41 rfl) 5 rfl ?_
  refine k_iconst G (dc d_law_11 42 rfl) cI_4 ?_
  refine k_iadd G (dc d_law_11 43 rfl) ?_
  refine k_sld H h4 (dc d_law_11 44 rfl) ?_
  refine k_cVI G (dc d_law_11 45 rfl) kc8 (okL_lt hv (o := 0) 0 rfl) (okL_k hv (o := 0) 0 rfl) mi_Mo_decree mv_Mo_decree rfl ml_RL_143 (c_Mo_decree (gst G) hv e3) rfl rfl ⟨rfl, rfl⟩ rfl ⟨blC2 hc rfl, blS2 hs rfl⟩ ⟨rfl, rfl⟩ ?_
  refine k_istore G (dc d_law_11 46 rfl) rfl rfl ?_
  refine k_aload_n G (dc d_law_11 47 rfl) 4 rfl rfl ?_
  refine k_cVI G (dc d_law_11 48 rfl) kc8 (okL_lt hv (o := 0) 0 rfl) (okL_k hv (o := 0) 0 rfl) mi_Mo_thrown mv_Mo_thrown rfl ml_RL_103 (c_Mo_thrown (gst G) hv (show m_Mo_thrown 235 M3 = some (M3 235 0) from rfl)) rfl rfl ⟨rfl, rfl⟩ rfl ⟨blC2 hc rfl, blS2 hs rfl⟩ ⟨rfl, rfl⟩ ?_
  refine k_iload G (dc d_law_11 49 rfl) 1 rfl ?_
  refine k_icmp_eq G (dc d_law_11 50 rfl) (tgt := 810) rfl (fun _ => ?_) (fun c9 => (c9 e4).elim)
  refine k_iload G (dc d_law_11 53 rfl) 1 rfl ?_
  refine k_if_ne G (dc d_law_11 54 rfl) (tgt := 827) rfl (fun _ => ?_) (fun c9 => ?_)
  · refine k_goto G (dc d_law_11 64 rfl) (tgt := 1763) rfl ?_
    refine k_sub [2, 3, 4, 5, 6] rfl ?_
    exact K M3 _ _ g3 (leC rfl) (leC rfl)
  refine k_aload_n G (dc d_law_11 55 rfl) 5 rfl rfl ?_
  refine k_iconst G (dc d_law_11 56 rfl) cI_0 ?_
  refine k_lld G (dc d_law_11 57 rfl) ho.1 ho.2.1 ho.2.2 (rdN (j := 0) (by omega) (by omega)) ?_
  refine k_iload G (dc d_law_11 58 rfl) 0 rfl ?_
  refine k_i2l G (dc d_law_11 59 rfl) ?_
  refine k_lcmp G (dc d_law_11 60 rfl) ?_
  refine k_if_eq G (dc d_law_11 61 rfl) (tgt := 827) rfl (fun _ => ?_) (fun c8 => (c8 (by rw [e5 c9]; exact lgc_self _)).elim)
  refine k_goto G (dc d_law_11 64 rfl) (tgt := 1763) rfl ?_
  refine k_sub [2, 3, 4, 5, 6] rfl ?_
  exact K M3 _ _ g3 (leC rfl) (leC rfl)
theorem l_12 {X : KX} {B : KB} {L : KLay} {b Ln : Nat} {xs : Nat → Int32} {M : KMem} {cn sn : Nat} {i : Int32} (H : LG X B L b Ln xs) (hg : GI M) (h1 : vp_in (i + 1) Ln) (h2 : vp_in (i + 2) Ln) (h3 : vp_in (i + 3) Ln) (h4 : vp_in (i + 4) Ln) (hc : cn + 100 ≤ 601024) (hs : sn + 1000 ≤ 7293034) (K : ∀ M3 k n, GI M3 → k ≤ cn + 100 → n ≤ sn + 1000 → KK X B L 7 k n M3 1763 (ls5 B b i) []) : KK X B L 7 cn sn M 830 (ls5 B b i) [] := by
  obtain ⟨G, hx, ⟨hu, hv, ho⟩, -⟩ := id H
  obtain ⟨r, M1, k, M2, q, M3, e1, e2, e3, e4, e5, g3⟩ := pub_w (pub_revoke hg (xs (i + 1).toNatClampNeg)) (by decide)
  refine k_aload_n G (dc d_law_12 0 rfl) 1 rfl rfl ?_
  refine k_aload_n G (dc d_law_12 1 rfl) 0 rfl rfl ?_
  refine k_iload G (dc d_law_12 2 rfl) 4 rfl ?_
  refine k_iconst G (dc d_law_12 3 rfl) cI_1 ?_
  refine k_iadd G (dc d_law_12 4 rfl) ?_
  refine k_sld H h1 (dc d_law_12 5 rfl) ?_
  refine k_aload_n G (dc d_law_12 6 rfl) 3 rfl rfl ?_
  refine k_cSH G (dc d_law_12 7 rfl) mh_revoke mst_revoke ml_RL_144 (c_La_revoke (gst G) hx hu ho e1 e2) rfl rfl ⟨rfl, rfl⟩ rfl ⟨blC hc rfl, blS hs rfl⟩ ?_
  refine k_istore G (dc d_law_12 8 rfl) rfl rfl ?_
  refine k_aload_n G (dc d_law_12 9 rfl) 3 rfl rfl ?_
  refine k_aload_n G (dc d_law_12 10 rfl) 1 rfl rfl ?_
  refine k_iload G (dc d_law_12 11 rfl) 5 rfl ?_
  refine k_iconst G (dc d_law_12 12 rfl) cI_1 ?_
  refine k_iadd G (dc d_law_12 13 rfl) ?_
  refine k_sld H h1 (dc d_law_12 14 rfl) ?_
  refine k_cVI G (dc d_law_12 15 rfl) kc8 (okL_lt hv (o := 0) 0 rfl) (okL_k hv (o := 0) 0 rfl) mi_Mo_revoke mv_Mo_revoke rfl ml_RL_146 (c_Mo_revoke (gst G) hv e3) rfl rfl ⟨rfl, rfl⟩ rfl ⟨blC2 hc rfl, blS2 hs rfl⟩ ⟨rfl, rfl⟩ ?_
  refine k_istore G (dc d_law_12 16 rfl) rfl rfl ?_
  refine k_aload_n G (dc d_law_12 17 rfl) 4 rfl rfl ?_
  refine k_cVI G (dc d_law_12 18 rfl) kc8 (okL_lt hv (o := 0) 0 rfl) (okL_k hv (o := 0) 0 rfl) mi_Mo_thrown mv_Mo_thrown rfl ml_RL_103 (c_Mo_thrown (gst G) hv (show m_Mo_thrown 235 M3 = some (M3 235 0) from rfl)) rfl rfl ⟨rfl, rfl⟩ rfl ⟨blC2 hc rfl, blS2 hs rfl⟩ ⟨rfl, rfl⟩ ?_
  refine k_iload G (dc d_law_12 19 rfl) 1 rfl ?_
  refine k_icmp_eq G (dc d_law_12 20 rfl) (tgt := 866) rfl (fun _ => ?_) (fun c9 => (c9 e4).elim)
  refine k_iload G (dc d_law_12 23 rfl) 1 rfl ?_
  refine k_if_ne G (dc d_law_12 24 rfl) (tgt := 883) rfl (fun _ => ?_) (fun c9 => ?_)
  · refine k_goto G (dc d_law_12 34 rfl) (tgt := 1763) rfl ?_
    refine k_sub [2, 3, 4, 5, 6] rfl ?_
    exact K M3 _ _ g3 (leC rfl) (leC rfl)
  refine k_aload_n G (dc d_law_12 25 rfl) 5 rfl rfl ?_
  refine k_iconst G (dc d_law_12 26 rfl) cI_0 ?_
  refine k_lld G (dc d_law_12 27 rfl) ho.1 ho.2.1 ho.2.2 (rdN (j := 0) (by omega) (by omega)) ?_
  refine k_iload G (dc d_law_12 28 rfl) 0 rfl ?_
  refine k_i2l G (dc d_law_12 29 rfl) ?_
  refine k_lcmp G (dc d_law_12 30 rfl) ?_
  refine k_if_eq G (dc d_law_12 31 rfl) (tgt := 883) rfl (fun _ => ?_) (fun c8 => (c8 (by rw [e5 c9]; exact lgc_self _)).elim)
  refine k_goto G (dc d_law_12 34 rfl) (tgt := 1763) rfl ?_
  refine k_sub [2, 3, 4, 5, 6] rfl ?_
  exact K M3 _ _ g3 (leC rfl) (leC rfl)
theorem l_13 {X : KX} {B : KB} {L : KLay} {b Ln : Nat} {xs : Nat → Int32} {M : KMem} {cn sn : Nat} {i : Int32} (H : LG X B L b Ln xs) (hg : GI M) (h1 : vp_in (i + 1) Ln) (h2 : vp_in (i + 2) Ln) (h3 : vp_in (i + 3) Ln) (h4 : vp_in (i + 4) Ln) (hc : cn + 100 ≤ 601024) (hs : sn + 1000 ≤ 7293034) (K : ∀ M3 k n, GI M3 → k ≤ cn + 100 → n ≤ sn + 1000 → KK X B L 7 k n M3 1763 (ls5 B b i) []) : KK X B L 7 cn sn M 886 (ls5 B b i) [] := by
  obtain ⟨G, hx, ⟨hu, hv, ho⟩, -⟩ := id H
  obtain ⟨r, M1, k, M2, q, M3, e1, e2, e3, e4, e5, g3⟩ := pub_w (pub_paint hg (xs (i + 1).toNatClampNeg)) (by decide)
  refine k_aload_n G (dc d_law_13 0 rfl) 1 rfl rfl ?_
  refine k_aload_n G (dc d_law_13 1 rfl) 0 rfl rfl ?_
  refine k_iload G (dc d_law_13 2 rfl) 4 rfl ?_
  refine k_iconst G (dc d_law_13 3 rfl) cI_1 ?_
  refine k_iadd G (dc d_law_13 4 rfl) ?_
  refine k_sld H h1 (dc d_law_13 5 rfl) ?_
  refine k_aload_n G (dc d_law_13 6 rfl) 3 rfl rfl ?_
  refine k_cSH G (dc d_law_13 7 rfl) mh_paint mst_paint ml_RL_147 (c_La_paint (gst G) hx hu ho e1 e2) rfl rfl ⟨rfl, rfl⟩ rfl ⟨blC hc rfl, blS hs rfl⟩ ?_
  refine k_istore G (dc d_law_13 8 rfl) rfl rfl ?_
  refine k_aload_n G (dc d_law_13 9 rfl) 3 rfl rfl ?_
  refine k_aload_n G (dc d_law_13 10 rfl) 1 rfl rfl ?_
  refine k_iload G (dc d_law_13 11 rfl) 5 rfl ?_
  refine k_iconst G (dc d_law_13 12 rfl) cI_1 ?_
  refine k_iadd G (dc d_law_13 13 rfl) ?_
  refine k_sld H h1 (dc d_law_13 14 rfl) ?_
  refine k_cVI G (dc d_law_13 15 rfl) kc8 (okL_lt hv (o := 0) 0 rfl) (okL_k hv (o := 0) 0 rfl) mi_Mo_paint mv_Mo_paint rfl ml_RL_149 (c_Mo_paint (gst G) hv e3) rfl rfl ⟨rfl, rfl⟩ rfl ⟨blC2 hc rfl, blS2 hs rfl⟩ ⟨rfl, rfl⟩ ?_
  refine k_istore G (dc d_law_13 16 rfl) rfl rfl ?_
  refine k_aload_n G (dc d_law_13 17 rfl) 4 rfl rfl ?_
  refine k_cVI G (dc d_law_13 18 rfl) kc8 (okL_lt hv (o := 0) 0 rfl) (okL_k hv (o := 0) 0 rfl) mi_Mo_thrown mv_Mo_thrown rfl ml_RL_103 (c_Mo_thrown (gst G) hv (show m_Mo_thrown 235 M3 = some (M3 235 0) from rfl)) rfl rfl ⟨rfl, rfl⟩ rfl ⟨blC2 hc rfl, blS2 hs rfl⟩ ⟨rfl, rfl⟩ ?_
  refine k_iload G (dc d_law_13 19 rfl) 1 rfl ?_
  refine k_icmp_eq G (dc d_law_13 20 rfl) (tgt := 922) rfl (fun _ => ?_) (fun c9 => (c9 e4).elim)
  refine k_iload G (dc d_law_13 23 rfl) 1 rfl ?_
  refine k_if_ne G (dc d_law_13 24 rfl) (tgt := 939) rfl (fun _ => ?_) (fun c9 => ?_)
  · refine k_goto G (dc d_law_13 34 rfl) (tgt := 1763) rfl ?_
    refine k_sub [2, 3, 4, 5, 6] rfl ?_
    exact K M3 _ _ g3 (leC rfl) (leC rfl)
  refine k_aload_n G (dc d_law_13 25 rfl) 5 rfl rfl ?_
  refine k_iconst G (dc d_law_13 26 rfl) cI_0 ?_
  refine k_lld G (dc d_law_13 27 rfl) ho.1 ho.2.1 ho.2.2 (rdN (j := 0) (by omega) (by omega)) ?_
  refine k_iload G (dc d_law_13 28 rfl) 0 rfl ?_
  refine k_i2l G (dc d_law_13 29 rfl) ?_
  refine k_lcmp G (dc d_law_13 30 rfl) ?_
  refine k_if_eq G (dc d_law_13 31 rfl) (tgt := 939) rfl (fun _ => ?_) (fun c8 => (c8 (by rw [e5 c9]; exact lgc_self _)).elim)
  refine k_goto G (dc d_law_13 34 rfl) (tgt := 1763) rfl ?_
  refine k_sub [2, 3, 4, 5, 6] rfl ?_
  exact K M3 _ _ g3 (leC rfl) (leC rfl)
theorem l_14 {X : KX} {B : KB} {L : KLay} {b Ln : Nat} {xs : Nat → Int32} {M : KMem} {cn sn : Nat} {i : Int32} (H : LG X B L b Ln xs) (hg : GI M) (h1 : vp_in (i + 1) Ln) (h2 : vp_in (i + 2) Ln) (h3 : vp_in (i + 3) Ln) (h4 : vp_in (i + 4) Ln) (hc : cn + 100 ≤ 601024) (hs : sn + 1000 ≤ 7293034) (K : ∀ M3 k n, GI M3 → k ≤ cn + 100 → n ≤ sn + 1000 → KK X B L 7 k n M3 1763 (ls5 B b i) []) : KK X B L 7 cn sn M 942 (ls5 B b i) [] := by
  obtain ⟨G, hx, ⟨hu, hv, ho⟩, -⟩ := id H
  obtain ⟨r, M1, k, M2, q, M3, e1, e2, e3, e4, e5, g3⟩ := pub_w (pub_months hg (xs (i + 1).toNatClampNeg)) (by decide)
  refine k_aload_n G (dc d_law_14 0 rfl) 1 rfl rfl ?_
  refine k_aload_n G (dc d_law_14 1 rfl) 0 rfl rfl ?_
  refine k_iload G (dc d_law_14 2 rfl) 4 rfl ?_
  refine k_iconst G (dc d_law_14 3 rfl) cI_1 ?_
  refine k_iadd G (dc d_law_14 4 rfl) ?_
  refine k_sld H h1 (dc d_law_14 5 rfl) ?_
  refine k_aload_n G (dc d_law_14 6 rfl) 3 rfl rfl ?_
  refine k_cSH G (dc d_law_14 7 rfl) mh_months mst_months ml_RL_150 (c_La_months (gst G) hx hu ho e1 e2) rfl rfl ⟨rfl, rfl⟩ rfl ⟨blC hc rfl, blS hs rfl⟩ ?_
  refine k_istore G (dc d_law_14 8 rfl) rfl rfl ?_
  refine k_aload_n G (dc d_law_14 9 rfl) 3 rfl rfl ?_
  refine k_aload_n G (dc d_law_14 10 rfl) 1 rfl rfl ?_
  refine k_iload G (dc d_law_14 11 rfl) 5 rfl ?_
  refine k_iconst G (dc d_law_14 12 rfl) cI_1 ?_
  refine k_iadd G (dc d_law_14 13 rfl) ?_
  refine k_sld H h1 (dc d_law_14 14 rfl) ?_
  refine k_cVI G (dc d_law_14 15 rfl) kc8 (okL_lt hv (o := 0) 0 rfl) (okL_k hv (o := 0) 0 rfl) mi_Mo_months mv_Mo_months rfl ml_RL_152 (c_Mo_months (gst G) hv e3) rfl rfl ⟨rfl, rfl⟩ rfl ⟨blC2 hc rfl, blS2 hs rfl⟩ ⟨rfl, rfl⟩ ?_
  refine k_istore G (dc d_law_14 16 rfl) rfl rfl ?_
  refine k_aload_n G (dc d_law_14 17 rfl) 4 rfl rfl ?_
  refine k_cVI G (dc d_law_14 18 rfl) kc8 (okL_lt hv (o := 0) 0 rfl) (okL_k hv (o := 0) 0 rfl) mi_Mo_thrown mv_Mo_thrown rfl ml_RL_103 (c_Mo_thrown (gst G) hv (show m_Mo_thrown 235 M3 = some (M3 235 0) from rfl)) rfl rfl ⟨rfl, rfl⟩ rfl ⟨blC2 hc rfl, blS2 hs rfl⟩ ⟨rfl, rfl⟩ ?_
  refine k_iload G (dc d_law_14 19 rfl) 1 rfl ?_
  refine k_icmp_eq G (dc d_law_14 20 rfl) (tgt := 978) rfl (fun _ => ?_) (fun c9 => (c9 e4).elim)
  refine k_iload G (dc d_law_14 23 rfl) 1 rfl ?_
  refine k_if_ne G (dc d_law_14 24 rfl) (tgt := 995) rfl (fun _ => ?_) (fun c9 => ?_)
  · refine k_goto G (dc d_law_14 34 rfl) (tgt := 1763) rfl ?_
    refine k_sub [2, 3, 4, 5, 6] rfl ?_
    exact K M3 _ _ g3 (leC rfl) (leC rfl)
  refine k_aload_n G (dc d_law_14 25 rfl) 5 rfl rfl ?_
  refine k_iconst G (dc d_law_14 26 rfl) cI_0 ?_
  refine k_lld G (dc d_law_14 27 rfl) ho.1 ho.2.1 ho.2.2 (rdN (j := 0) (by omega) (by omega)) ?_
  refine k_iload G (dc d_law_14 28 rfl) 0 rfl ?_
  refine k_i2l G (dc d_law_14 29 rfl) ?_
  refine k_lcmp G (dc d_law_14 30 rfl) ?_
  refine k_if_eq G (dc d_law_14 31 rfl) (tgt := 995) rfl (fun _ => ?_) (fun c8 => (c8 (by rw [e5 c9]; exact lgc_self _)).elim)
  refine k_goto G (dc d_law_14 34 rfl) (tgt := 1763) rfl ?_
  refine k_sub [2, 3, 4, 5, 6] rfl ?_
  exact K M3 _ _ g3 (leC rfl) (leC rfl)
theorem l_15 {X : KX} {B : KB} {L : KLay} {b Ln : Nat} {xs : Nat → Int32} {M : KMem} {cn sn : Nat} {i : Int32} (H : LG X B L b Ln xs) (hg : GI M) (h1 : vp_in (i + 1) Ln) (h2 : vp_in (i + 2) Ln) (h3 : vp_in (i + 3) Ln) (h4 : vp_in (i + 4) Ln) (hc : cn + 100 ≤ 601024) (hs : sn + 1000 ≤ 7293034) (K : ∀ M3 k n, GI M3 → k ≤ cn + 100 → n ≤ sn + 1000 → KK X B L 7 k n M3 1763 (ls5 B b i) []) : KK X B L 7 cn sn M 998 (ls5 B b i) [] := by
  obtain ⟨G, hx, ⟨hu, hv, ho⟩, -⟩ := id H
  obtain ⟨r, M1, k, M2, q, M3, e1, e2, e3, e4, e5, g3⟩ := pub_w (pub_amnesty hg (xs (i + 1).toNatClampNeg)) (by decide)
  refine k_aload_n G (dc d_law_15 0 rfl) 1 rfl rfl ?_
  refine k_aload_n G (dc d_law_15 1 rfl) 0 rfl rfl ?_
  refine k_iload G (dc d_law_15 2 rfl) 4 rfl ?_
  refine k_iconst G (dc d_law_15 3 rfl) cI_1 ?_
  refine k_iadd G (dc d_law_15 4 rfl) ?_
  refine k_sld H h1 (dc d_law_15 5 rfl) ?_
  refine k_aload_n G (dc d_law_15 6 rfl) 3 rfl rfl ?_
  refine k_cSH G (dc d_law_15 7 rfl) mh_amnesty mst_amnesty ml_RL_153 (c_La_amnesty (gst G) hx hu ho e1 e2) rfl rfl ⟨rfl, rfl⟩ rfl ⟨blC hc rfl, blS hs rfl⟩ ?_
  refine k_istore G (dc d_law_15 8 rfl) rfl rfl ?_
  refine k_aload_n G (dc d_law_15 9 rfl) 3 rfl rfl ?_
  refine k_aload_n G (dc d_law_15 10 rfl) 1 rfl rfl ?_
  refine k_iload G (dc d_law_15 11 rfl) 5 rfl ?_
  refine k_iconst G (dc d_law_15 12 rfl) cI_1 ?_
  refine k_iadd G (dc d_law_15 13 rfl) ?_
  refine k_sld H h1 (dc d_law_15 14 rfl) ?_
  refine k_cVI G (dc d_law_15 15 rfl) kc8 (okL_lt hv (o := 0) 0 rfl) (okL_k hv (o := 0) 0 rfl) mi_Mo_amnesty mv_Mo_amnesty rfl ml_RL_155 (c_Mo_amnesty (gst G) hv e3) rfl rfl ⟨rfl, rfl⟩ rfl ⟨blC2 hc rfl, blS2 hs rfl⟩ ⟨rfl, rfl⟩ ?_
  refine k_istore G (dc d_law_15 16 rfl) rfl rfl ?_
  refine k_aload_n G (dc d_law_15 17 rfl) 4 rfl rfl ?_
  refine k_cVI G (dc d_law_15 18 rfl) kc8 (okL_lt hv (o := 0) 0 rfl) (okL_k hv (o := 0) 0 rfl) mi_Mo_thrown mv_Mo_thrown rfl ml_RL_103 (c_Mo_thrown (gst G) hv (show m_Mo_thrown 235 M3 = some (M3 235 0) from rfl)) rfl rfl ⟨rfl, rfl⟩ rfl ⟨blC2 hc rfl, blS2 hs rfl⟩ ⟨rfl, rfl⟩ ?_
  refine k_iload G (dc d_law_15 19 rfl) 1 rfl ?_
  refine k_icmp_eq G (dc d_law_15 20 rfl) (tgt := 1034) rfl (fun _ => ?_) (fun c9 => (c9 e4).elim)
  refine k_iload G (dc d_law_15 23 rfl) 1 rfl ?_
  refine k_if_ne G (dc d_law_15 24 rfl) (tgt := 1051) rfl (fun _ => ?_) (fun c9 => ?_)
  · refine k_goto G (dc d_law_15 34 rfl) (tgt := 1763) rfl ?_
    refine k_sub [2, 3, 4, 5, 6] rfl ?_
    exact K M3 _ _ g3 (leC rfl) (leC rfl)
  refine k_aload_n G (dc d_law_15 25 rfl) 5 rfl rfl ?_
  refine k_iconst G (dc d_law_15 26 rfl) cI_0 ?_
  refine k_lld G (dc d_law_15 27 rfl) ho.1 ho.2.1 ho.2.2 (rdN (j := 0) (by omega) (by omega)) ?_
  refine k_iload G (dc d_law_15 28 rfl) 0 rfl ?_
  refine k_i2l G (dc d_law_15 29 rfl) ?_
  refine k_lcmp G (dc d_law_15 30 rfl) ?_
  refine k_if_eq G (dc d_law_15 31 rfl) (tgt := 1051) rfl (fun _ => ?_) (fun c8 => (c8 (by rw [e5 c9]; exact lgc_self _)).elim)
  refine k_goto G (dc d_law_15 34 rfl) (tgt := 1763) rfl ?_
  refine k_sub [2, 3, 4, 5, 6] rfl ?_
  exact K M3 _ _ g3 (leC rfl) (leC rfl)
theorem l_16 {X : KX} {B : KB} {L : KLay} {b Ln : Nat} {xs : Nat → Int32} {M : KMem} {cn sn : Nat} {i : Int32} (H : LG X B L b Ln xs) (hg : GI M) (h1 : vp_in (i + 1) Ln) (h2 : vp_in (i + 2) Ln) (h3 : vp_in (i + 3) Ln) (h4 : vp_in (i + 4) Ln) (hc : cn + 100 ≤ 601024) (hs : sn + 1000 ≤ 7293034) (K : ∀ M3 k n, GI M3 → k ≤ cn + 100 → n ≤ sn + 1000 → KK X B L 7 k n M3 1763 (ls5 B b i) []) : KK X B L 7 cn sn M 1054 (ls5 B b i) [] := by
  obtain ⟨G, hx, ⟨hu, hv, ho⟩, -⟩ := id H
  obtain ⟨r, M1, k, M2, q, M3, e1, e2, e3, e4, e5, g3⟩ := pub_w (pub_set hg (xs (i + 1).toNatClampNeg) (xs (i + 2).toNatClampNeg)) (by decide)
  refine k_aload_n G (dc d_law_16 0 rfl) 1 rfl rfl ?_
  refine k_aload_n G (dc d_law_16 1 rfl) 0 rfl rfl ?_
  refine k_iload G (dc d_law_16 2 rfl) 4 rfl ?_
  refine k_iconst G (dc d_law_16 3 rfl) cI_1 ?_
  refine k_iadd G (dc d_law_16 4 rfl) ?_
  refine k_sld H h1 (dc d_law_16 5 rfl) ?_
  refine k_aload_n G (dc d_law_16 6 rfl) 0 rfl rfl ?_
  refine k_iload G (dc d_law_16 7 rfl) 4 rfl ?_
  refine k_iconst G (dc d_law_16 8 rfl) cI_2 ?_
  refine k_iadd G (dc d_law_16 9 rfl) ?_
  refine k_sld H h2 (dc d_law_16 10 rfl) ?_
  refine k_aload_n G (dc d_law_16 11 rfl) 3 rfl rfl ?_
  refine k_cSH G (dc d_law_16 12 rfl) mh_set mst_set ml_RL_156 (c_La_set (gst G) hx hu ho e1 e2) rfl rfl ⟨rfl, rfl⟩ rfl ⟨blC hc rfl, blS hs rfl⟩ ?_
  refine k_istore G (dc d_law_16 13 rfl) rfl rfl ?_
  refine k_aload_n G (dc d_law_16 14 rfl) 3 rfl rfl ?_
  refine k_aload_n G (dc d_law_16 15 rfl) 1 rfl rfl ?_
  refine k_iload G (dc d_law_16 16 rfl) 5 rfl ?_
  refine k_iconst G (dc d_law_16 17 rfl) cI_1 ?_
  refine k_iadd G (dc d_law_16 18 rfl) ?_
  refine k_sld H h1 (dc d_law_16 19 rfl) ?_
  refine k_aload_n G (dc d_law_16 20 rfl) 1 rfl rfl ?_
  refine k_iload G (dc d_law_16 21 rfl) 5 rfl ?_
  refine k_iconst G (dc d_law_16 22 rfl) cI_2 ?_
  refine k_iadd G (dc d_law_16 23 rfl) ?_
  refine k_sld H h2 (dc d_law_16 24 rfl) ?_
  refine k_cVI G (dc d_law_16 25 rfl) kc8 (okL_lt hv (o := 0) 0 rfl) (okL_k hv (o := 0) 0 rfl) mi_Mo_set mv_Mo_set rfl ml_RL_158 (c_Mo_set (gst G) hv e3) rfl rfl ⟨rfl, rfl⟩ rfl ⟨blC2 hc rfl, blS2 hs rfl⟩ ⟨rfl, rfl⟩ ?_
  refine k_istore G (dc d_law_16 26 rfl) rfl rfl ?_
  refine k_aload_n G (dc d_law_16 27 rfl) 4 rfl rfl ?_
  refine k_cVI G (dc d_law_16 28 rfl) kc8 (okL_lt hv (o := 0) 0 rfl) (okL_k hv (o := 0) 0 rfl) mi_Mo_thrown mv_Mo_thrown rfl ml_RL_103 (c_Mo_thrown (gst G) hv (show m_Mo_thrown 235 M3 = some (M3 235 0) from rfl)) rfl rfl ⟨rfl, rfl⟩ rfl ⟨blC2 hc rfl, blS2 hs rfl⟩ ⟨rfl, rfl⟩ ?_
  refine k_iload G (dc d_law_16 29 rfl) 1 rfl ?_
  refine k_icmp_eq G (dc d_law_16 30 rfl) (tgt := 1102) rfl (fun _ => ?_) (fun c9 => (c9 e4).elim)
  refine k_iload G (dc d_law_16 33 rfl) 1 rfl ?_
  refine k_if_ne G (dc d_law_16 34 rfl) (tgt := 1119) rfl (fun _ => ?_) (fun c9 => ?_)
  · refine k_goto G (dc d_law_16 44 rfl) (tgt := 1763) rfl ?_
    refine k_sub [2, 3, 4, 5, 6] rfl ?_
    exact K M3 _ _ g3 (leC rfl) (leC rfl)
  refine k_aload_n G (dc d_law_16 35 rfl) 5 rfl rfl ?_
  refine k_iconst G (dc d_law_16 36 rfl) cI_0 ?_
  refine k_lld G (dc d_law_16 37 rfl) ho.1 ho.2.1 ho.2.2 (rdN (j := 0) (by omega) (by omega)) ?_
  refine k_iload G (dc d_law_16 38 rfl) 0 rfl ?_
  refine k_i2l G (dc d_law_16 39 rfl) ?_
  refine k_lcmp G (dc d_law_16 40 rfl) ?_
  refine k_if_eq G (dc d_law_16 41 rfl) (tgt := 1119) rfl (fun _ => ?_) (fun c8 => (c8 (by rw [e5 c9]; exact lgc_self _)).elim)
  refine k_goto G (dc d_law_16 44 rfl) (tgt := 1763) rfl ?_
  refine k_sub [2, 3, 4, 5, 6] rfl ?_
  exact K M3 _ _ g3 (leC rfl) (leC rfl)
theorem l_17 {X : KX} {B : KB} {L : KLay} {b Ln : Nat} {xs : Nat → Int32} {M : KMem} {cn sn : Nat} {i : Int32} (H : LG X B L b Ln xs) (hg : GI M) (h1 : vp_in (i + 1) Ln) (h2 : vp_in (i + 2) Ln) (h3 : vp_in (i + 3) Ln) (h4 : vp_in (i + 4) Ln) (hc : cn + 100 ≤ 601024) (hs : sn + 1000 ≤ 7293034) (K : ∀ M3 k n, GI M3 → k ≤ cn + 100 → n ≤ sn + 1000 → KK X B L 7 k n M3 1763 (ls5 B b i) []) : KK X B L 7 cn sn M 1122 (ls5 B b i) [] := by
  obtain ⟨G, hx, ⟨hu, hv, ho⟩, -⟩ := id H
  obtain ⟨r, M1, k, M2, q, M3, e1, e2, e3, e4, e5, g3⟩ := pub_w (pub_undo hg) (by decide)
  refine k_aload_n G (dc d_law_17 0 rfl) 1 rfl rfl ?_
  refine k_aload_n G (dc d_law_17 1 rfl) 3 rfl rfl ?_
  refine k_cSH G (dc d_law_17 2 rfl) mh_undo mst_undo ml_RL_159 (c_La_undo (gst G) hx hu ho e1 e2) rfl rfl ⟨rfl, rfl⟩ rfl ⟨blC hc rfl, blS hs rfl⟩ ?_
  refine k_istore G (dc d_law_17 3 rfl) rfl rfl ?_
  refine k_aload_n G (dc d_law_17 4 rfl) 3 rfl rfl ?_
  refine k_cVI G (dc d_law_17 5 rfl) kc8 (okL_lt hv (o := 0) 0 rfl) (okL_k hv (o := 0) 0 rfl) mi_Mo_undo mv_Mo_undo rfl ml_RL_161 (c_Mo_undo (gst G) hv e3) rfl rfl ⟨rfl, rfl⟩ rfl ⟨blC2 hc rfl, blS2 hs rfl⟩ ⟨rfl, rfl⟩ ?_
  refine k_istore G (dc d_law_17 6 rfl) rfl rfl ?_
  refine k_aload_n G (dc d_law_17 7 rfl) 4 rfl rfl ?_
  refine k_cVI G (dc d_law_17 8 rfl) kc8 (okL_lt hv (o := 0) 0 rfl) (okL_k hv (o := 0) 0 rfl) mi_Mo_thrown mv_Mo_thrown rfl ml_RL_103 (c_Mo_thrown (gst G) hv (show m_Mo_thrown 235 M3 = some (M3 235 0) from rfl)) rfl rfl ⟨rfl, rfl⟩ rfl ⟨blC2 hc rfl, blS2 hs rfl⟩ ⟨rfl, rfl⟩ ?_
  refine k_iload G (dc d_law_17 9 rfl) 1 rfl ?_
  refine k_icmp_eq G (dc d_law_17 10 rfl) (tgt := 1146) rfl (fun _ => ?_) (fun c9 => (c9 e4).elim)
  refine k_iload G (dc d_law_17 13 rfl) 1 rfl ?_
  refine k_if_ne G (dc d_law_17 14 rfl) (tgt := 1163) rfl (fun _ => ?_) (fun c9 => ?_)
  · refine k_goto G (dc d_law_17 24 rfl) (tgt := 1763) rfl ?_
    refine k_sub [2, 3, 4, 5, 6] rfl ?_
    exact K M3 _ _ g3 (leC rfl) (leC rfl)
  refine k_aload_n G (dc d_law_17 15 rfl) 5 rfl rfl ?_
  refine k_iconst G (dc d_law_17 16 rfl) cI_0 ?_
  refine k_lld G (dc d_law_17 17 rfl) ho.1 ho.2.1 ho.2.2 (rdN (j := 0) (by omega) (by omega)) ?_
  refine k_iload G (dc d_law_17 18 rfl) 0 rfl ?_
  refine k_i2l G (dc d_law_17 19 rfl) ?_
  refine k_lcmp G (dc d_law_17 20 rfl) ?_
  refine k_if_eq G (dc d_law_17 21 rfl) (tgt := 1163) rfl (fun _ => ?_) (fun c8 => (c8 (by rw [e5 c9]; exact lgc_self _)).elim)
  refine k_goto G (dc d_law_17 24 rfl) (tgt := 1763) rfl ?_
  refine k_sub [2, 3, 4, 5, 6] rfl ?_
  exact K M3 _ _ g3 (leC rfl) (leC rfl)
theorem l_18 {X : KX} {B : KB} {L : KLay} {b Ln : Nat} {xs : Nat → Int32} {M : KMem} {cn sn : Nat} {i : Int32} (H : LG X B L b Ln xs) (hg : GI M) (h1 : vp_in (i + 1) Ln) (h2 : vp_in (i + 2) Ln) (h3 : vp_in (i + 3) Ln) (h4 : vp_in (i + 4) Ln) (hc : cn + 100 ≤ 601024) (hs : sn + 1000 ≤ 7293034) (K : ∀ M3 k n, GI M3 → k ≤ cn + 100 → n ≤ sn + 1000 → KK X B L 7 k n M3 1763 (ls5 B b i) []) : KK X B L 7 cn sn M 1166 (ls5 B b i) [] := by
  obtain ⟨G, hx, ⟨hu, hv, ho⟩, -⟩ := id H
  obtain ⟨r, M1, k, M2, q, M3, e1, e2, e3, e4, e5, g3⟩ := pub_w (pub_why hg (xs (i + 1).toNatClampNeg) (xs (i + 2).toNatClampNeg) (xs (i + 3).toNatClampNeg) (xs (i + 4).toNatClampNeg)) (by decide)
  refine k_aload_n G (dc d_law_18 0 rfl) 1 rfl rfl ?_
  refine k_aload_n G (dc d_law_18 1 rfl) 0 rfl rfl ?_
  refine k_iload G (dc d_law_18 2 rfl) 4 rfl ?_
  refine k_iconst G (dc d_law_18 3 rfl) cI_1 ?_
  refine k_iadd G (dc d_law_18 4 rfl) ?_
  refine k_sld H h1 (dc d_law_18 5 rfl) ?_
  refine k_aload_n G (dc d_law_18 6 rfl) 0 rfl rfl ?_
  refine k_iload G (dc d_law_18 7 rfl) 4 rfl ?_
  refine k_iconst G (dc d_law_18 8 rfl) cI_2 ?_
  refine k_iadd G (dc d_law_18 9 rfl) ?_
  refine k_sld H h2 (dc d_law_18 10 rfl) ?_
  refine k_aload_n G (dc d_law_18 11 rfl) 0 rfl rfl ?_
  refine k_iload G (dc d_law_18 12 rfl) 4 rfl ?_
  refine k_iconst G (dc d_law_18 13 rfl) cI_3 ?_
  refine k_iadd G (dc d_law_18 14 rfl) ?_
  refine k_sld H h3 (dc d_law_18 15 rfl) ?_
  refine k_aload_n G (dc d_law_18 16 rfl) 0 rfl rfl ?_
  refine k_iload G (dc d_law_18 17 rfl) 4 rfl ?_
  refine k_iconst G (dc d_law_18 18 rfl) cI_4 ?_
  refine k_iadd G (dc d_law_18 19 rfl) ?_
  refine k_sld H h4 (dc d_law_18 20 rfl) ?_
  refine k_aload_n G (dc d_law_18 21 rfl) 3 rfl rfl ?_
  refine k_cSH G (dc d_law_18 22 rfl) mh_why mst_why ml_RL_162 (c_La_why (gst G) hx hu ho e1 e2) rfl rfl ⟨rfl, rfl⟩ rfl ⟨blC hc rfl, blS hs rfl⟩ ?_
  refine k_istore G (dc d_law_18 23 rfl) rfl rfl ?_
  refine k_aload_n G (dc d_law_18 24 rfl) 3 rfl rfl ?_
  refine k_aload_n G (dc d_law_18 25 rfl) 1 rfl rfl ?_
  refine k_iload G (dc d_law_18 26 rfl) 5 rfl ?_
  refine k_iconst G (dc d_law_18 27 rfl) cI_1 ?_
  refine k_iadd G (dc d_law_18 28 rfl) ?_
  refine k_sld H h1 (dc d_law_18 29 rfl) ?_
  refine k_aload_n G (dc d_law_18 30 rfl) 1 rfl rfl ?_
  refine k_iload G (dc d_law_18 31 rfl) 5 rfl ?_
  refine k_iconst G (dc d_law_18 32 rfl) cI_2 ?_
  refine k_iadd G (dc d_law_18 33 rfl) ?_
  refine k_sld H h2 (dc d_law_18 34 rfl) ?_
  refine k_aload_n G (dc d_law_18 35 rfl) 1 rfl rfl ?_
  refine k_iload G (dc d_law_18 36 rfl) 5 rfl ?_
  refine k_iconst G (dc d_law_18 37 rfl) cI_3 ?_
  refine k_iadd G (dc d_law_18 38 rfl) ?_
  refine k_sld H h3 (dc d_law_18 39 rfl) ?_
  refine k_aload_n G (dc d_law_18 40 rfl) 1 rfl rfl ?_
  refine k_iload G (dc d_law_18 41 rfl) 5 rfl ?_
  refine k_iconst G (dc d_law_18 42 rfl) cI_4 ?_
  refine k_iadd G (dc d_law_18 43 rfl) ?_
  refine k_sld H h4 (dc d_law_18 44 rfl) ?_
  refine k_cVI G (dc d_law_18 45 rfl) kc8 (okL_lt hv (o := 0) 0 rfl) (okL_k hv (o := 0) 0 rfl) mi_Mo_why mv_Mo_why rfl ml_RL_164 (c_Mo_why (gst G) hv e3) rfl rfl ⟨rfl, rfl⟩ rfl ⟨blC2 hc rfl, blS2 hs rfl⟩ ⟨rfl, rfl⟩ ?_
  refine k_istore G (dc d_law_18 46 rfl) rfl rfl ?_
  refine k_aload_n G (dc d_law_18 47 rfl) 4 rfl rfl ?_
  refine k_cVI G (dc d_law_18 48 rfl) kc8 (okL_lt hv (o := 0) 0 rfl) (okL_k hv (o := 0) 0 rfl) mi_Mo_thrown mv_Mo_thrown rfl ml_RL_103 (c_Mo_thrown (gst G) hv (show m_Mo_thrown 235 M3 = some (M3 235 0) from rfl)) rfl rfl ⟨rfl, rfl⟩ rfl ⟨blC2 hc rfl, blS2 hs rfl⟩ ⟨rfl, rfl⟩ ?_
  refine k_iload G (dc d_law_18 49 rfl) 1 rfl ?_
  refine k_icmp_eq G (dc d_law_18 50 rfl) (tgt := 1238) rfl (fun _ => ?_) (fun c9 => (c9 e4).elim)
  refine k_iload G (dc d_law_18 53 rfl) 1 rfl ?_
  refine k_if_ne G (dc d_law_18 54 rfl) (tgt := 1255) rfl (fun _ => ?_) (fun c9 => ?_)
  · refine k_goto G (dc d_law_18 64 rfl) (tgt := 1763) rfl ?_
    refine k_sub [2, 3, 4, 5, 6] rfl ?_
    exact K M3 _ _ g3 (leC rfl) (leC rfl)
  refine k_aload_n G (dc d_law_18 55 rfl) 5 rfl rfl ?_
  refine k_iconst G (dc d_law_18 56 rfl) cI_0 ?_
  refine k_lld G (dc d_law_18 57 rfl) ho.1 ho.2.1 ho.2.2 (rdN (j := 0) (by omega) (by omega)) ?_
  refine k_iload G (dc d_law_18 58 rfl) 0 rfl ?_
  refine k_i2l G (dc d_law_18 59 rfl) ?_
  refine k_lcmp G (dc d_law_18 60 rfl) ?_
  refine k_if_eq G (dc d_law_18 61 rfl) (tgt := 1255) rfl (fun _ => ?_) (fun c8 => (c8 (by rw [e5 c9]; exact lgc_self _)).elim)
  refine k_goto G (dc d_law_18 64 rfl) (tgt := 1763) rfl ?_
  refine k_sub [2, 3, 4, 5, 6] rfl ?_
  exact K M3 _ _ g3 (leC rfl) (leC rfl)
theorem l_19 {X : KX} {B : KB} {L : KLay} {b Ln : Nat} {xs : Nat → Int32} {M : KMem} {cn sn : Nat} {i : Int32} (H : LG X B L b Ln xs) (hg : GI M) (h1 : vp_in (i + 1) Ln) (h2 : vp_in (i + 2) Ln) (h3 : vp_in (i + 3) Ln) (h4 : vp_in (i + 4) Ln) (hc : cn + 100 ≤ 601024) (hs : sn + 1000 ≤ 7293034) (K : ∀ M3 k n, GI M3 → k ≤ cn + 100 → n ≤ sn + 1000 → KK X B L 7 k n M3 1763 (ls5 B b i) []) : KK X B L 7 cn sn M 1258 (ls5 B b i) [] := by
  obtain ⟨G, hx, ⟨hu, hv, ho⟩, -⟩ := id H
  obtain ⟨q, M1, e1, f1, M3, e3, f3, g3⟩ := pub_droppable hg
  refine k_aload_n G (dc d_law_19 0 rfl) 1 rfl rfl ?_
  refine k_cVI G (dc d_law_19 1 rfl) kc7 (okL_lt hu (o := 0) 0 rfl) (okL_k hu (o := 0) 0 rfl) mi_SR_droppable mv_SR_droppable rfl ml_RL_165 (c_SR_droppable (gst G) hu e1) rfl rfl ⟨rfl, rfl⟩ rfl ⟨blC hc rfl, blS hs rfl⟩ ⟨rfl, rfl⟩ ?_
  refine k_aload_n G (dc d_law_19 2 rfl) 2 rfl rfl ?_
  refine k_cVI G (dc d_law_19 3 rfl) kc8 (okL_lt hv (o := 0) 0 rfl) (okL_k hv (o := 0) 0 rfl) mi_Mo_droppable mv_Mo_droppable rfl ml_RL_168 (c_Mo_droppable (gst G) hv e3) rfl rfl ⟨rfl, rfl⟩ rfl ⟨blC hc rfl, blS hs rfl⟩ ⟨rfl, rfl⟩ ?_
  refine k_icmp_eq G (dc d_law_19 4 rfl) (tgt := 1763) rfl (fun _ => ?_) (fun c9 => (c9 rfl).elim)
  exact K M3 cn sn g3 (Nat.le_add_right _ _) (Nat.le_add_right _ _)
theorem l_20 {X : KX} {B : KB} {L : KLay} {b Ln : Nat} {xs : Nat → Int32} {M : KMem} {cn sn : Nat} {i : Int32} (H : LG X B L b Ln xs) (hg : GI M) (h1 : vp_in (i + 1) Ln) (h2 : vp_in (i + 2) Ln) (h3 : vp_in (i + 3) Ln) (h4 : vp_in (i + 4) Ln) (hc : cn + 100 ≤ 601024) (hs : sn + 1000 ≤ 7293034) (K : ∀ M3 k n, GI M3 → k ≤ cn + 100 → n ≤ sn + 1000 → KK X B L 7 k n M3 1763 (ls5 B b i) []) : KK X B L 7 cn sn M 1271 (ls5 B b i) [] := by
  obtain ⟨G, hx, ⟨hu, hv, ho⟩, -⟩ := id H
  obtain ⟨r, M1, k, M2, q, M3, e1, e2, e3, e4, e5, g3⟩ := pub_w (pub_apart hg (xs (i + 1).toNatClampNeg) (xs (i + 2).toNatClampNeg)) (by decide)
  refine k_aload_n G (dc d_law_20 0 rfl) 1 rfl rfl ?_
  refine k_aload_n G (dc d_law_20 1 rfl) 0 rfl rfl ?_
  refine k_iload G (dc d_law_20 2 rfl) 4 rfl ?_
  refine k_iconst G (dc d_law_20 3 rfl) cI_1 ?_
  refine k_iadd G (dc d_law_20 4 rfl) ?_
  refine k_sld H h1 (dc d_law_20 5 rfl) ?_
  refine k_aload_n G (dc d_law_20 6 rfl) 0 rfl rfl ?_
  refine k_iload G (dc d_law_20 7 rfl) 4 rfl ?_
  refine k_iconst G (dc d_law_20 8 rfl) cI_2 ?_
  refine k_iadd G (dc d_law_20 9 rfl) ?_
  refine k_sld H h2 (dc d_law_20 10 rfl) ?_
  refine k_aload_n G (dc d_law_20 11 rfl) 3 rfl rfl ?_
  refine k_cSH G (dc d_law_20 12 rfl) mh_apart mst_apart ml_RL_169 (c_La_apart (gst G) hx hu ho e1 e2) rfl rfl ⟨rfl, rfl⟩ rfl ⟨blC hc rfl, blS hs rfl⟩ ?_
  refine k_istore G (dc d_law_20 13 rfl) rfl rfl ?_
  refine k_aload_n G (dc d_law_20 14 rfl) 3 rfl rfl ?_
  refine k_aload_n G (dc d_law_20 15 rfl) 1 rfl rfl ?_
  refine k_iload G (dc d_law_20 16 rfl) 5 rfl ?_
  refine k_iconst G (dc d_law_20 17 rfl) cI_1 ?_
  refine k_iadd G (dc d_law_20 18 rfl) ?_
  refine k_sld H h1 (dc d_law_20 19 rfl) ?_
  refine k_aload_n G (dc d_law_20 20 rfl) 1 rfl rfl ?_
  refine k_iload G (dc d_law_20 21 rfl) 5 rfl ?_
  refine k_iconst G (dc d_law_20 22 rfl) cI_2 ?_
  refine k_iadd G (dc d_law_20 23 rfl) ?_
  refine k_sld H h2 (dc d_law_20 24 rfl) ?_
  refine k_cVI G (dc d_law_20 25 rfl) kc8 (okL_lt hv (o := 0) 0 rfl) (okL_k hv (o := 0) 0 rfl) mi_Mo_apart mv_Mo_apart rfl ml_RL_171 (c_Mo_apart (gst G) hv e3) rfl rfl ⟨rfl, rfl⟩ rfl ⟨blC2 hc rfl, blS2 hs rfl⟩ ⟨rfl, rfl⟩ ?_
  refine k_istore G (dc d_law_20 26 rfl) rfl rfl ?_
  refine k_aload_n G (dc d_law_20 27 rfl) 4 rfl rfl ?_
  refine k_cVI G (dc d_law_20 28 rfl) kc8 (okL_lt hv (o := 0) 0 rfl) (okL_k hv (o := 0) 0 rfl) mi_Mo_thrown mv_Mo_thrown rfl ml_RL_103 (c_Mo_thrown (gst G) hv (show m_Mo_thrown 235 M3 = some (M3 235 0) from rfl)) rfl rfl ⟨rfl, rfl⟩ rfl ⟨blC2 hc rfl, blS2 hs rfl⟩ ⟨rfl, rfl⟩ ?_
  refine k_iload G (dc d_law_20 29 rfl) 1 rfl ?_
  refine k_icmp_eq G (dc d_law_20 30 rfl) (tgt := 1319) rfl (fun _ => ?_) (fun c9 => (c9 e4).elim)
  refine k_iload G (dc d_law_20 33 rfl) 1 rfl ?_
  refine k_if_ne G (dc d_law_20 34 rfl) (tgt := 1336) rfl (fun _ => ?_) (fun c9 => ?_)
  · refine k_goto G (dc d_law_20 44 rfl) (tgt := 1763) rfl ?_
    refine k_sub [2, 3, 4, 5, 6] rfl ?_
    exact K M3 _ _ g3 (leC rfl) (leC rfl)
  refine k_aload_n G (dc d_law_20 35 rfl) 5 rfl rfl ?_
  refine k_iconst G (dc d_law_20 36 rfl) cI_0 ?_
  refine k_lld G (dc d_law_20 37 rfl) ho.1 ho.2.1 ho.2.2 (rdN (j := 0) (by omega) (by omega)) ?_
  refine k_iload G (dc d_law_20 38 rfl) 0 rfl ?_
  refine k_i2l G (dc d_law_20 39 rfl) ?_
  refine k_lcmp G (dc d_law_20 40 rfl) ?_
  refine k_if_eq G (dc d_law_20 41 rfl) (tgt := 1336) rfl (fun _ => ?_) (fun c8 => (c8 (by rw [e5 c9]; exact lgc_self _)).elim)
  refine k_goto G (dc d_law_20 44 rfl) (tgt := 1763) rfl ?_
  refine k_sub [2, 3, 4, 5, 6] rfl ?_
  exact K M3 _ _ g3 (leC rfl) (leC rfl)
theorem l_21 {X : KX} {B : KB} {L : KLay} {b Ln : Nat} {xs : Nat → Int32} {M : KMem} {cn sn : Nat} {i : Int32} (H : LG X B L b Ln xs) (hg : GI M) (h1 : vp_in (i + 1) Ln) (h2 : vp_in (i + 2) Ln) (h3 : vp_in (i + 3) Ln) (h4 : vp_in (i + 4) Ln) (hc : cn + 100 ≤ 601024) (hs : sn + 1000 ≤ 7293034) (K : ∀ M3 k n, GI M3 → k ≤ cn + 100 → n ≤ sn + 1000 → KK X B L 7 k n M3 1763 (ls5 B b i) []) : KK X B L 7 cn sn M 1339 (ls5 B b i) [] := by
  obtain ⟨G, hx, ⟨hu, hv, ho⟩, -⟩ := id H
  obtain ⟨r, M1, k, M2, q, M3, e1, e2, e3, e4, e5, g3⟩ := pub_w (pub_payable hg (xs (i + 1).toNatClampNeg)) (by decide)
  refine k_aload_n G (dc d_law_21 0 rfl) 1 rfl rfl ?_
  refine k_aload_n G (dc d_law_21 1 rfl) 0 rfl rfl ?_
  refine k_iload G (dc d_law_21 2 rfl) 4 rfl ?_
  refine k_iconst G (dc d_law_21 3 rfl) cI_1 ?_
  refine k_iadd G (dc d_law_21 4 rfl) ?_
  refine k_sld H h1 (dc d_law_21 5 rfl) ?_
  refine k_aload_n G (dc d_law_21 6 rfl) 3 rfl rfl ?_
  refine k_cSH G (dc d_law_21 7 rfl) mh_payable mst_payable ml_RL_172 (c_La_payable (gst G) hx hu ho e1 e2) rfl rfl ⟨rfl, rfl⟩ rfl ⟨blC hc rfl, blS hs rfl⟩ ?_
  refine k_istore G (dc d_law_21 8 rfl) rfl rfl ?_
  refine k_aload_n G (dc d_law_21 9 rfl) 3 rfl rfl ?_
  refine k_aload_n G (dc d_law_21 10 rfl) 1 rfl rfl ?_
  refine k_iload G (dc d_law_21 11 rfl) 5 rfl ?_
  refine k_iconst G (dc d_law_21 12 rfl) cI_1 ?_
  refine k_iadd G (dc d_law_21 13 rfl) ?_
  refine k_sld H h1 (dc d_law_21 14 rfl) ?_
  refine k_cVI G (dc d_law_21 15 rfl) kc8 (okL_lt hv (o := 0) 0 rfl) (okL_k hv (o := 0) 0 rfl) mi_Mo_payable mv_Mo_payable rfl ml_RL_174 (c_Mo_payable (gst G) hv e3) rfl rfl ⟨rfl, rfl⟩ rfl ⟨blC2 hc rfl, blS2 hs rfl⟩ ⟨rfl, rfl⟩ ?_
  refine k_istore G (dc d_law_21 16 rfl) rfl rfl ?_
  refine k_aload_n G (dc d_law_21 17 rfl) 4 rfl rfl ?_
  refine k_cVI G (dc d_law_21 18 rfl) kc8 (okL_lt hv (o := 0) 0 rfl) (okL_k hv (o := 0) 0 rfl) mi_Mo_thrown mv_Mo_thrown rfl ml_RL_103 (c_Mo_thrown (gst G) hv (show m_Mo_thrown 235 M3 = some (M3 235 0) from rfl)) rfl rfl ⟨rfl, rfl⟩ rfl ⟨blC2 hc rfl, blS2 hs rfl⟩ ⟨rfl, rfl⟩ ?_
  refine k_iload G (dc d_law_21 19 rfl) 1 rfl ?_
  refine k_icmp_eq G (dc d_law_21 20 rfl) (tgt := 1375) rfl (fun _ => ?_) (fun c9 => (c9 e4).elim)
  refine k_iload G (dc d_law_21 23 rfl) 1 rfl ?_
  refine k_if_ne G (dc d_law_21 24 rfl) (tgt := 1392) rfl (fun _ => ?_) (fun c9 => ?_)
  · refine k_goto G (dc d_law_21 34 rfl) (tgt := 1763) rfl ?_
    refine k_sub [2, 3, 4, 5, 6] rfl ?_
    exact K M3 _ _ g3 (leC rfl) (leC rfl)
  refine k_aload_n G (dc d_law_21 25 rfl) 5 rfl rfl ?_
  refine k_iconst G (dc d_law_21 26 rfl) cI_0 ?_
  refine k_lld G (dc d_law_21 27 rfl) ho.1 ho.2.1 ho.2.2 (rdN (j := 0) (by omega) (by omega)) ?_
  refine k_iload G (dc d_law_21 28 rfl) 0 rfl ?_
  refine k_i2l G (dc d_law_21 29 rfl) ?_
  refine k_lcmp G (dc d_law_21 30 rfl) ?_
  refine k_if_eq G (dc d_law_21 31 rfl) (tgt := 1392) rfl (fun _ => ?_) (fun c8 => (c8 (by rw [e5 c9]; exact lgc_self _)).elim)
  refine k_goto G (dc d_law_21 34 rfl) (tgt := 1763) rfl ?_
  refine k_sub [2, 3, 4, 5, 6] rfl ?_
  exact K M3 _ _ g3 (leC rfl) (leC rfl)
theorem l_22 {X : KX} {B : KB} {L : KLay} {b Ln : Nat} {xs : Nat → Int32} {M : KMem} {cn sn : Nat} {i : Int32} (H : LG X B L b Ln xs) (hg : GI M) (h1 : vp_in (i + 1) Ln) (h2 : vp_in (i + 2) Ln) (h3 : vp_in (i + 3) Ln) (h4 : vp_in (i + 4) Ln) (hc : cn + 100 ≤ 601024) (hs : sn + 1000 ≤ 7293034) (K : ∀ M3 k n, GI M3 → k ≤ cn + 100 → n ≤ sn + 1000 → KK X B L 7 k n M3 1763 (ls5 B b i) []) : KK X B L 7 cn sn M 1395 (ls5 B b i) [] := by
  obtain ⟨G, hx, ⟨hu, hv, ho⟩, -⟩ := id H
  obtain ⟨r, M1, k, M2, q, M3, e1, e2, e3, e4, e5, g3⟩ := pub_w (pub_worthIn hg (xs (i + 1).toNatClampNeg)) (by decide)
  refine k_aload_n G (dc d_law_22 0 rfl) 1 rfl rfl ?_
  refine k_aload_n G (dc d_law_22 1 rfl) 0 rfl rfl ?_
  refine k_iload G (dc d_law_22 2 rfl) 4 rfl ?_
  refine k_iconst G (dc d_law_22 3 rfl) cI_1 ?_
  refine k_iadd G (dc d_law_22 4 rfl) ?_
  refine k_sld H h1 (dc d_law_22 5 rfl) ?_
  refine k_aload_n G (dc d_law_22 6 rfl) 3 rfl rfl ?_
  refine k_cSH G (dc d_law_22 7 rfl) mh_worthIn mst_worthIn ml_RL_175 (c_La_worthIn (gst G) hx hu ho e1 e2) rfl rfl ⟨rfl, rfl⟩ rfl ⟨blC hc rfl, blS hs rfl⟩ ?_
  refine k_istore G (dc d_law_22 8 rfl) rfl rfl ?_
  refine k_aload_n G (dc d_law_22 9 rfl) 3 rfl rfl ?_
  refine k_aload_n G (dc d_law_22 10 rfl) 1 rfl rfl ?_
  refine k_iload G (dc d_law_22 11 rfl) 5 rfl ?_
  refine k_iconst G (dc d_law_22 12 rfl) cI_1 ?_
  refine k_iadd G (dc d_law_22 13 rfl) ?_
  refine k_sld H h1 (dc d_law_22 14 rfl) ?_
  refine k_cVI G (dc d_law_22 15 rfl) kc8 (okL_lt hv (o := 0) 0 rfl) (okL_k hv (o := 0) 0 rfl) mi_Mo_worthIn mv_Mo_worthIn rfl ml_RL_177 (c_Mo_worthIn (gst G) hv e3) rfl rfl ⟨rfl, rfl⟩ rfl ⟨blC2 hc rfl, blS2 hs rfl⟩ ⟨rfl, rfl⟩ ?_
  refine k_istore G (dc d_law_22 16 rfl) rfl rfl ?_
  refine k_aload_n G (dc d_law_22 17 rfl) 4 rfl rfl ?_
  refine k_cVI G (dc d_law_22 18 rfl) kc8 (okL_lt hv (o := 0) 0 rfl) (okL_k hv (o := 0) 0 rfl) mi_Mo_thrown mv_Mo_thrown rfl ml_RL_103 (c_Mo_thrown (gst G) hv (show m_Mo_thrown 235 M3 = some (M3 235 0) from rfl)) rfl rfl ⟨rfl, rfl⟩ rfl ⟨blC2 hc rfl, blS2 hs rfl⟩ ⟨rfl, rfl⟩ ?_
  refine k_iload G (dc d_law_22 19 rfl) 1 rfl ?_
  refine k_icmp_eq G (dc d_law_22 20 rfl) (tgt := 1431) rfl (fun _ => ?_) (fun c9 => (c9 e4).elim)
  refine k_iload G (dc d_law_22 23 rfl) 1 rfl ?_
  refine k_if_ne G (dc d_law_22 24 rfl) (tgt := 1448) rfl (fun _ => ?_) (fun c9 => ?_)
  · refine k_goto G (dc d_law_22 34 rfl) (tgt := 1763) rfl ?_
    refine k_sub [2, 3, 4, 5, 6] rfl ?_
    exact K M3 _ _ g3 (leC rfl) (leC rfl)
  refine k_aload_n G (dc d_law_22 25 rfl) 5 rfl rfl ?_
  refine k_iconst G (dc d_law_22 26 rfl) cI_0 ?_
  refine k_lld G (dc d_law_22 27 rfl) ho.1 ho.2.1 ho.2.2 (rdN (j := 0) (by omega) (by omega)) ?_
  refine k_iload G (dc d_law_22 28 rfl) 0 rfl ?_
  refine k_i2l G (dc d_law_22 29 rfl) ?_
  refine k_lcmp G (dc d_law_22 30 rfl) ?_
  refine k_if_eq G (dc d_law_22 31 rfl) (tgt := 1448) rfl (fun _ => ?_) (fun c8 => (c8 (by rw [e5 c9]; exact lgc_self _)).elim)
  refine k_goto G (dc d_law_22 34 rfl) (tgt := 1763) rfl ?_
  refine k_sub [2, 3, 4, 5, 6] rfl ?_
  exact K M3 _ _ g3 (leC rfl) (leC rfl)
theorem l_23 {X : KX} {B : KB} {L : KLay} {b Ln : Nat} {xs : Nat → Int32} {M : KMem} {cn sn : Nat} {i : Int32} (H : LG X B L b Ln xs) (hg : GI M) (h1 : vp_in (i + 1) Ln) (h2 : vp_in (i + 2) Ln) (h3 : vp_in (i + 3) Ln) (h4 : vp_in (i + 4) Ln) (hc : cn + 100 ≤ 601024) (hs : sn + 1000 ≤ 7293034) (K : ∀ M3 k n, GI M3 → k ≤ cn + 100 → n ≤ sn + 1000 → KK X B L 7 k n M3 1763 (ls5 B b i) []) : KK X B L 7 cn sn M 1451 (ls5 B b i) [] := by
  obtain ⟨G, hx, ⟨hu, hv, ho⟩, -⟩ := id H
  obtain ⟨r, M1, k, M2, q, M3, e1, e2, e3, e4, e5, g3⟩ := pub_w (pub_runScript hg (xs (i + 1).toNatClampNeg) ((jshlL ((xs (i + 2).toNatClampNeg).toInt64) 32) ||| (((xs (i + 3).toNatClampNeg).toInt64) &&& 4294967295))) (by decide)
  refine k_aload_n G (dc d_law_23 0 rfl) 1 rfl rfl ?_
  refine k_aload_n G (dc d_law_23 1 rfl) 0 rfl rfl ?_
  refine k_iload G (dc d_law_23 2 rfl) 4 rfl ?_
  refine k_iconst G (dc d_law_23 3 rfl) cI_1 ?_
  refine k_iadd G (dc d_law_23 4 rfl) ?_
  refine k_sld H h1 (dc d_law_23 5 rfl) ?_
  refine k_aload_n G (dc d_law_23 6 rfl) 0 rfl rfl ?_
  refine k_iload G (dc d_law_23 7 rfl) 4 rfl ?_
  refine k_iconst G (dc d_law_23 8 rfl) cI_2 ?_
  refine k_iadd G (dc d_law_23 9 rfl) ?_
  refine k_sld H h2 (dc d_law_23 10 rfl) ?_
  refine k_i2l G (dc d_law_23 11 rfl) ?_
  refine k_bipush G (dc d_law_23 12 rfl) cB_32 ?_
  refine k_lshl G (dc d_law_23 13 rfl) ?_
  refine k_aload_n G (dc d_law_23 14 rfl) 0 rfl rfl ?_
  refine k_iload G (dc d_law_23 15 rfl) 4 rfl ?_
  refine k_iconst G (dc d_law_23 16 rfl) cI_3 ?_
  refine k_iadd G (dc d_law_23 17 rfl) ?_
  refine k_sld H h3 (dc d_law_23 18 rfl) ?_
  refine k_i2l G (dc d_law_23 19 rfl) ?_
  refine k_ldc2 G (dc d_law_23 20 rfl) ld_RL_178 ?_
  refine k_land G (dc d_law_23 21 rfl) ?_
  refine k_lor G (dc d_law_23 22 rfl) ?_
  refine k_aload_n G (dc d_law_23 23 rfl) 3 rfl rfl ?_
  refine k_cSH G (dc d_law_23 24 rfl) mh_runScript mst_runScript ml_RL_180 (c_La_runScript (gst G) hx hu ho e1 e2) rfl rfl ⟨rfl, rfl⟩ rfl ⟨blC hc rfl, blS hs rfl⟩ ?_
  refine k_istore G (dc d_law_23 25 rfl) rfl rfl ?_
  refine k_aload_n G (dc d_law_23 26 rfl) 3 rfl rfl ?_
  refine k_aload_n G (dc d_law_23 27 rfl) 1 rfl rfl ?_
  refine k_iload G (dc d_law_23 28 rfl) 5 rfl ?_
  refine k_iconst G (dc d_law_23 29 rfl) cI_1 ?_
  refine k_iadd G (dc d_law_23 30 rfl) ?_
  refine k_sld H h1 (dc d_law_23 31 rfl) ?_
  refine k_aload_n G (dc d_law_23 32 rfl) 1 rfl rfl ?_
  refine k_iload G (dc d_law_23 33 rfl) 5 rfl ?_
  refine k_iconst G (dc d_law_23 34 rfl) cI_2 ?_
  refine k_iadd G (dc d_law_23 35 rfl) ?_
  refine k_sld H h2 (dc d_law_23 36 rfl) ?_
  refine k_i2l G (dc d_law_23 37 rfl) ?_
  refine k_bipush G (dc d_law_23 38 rfl) cB_32 ?_
  refine k_lshl G (dc d_law_23 39 rfl) ?_
  refine k_aload_n G (dc d_law_23 40 rfl) 1 rfl rfl ?_
  refine k_iload G (dc d_law_23 41 rfl) 5 rfl ?_
  refine k_iconst G (dc d_law_23 42 rfl) cI_3 ?_
  refine k_iadd G (dc d_law_23 43 rfl) ?_
  refine k_sld H h3 (dc d_law_23 44 rfl) ?_
  refine k_i2l G (dc d_law_23 45 rfl) ?_
  refine k_ldc2 G (dc d_law_23 46 rfl) ld_RL_178 ?_
  refine k_land G (dc d_law_23 47 rfl) ?_
  refine k_lor G (dc d_law_23 48 rfl) ?_
  refine k_cVI G (dc d_law_23 49 rfl) kc8 (okL_lt hv (o := 0) 0 rfl) (okL_k hv (o := 0) 0 rfl) mi_Mo_runScript mv_Mo_runScript rfl ml_RL_183 (c_Mo_runScript (gst G) hv e3) rfl rfl ⟨rfl, rfl⟩ rfl ⟨blC2 hc rfl, blS2 hs rfl⟩ ⟨rfl, rfl⟩ ?_
  refine k_istore G (dc d_law_23 50 rfl) rfl rfl ?_
  refine k_aload_n G (dc d_law_23 51 rfl) 4 rfl rfl ?_
  refine k_cVI G (dc d_law_23 52 rfl) kc8 (okL_lt hv (o := 0) 0 rfl) (okL_k hv (o := 0) 0 rfl) mi_Mo_thrown mv_Mo_thrown rfl ml_RL_103 (c_Mo_thrown (gst G) hv (show m_Mo_thrown 235 M3 = some (M3 235 0) from rfl)) rfl rfl ⟨rfl, rfl⟩ rfl ⟨blC2 hc rfl, blS2 hs rfl⟩ ⟨rfl, rfl⟩ ?_
  refine k_iload G (dc d_law_23 53 rfl) 1 rfl ?_
  refine k_icmp_eq G (dc d_law_23 54 rfl) (tgt := 1531) rfl (fun _ => ?_) (fun c9 => (c9 e4).elim)
  refine k_iload G (dc d_law_23 57 rfl) 1 rfl ?_
  refine k_if_ne G (dc d_law_23 58 rfl) (tgt := 1548) rfl (fun _ => ?_) (fun c9 => ?_)
  · refine k_goto G (dc d_law_23 68 rfl) (tgt := 1763) rfl ?_
    refine k_sub [2, 3, 4, 5, 6] rfl ?_
    exact K M3 _ _ g3 (leC rfl) (leC rfl)
  refine k_aload_n G (dc d_law_23 59 rfl) 5 rfl rfl ?_
  refine k_iconst G (dc d_law_23 60 rfl) cI_0 ?_
  refine k_lld G (dc d_law_23 61 rfl) ho.1 ho.2.1 ho.2.2 (rdN (j := 0) (by omega) (by omega)) ?_
  refine k_iload G (dc d_law_23 62 rfl) 0 rfl ?_
  refine k_i2l G (dc d_law_23 63 rfl) ?_
  refine k_lcmp G (dc d_law_23 64 rfl) ?_
  refine k_if_eq G (dc d_law_23 65 rfl) (tgt := 1548) rfl (fun _ => ?_) (fun c8 => (c8 (by rw [e5 c9]; exact lgc_self _)).elim)
  refine k_goto G (dc d_law_23 68 rfl) (tgt := 1763) rfl ?_
  refine k_sub [2, 3, 4, 5, 6] rfl ?_
  exact K M3 _ _ g3 (leC rfl) (leC rfl)
theorem l_24 {X : KX} {B : KB} {L : KLay} {b Ln : Nat} {xs : Nat → Int32} {M : KMem} {cn sn : Nat} {i : Int32} (H : LG X B L b Ln xs) (hg : GI M) (h1 : vp_in (i + 1) Ln) (h2 : vp_in (i + 2) Ln) (h3 : vp_in (i + 3) Ln) (h4 : vp_in (i + 4) Ln) (hc : cn + 100 ≤ 601024) (hs : sn + 1000 ≤ 7293034) (K : ∀ M3 k n, GI M3 → k ≤ cn + 100 → n ≤ sn + 1000 → KK X B L 7 k n M3 1763 (ls5 B b i) []) : KK X B L 7 cn sn M 1551 (ls5 B b i) [] := by
  obtain ⟨G, hx, ⟨hu, hv, ho⟩, -⟩ := id H
  obtain ⟨r, M1, k, M2, q, M3, e1, e2, e3, e4, e5, g3⟩ := pub_w (pub_simulate hg ((jshlL ((xs (i + 1).toNatClampNeg).toInt64) 32) ||| (((xs (i + 2).toNatClampNeg).toInt64) &&& 4294967295)) (xs (i + 3).toNatClampNeg)) (by decide)
  refine k_aload_n G (dc d_law_24 0 rfl) 1 rfl rfl ?_
  refine k_aload_n G (dc d_law_24 1 rfl) 0 rfl rfl ?_
  refine k_iload G (dc d_law_24 2 rfl) 4 rfl ?_
  refine k_iconst G (dc d_law_24 3 rfl) cI_1 ?_
  refine k_iadd G (dc d_law_24 4 rfl) ?_
  refine k_sld H h1 (dc d_law_24 5 rfl) ?_
  refine k_i2l G (dc d_law_24 6 rfl) ?_
  refine k_bipush G (dc d_law_24 7 rfl) cB_32 ?_
  refine k_lshl G (dc d_law_24 8 rfl) ?_
  refine k_aload_n G (dc d_law_24 9 rfl) 0 rfl rfl ?_
  refine k_iload G (dc d_law_24 10 rfl) 4 rfl ?_
  refine k_iconst G (dc d_law_24 11 rfl) cI_2 ?_
  refine k_iadd G (dc d_law_24 12 rfl) ?_
  refine k_sld H h2 (dc d_law_24 13 rfl) ?_
  refine k_i2l G (dc d_law_24 14 rfl) ?_
  refine k_ldc2 G (dc d_law_24 15 rfl) ld_RL_178 ?_
  refine k_land G (dc d_law_24 16 rfl) ?_
  refine k_lor G (dc d_law_24 17 rfl) ?_
  refine k_aload_n G (dc d_law_24 18 rfl) 0 rfl rfl ?_
  refine k_iload G (dc d_law_24 19 rfl) 4 rfl ?_
  refine k_iconst G (dc d_law_24 20 rfl) cI_3 ?_
  refine k_iadd G (dc d_law_24 21 rfl) ?_
  refine k_sld H h3 (dc d_law_24 22 rfl) ?_
  refine k_aload_n G (dc d_law_24 23 rfl) 3 rfl rfl ?_
  refine k_cSH G (dc d_law_24 24 rfl) mh_simulate mst_simulate ml_RL_184 (c_La_simulate (gst G) hx hu ho e1 e2) rfl rfl ⟨rfl, rfl⟩ rfl ⟨blC hc rfl, blS hs rfl⟩ ?_
  refine k_istore G (dc d_law_24 25 rfl) rfl rfl ?_
  refine k_aload_n G (dc d_law_24 26 rfl) 3 rfl rfl ?_
  refine k_aload_n G (dc d_law_24 27 rfl) 1 rfl rfl ?_
  refine k_iload G (dc d_law_24 28 rfl) 5 rfl ?_
  refine k_iconst G (dc d_law_24 29 rfl) cI_1 ?_
  refine k_iadd G (dc d_law_24 30 rfl) ?_
  refine k_sld H h1 (dc d_law_24 31 rfl) ?_
  refine k_i2l G (dc d_law_24 32 rfl) ?_
  refine k_bipush G (dc d_law_24 33 rfl) cB_32 ?_
  refine k_lshl G (dc d_law_24 34 rfl) ?_
  refine k_aload_n G (dc d_law_24 35 rfl) 1 rfl rfl ?_
  refine k_iload G (dc d_law_24 36 rfl) 5 rfl ?_
  refine k_iconst G (dc d_law_24 37 rfl) cI_2 ?_
  refine k_iadd G (dc d_law_24 38 rfl) ?_
  refine k_sld H h2 (dc d_law_24 39 rfl) ?_
  refine k_i2l G (dc d_law_24 40 rfl) ?_
  refine k_ldc2 G (dc d_law_24 41 rfl) ld_RL_178 ?_
  refine k_land G (dc d_law_24 42 rfl) ?_
  refine k_lor G (dc d_law_24 43 rfl) ?_
  refine k_aload_n G (dc d_law_24 44 rfl) 1 rfl rfl ?_
  refine k_iload G (dc d_law_24 45 rfl) 5 rfl ?_
  refine k_iconst G (dc d_law_24 46 rfl) cI_3 ?_
  refine k_iadd G (dc d_law_24 47 rfl) ?_
  refine k_sld H h3 (dc d_law_24 48 rfl) ?_
  refine k_cVI G (dc d_law_24 49 rfl) kc8 (okL_lt hv (o := 0) 0 rfl) (okL_k hv (o := 0) 0 rfl) mi_Mo_simulate mv_Mo_simulate rfl ml_RL_187 (c_Mo_simulate (gst G) hv e3) rfl rfl ⟨rfl, rfl⟩ rfl ⟨blC2 hc rfl, blS2 hs rfl⟩ ⟨rfl, rfl⟩ ?_
  refine k_istore G (dc d_law_24 50 rfl) rfl rfl ?_
  refine k_aload_n G (dc d_law_24 51 rfl) 4 rfl rfl ?_
  refine k_cVI G (dc d_law_24 52 rfl) kc8 (okL_lt hv (o := 0) 0 rfl) (okL_k hv (o := 0) 0 rfl) mi_Mo_thrown mv_Mo_thrown rfl ml_RL_103 (c_Mo_thrown (gst G) hv (show m_Mo_thrown 235 M3 = some (M3 235 0) from rfl)) rfl rfl ⟨rfl, rfl⟩ rfl ⟨blC2 hc rfl, blS2 hs rfl⟩ ⟨rfl, rfl⟩ ?_
  refine k_iload G (dc d_law_24 53 rfl) 1 rfl ?_
  refine k_icmp_eq G (dc d_law_24 54 rfl) (tgt := 1631) rfl (fun _ => ?_) (fun c9 => (c9 e4).elim)
  refine k_iload G (dc d_law_24 57 rfl) 1 rfl ?_
  refine k_if_ne G (dc d_law_24 58 rfl) (tgt := 1648) rfl (fun _ => ?_) (fun c9 => ?_)
  · refine k_goto G (dc d_law_24 68 rfl) (tgt := 1763) rfl ?_
    refine k_sub [2, 3, 4, 5, 6] rfl ?_
    exact K M3 _ _ g3 (leC rfl) (leC rfl)
  refine k_aload_n G (dc d_law_24 59 rfl) 5 rfl rfl ?_
  refine k_iconst G (dc d_law_24 60 rfl) cI_0 ?_
  refine k_lld G (dc d_law_24 61 rfl) ho.1 ho.2.1 ho.2.2 (rdN (j := 0) (by omega) (by omega)) ?_
  refine k_iload G (dc d_law_24 62 rfl) 0 rfl ?_
  refine k_i2l G (dc d_law_24 63 rfl) ?_
  refine k_lcmp G (dc d_law_24 64 rfl) ?_
  refine k_if_eq G (dc d_law_24 65 rfl) (tgt := 1648) rfl (fun _ => ?_) (fun c8 => (c8 (by rw [e5 c9]; exact lgc_self _)).elim)
  refine k_goto G (dc d_law_24 68 rfl) (tgt := 1763) rfl ?_
  refine k_sub [2, 3, 4, 5, 6] rfl ?_
  exact K M3 _ _ g3 (leC rfl) (leC rfl)
theorem l_25 {X : KX} {B : KB} {L : KLay} {b Ln : Nat} {xs : Nat → Int32} {M : KMem} {cn sn : Nat} {i : Int32} (H : LG X B L b Ln xs) (hg : GI M) (h1 : vp_in (i + 1) Ln) (h2 : vp_in (i + 2) Ln) (h3 : vp_in (i + 3) Ln) (h4 : vp_in (i + 4) Ln) (hc : cn + 100 ≤ 601024) (hs : sn + 1000 ≤ 7293034) (K : ∀ M3 k n, GI M3 → k ≤ cn + 100 → n ≤ sn + 1000 → KK X B L 7 k n M3 1763 (ls5 B b i) []) : KK X B L 7 cn sn M 1651 (ls5 B b i) [] := by
  obtain ⟨G, hx, ⟨hu, hv, ho⟩, -⟩ := id H
  obtain ⟨r, M1, k, M2, q, M3, e1, e2, e3, e4, e5, g3⟩ := pub_w (pub_save hg (xs (i + 1).toNatClampNeg)) (by decide)
  refine k_aload_n G (dc d_law_25 0 rfl) 1 rfl rfl ?_
  refine k_aload_n G (dc d_law_25 1 rfl) 0 rfl rfl ?_
  refine k_iload G (dc d_law_25 2 rfl) 4 rfl ?_
  refine k_iconst G (dc d_law_25 3 rfl) cI_1 ?_
  refine k_iadd G (dc d_law_25 4 rfl) ?_
  refine k_sld H h1 (dc d_law_25 5 rfl) ?_
  refine k_aload_n G (dc d_law_25 6 rfl) 3 rfl rfl ?_
  refine k_cSH G (dc d_law_25 7 rfl) mh_save mst_save ml_RL_188 (c_La_save (gst G) hx hu ho e1 e2) rfl rfl ⟨rfl, rfl⟩ rfl ⟨blC hc rfl, blS hs rfl⟩ ?_
  refine k_istore G (dc d_law_25 8 rfl) rfl rfl ?_
  refine k_aload_n G (dc d_law_25 9 rfl) 3 rfl rfl ?_
  refine k_aload_n G (dc d_law_25 10 rfl) 1 rfl rfl ?_
  refine k_iload G (dc d_law_25 11 rfl) 5 rfl ?_
  refine k_iconst G (dc d_law_25 12 rfl) cI_1 ?_
  refine k_iadd G (dc d_law_25 13 rfl) ?_
  refine k_sld H h1 (dc d_law_25 14 rfl) ?_
  refine k_cVI G (dc d_law_25 15 rfl) kc8 (okL_lt hv (o := 0) 0 rfl) (okL_k hv (o := 0) 0 rfl) mi_Mo_save mv_Mo_save rfl ml_RL_190 (c_Mo_save (gst G) hv e3) rfl rfl ⟨rfl, rfl⟩ rfl ⟨blC2 hc rfl, blS2 hs rfl⟩ ⟨rfl, rfl⟩ ?_
  refine k_istore G (dc d_law_25 16 rfl) rfl rfl ?_
  refine k_aload_n G (dc d_law_25 17 rfl) 4 rfl rfl ?_
  refine k_cVI G (dc d_law_25 18 rfl) kc8 (okL_lt hv (o := 0) 0 rfl) (okL_k hv (o := 0) 0 rfl) mi_Mo_thrown mv_Mo_thrown rfl ml_RL_103 (c_Mo_thrown (gst G) hv (show m_Mo_thrown 235 M3 = some (M3 235 0) from rfl)) rfl rfl ⟨rfl, rfl⟩ rfl ⟨blC2 hc rfl, blS2 hs rfl⟩ ⟨rfl, rfl⟩ ?_
  refine k_iload G (dc d_law_25 19 rfl) 1 rfl ?_
  refine k_icmp_eq G (dc d_law_25 20 rfl) (tgt := 1687) rfl (fun _ => ?_) (fun c9 => (c9 e4).elim)
  refine k_iload G (dc d_law_25 23 rfl) 1 rfl ?_
  refine k_if_ne G (dc d_law_25 24 rfl) (tgt := 1704) rfl (fun _ => ?_) (fun c9 => ?_)
  · refine k_goto G (dc d_law_25 34 rfl) (tgt := 1763) rfl ?_
    refine k_sub [2, 3, 4, 5, 6] rfl ?_
    exact K M3 _ _ g3 (leC rfl) (leC rfl)
  refine k_aload_n G (dc d_law_25 25 rfl) 5 rfl rfl ?_
  refine k_iconst G (dc d_law_25 26 rfl) cI_0 ?_
  refine k_lld G (dc d_law_25 27 rfl) ho.1 ho.2.1 ho.2.2 (rdN (j := 0) (by omega) (by omega)) ?_
  refine k_iload G (dc d_law_25 28 rfl) 0 rfl ?_
  refine k_i2l G (dc d_law_25 29 rfl) ?_
  refine k_lcmp G (dc d_law_25 30 rfl) ?_
  refine k_if_eq G (dc d_law_25 31 rfl) (tgt := 1704) rfl (fun _ => ?_) (fun c8 => (c8 (by rw [e5 c9]; exact lgc_self _)).elim)
  refine k_goto G (dc d_law_25 34 rfl) (tgt := 1763) rfl ?_
  refine k_sub [2, 3, 4, 5, 6] rfl ?_
  exact K M3 _ _ g3 (leC rfl) (leC rfl)
theorem l_26 {X : KX} {B : KB} {L : KLay} {b Ln : Nat} {xs : Nat → Int32} {M : KMem} {cn sn : Nat} {i : Int32} (H : LG X B L b Ln xs) (hg : GI M) (h1 : vp_in (i + 1) Ln) (h2 : vp_in (i + 2) Ln) (h3 : vp_in (i + 3) Ln) (h4 : vp_in (i + 4) Ln) (hc : cn + 100 ≤ 601024) (hs : sn + 1000 ≤ 7293034) (K : ∀ M3 k n, GI M3 → k ≤ cn + 100 → n ≤ sn + 1000 → KK X B L 7 k n M3 1763 (ls5 B b i) []) : KK X B L 7 cn sn M 1707 (ls5 B b i) [] := by
  obtain ⟨G, hx, ⟨hu, hv, ho⟩, -⟩ := id H
  obtain ⟨r, M1, k, M2, q, M3, e1, e2, e3, e4, e5, g3⟩ := pub_w (pub_restore hg (xs (i + 1).toNatClampNeg)) (by decide)
  refine k_aload_n G (dc d_law_26 0 rfl) 1 rfl rfl ?_
  refine k_aload_n G (dc d_law_26 1 rfl) 0 rfl rfl ?_
  refine k_iload G (dc d_law_26 2 rfl) 4 rfl ?_
  refine k_iconst G (dc d_law_26 3 rfl) cI_1 ?_
  refine k_iadd G (dc d_law_26 4 rfl) ?_
  refine k_sld H h1 (dc d_law_26 5 rfl) ?_
  refine k_aload_n G (dc d_law_26 6 rfl) 3 rfl rfl ?_
  refine k_cSH G (dc d_law_26 7 rfl) mh_restore mst_restore ml_RL_191 (c_La_restore (gst G) hx hu ho e1 e2) rfl rfl ⟨rfl, rfl⟩ rfl ⟨blC hc rfl, blS hs rfl⟩ ?_
  refine k_istore G (dc d_law_26 8 rfl) rfl rfl ?_
  refine k_aload_n G (dc d_law_26 9 rfl) 3 rfl rfl ?_
  refine k_aload_n G (dc d_law_26 10 rfl) 1 rfl rfl ?_
  refine k_iload G (dc d_law_26 11 rfl) 5 rfl ?_
  refine k_iconst G (dc d_law_26 12 rfl) cI_1 ?_
  refine k_iadd G (dc d_law_26 13 rfl) ?_
  refine k_sld H h1 (dc d_law_26 14 rfl) ?_
  refine k_cVI G (dc d_law_26 15 rfl) kc8 (okL_lt hv (o := 0) 0 rfl) (okL_k hv (o := 0) 0 rfl) mi_Mo_restore mv_Mo_restore rfl ml_RL_193 (c_Mo_restore (gst G) hv e3) rfl rfl ⟨rfl, rfl⟩ rfl ⟨blC2 hc rfl, blS2 hs rfl⟩ ⟨rfl, rfl⟩ ?_
  refine k_istore G (dc d_law_26 16 rfl) rfl rfl ?_
  refine k_aload_n G (dc d_law_26 17 rfl) 4 rfl rfl ?_
  refine k_cVI G (dc d_law_26 18 rfl) kc8 (okL_lt hv (o := 0) 0 rfl) (okL_k hv (o := 0) 0 rfl) mi_Mo_thrown mv_Mo_thrown rfl ml_RL_103 (c_Mo_thrown (gst G) hv (show m_Mo_thrown 235 M3 = some (M3 235 0) from rfl)) rfl rfl ⟨rfl, rfl⟩ rfl ⟨blC2 hc rfl, blS2 hs rfl⟩ ⟨rfl, rfl⟩ ?_
  refine k_iload G (dc d_law_26 19 rfl) 1 rfl ?_
  refine k_icmp_eq G (dc d_law_26 20 rfl) (tgt := 1743) rfl (fun _ => ?_) (fun c9 => (c9 e4).elim)
  refine k_iload G (dc d_law_26 23 rfl) 1 rfl ?_
  refine k_if_ne G (dc d_law_26 24 rfl) (tgt := 1760) rfl (fun _ => ?_) (fun c9 => ?_)
  · refine k_goto G (dc d_law_26 34 rfl) (tgt := 1763) rfl ?_
    refine k_sub [2, 3, 4, 5, 6] rfl ?_
    exact K M3 _ _ g3 (leC rfl) (leC rfl)
  refine k_aload_n G (dc d_law_26 25 rfl) 5 rfl rfl ?_
  refine k_iconst G (dc d_law_26 26 rfl) cI_0 ?_
  refine k_lld G (dc d_law_26 27 rfl) ho.1 ho.2.1 ho.2.2 (rdN (j := 0) (by omega) (by omega)) ?_
  refine k_iload G (dc d_law_26 28 rfl) 0 rfl ?_
  refine k_i2l G (dc d_law_26 29 rfl) ?_
  refine k_lcmp G (dc d_law_26 30 rfl) ?_
  refine k_if_eq G (dc d_law_26 31 rfl) (tgt := 1760) rfl (fun _ => ?_) (fun c8 => (c8 (by rw [e5 c9]; exact lgc_self _)).elim)
  refine k_goto G (dc d_law_26 34 rfl) (tgt := 1763) rfl ?_
  refine k_sub [2, 3, 4, 5, 6] rfl ?_
  exact K M3 _ _ g3 (leC rfl) (leC rfl)
