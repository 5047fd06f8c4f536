section
-- ===== PART A: goes FIRST, ahead of the names: the tables' words, and 'selects' of the private methods out of them =====
/-- a private method of a class that the tables say can be made, by its rows of tables_1 -/
def lw_okq (q : MethodName × Nat) : Prop := (q.1.cls ≠ "java/lang/invoke/MethodHandle" ∧ q.1.cls ≠ "java/lang/invoke/VarHandle") ∧ Cond.instantiable q.1.cls q.2 ∈ tables_1 ∧ Cond.privateMethod q.1 ∈ tables_1 ∧ Cond.instanceMethod q.1 ∈ tables_1
theorem lw_p0 : lw_okq (⟨"SignReforms$ReformText", "readMark", "(I)Z"⟩, 6) := ⟨⟨by decide +kernel, by decide +kernel⟩, List.mem_of_getElem? (i := 36) (by decide +kernel), List.mem_of_getElem? (i := 258) (by decide +kernel), List.mem_of_getElem? (i := 259) (by decide +kernel)⟩
theorem lw_p1 : lw_okq (⟨"SignReforms$ReformText", "readDigit", "(II)Z"⟩, 6) := ⟨⟨by decide +kernel, by decide +kernel⟩, List.mem_of_getElem? (i := 36) (by decide +kernel), List.mem_of_getElem? (i := 357) (by decide +kernel), List.mem_of_getElem? (i := 358) (by decide +kernel)⟩
theorem lw_p2 : lw_okq (⟨"SignReforms$ReformText", "readWord", "()Z"⟩, 6) := ⟨⟨by decide +kernel, by decide +kernel⟩, List.mem_of_getElem? (i := 36) (by decide +kernel), List.mem_of_getElem? (i := 361) (by decide +kernel), List.mem_of_getElem? (i := 362) (by decide +kernel)⟩
theorem lw_p3 : lw_okq (⟨"SignReforms$ReformText", "readLetter", "()Z"⟩, 6) := ⟨⟨by decide +kernel, by decide +kernel⟩, List.mem_of_getElem? (i := 36) (by decide +kernel), List.mem_of_getElem? (i := 365) (by decide +kernel), List.mem_of_getElem? (i := 366) (by decide +kernel)⟩
theorem lw_p4 : lw_okq (⟨"SignReforms$ReformText", "readMonths", "()Z"⟩, 6) := ⟨⟨by decide +kernel, by decide +kernel⟩, List.mem_of_getElem? (i := 36) (by decide +kernel), List.mem_of_getElem? (i := 369) (by decide +kernel), List.mem_of_getElem? (i := 370) (by decide +kernel)⟩
theorem lw_p5 : lw_okq (⟨"SignReforms$Town", "reasonAgainstPlan", "()I"⟩, 4) := ⟨⟨by decide +kernel, by decide +kernel⟩, List.mem_of_getElem? (i := 66) (by decide +kernel), List.mem_of_getElem? (i := 401) (by decide +kernel), List.mem_of_getElem? (i := 402) (by decide +kernel)⟩
theorem lw_p6 : lw_okq (⟨"java/lang/Throwable", "fillInStackTrace", "(I)Ljava/lang/Throwable;"⟩, 6) := ⟨⟨by decide +kernel, by decide +kernel⟩, List.mem_of_getElem? (i := 452) (by decide +kernel), List.mem_of_getElem? (i := 450) (by decide +kernel), List.mem_of_getElem? (i := 451) (by decide +kernel)⟩
theorem lw_p7 : lw_okq (⟨"SignReforms", "doneInTown", "()Z"⟩, 4) := ⟨⟨by decide +kernel, by decide +kernel⟩, List.mem_of_getElem? (i := 28) (by decide +kernel), List.mem_of_getElem? (i := 524) (by decide +kernel), List.mem_of_getElem? (i := 525) (by decide +kernel)⟩
theorem lw_p8 : lw_okq (⟨"SignReforms$Town", "reasonAgainstSign", "(II)I"⟩, 4) := ⟨⟨by decide +kernel, by decide +kernel⟩, List.mem_of_getElem? (i := 66) (by decide +kernel), List.mem_of_getElem? (i := 541) (by decide +kernel), List.mem_of_getElem? (i := 542) (by decide +kernel)⟩
theorem lw_p9 : lw_okq (⟨"SignReforms$Ruler", "nextRow", "(II)V"⟩, 1) := ⟨⟨by decide +kernel, by decide +kernel⟩, List.mem_of_getElem? (i := 167) (by decide +kernel), List.mem_of_getElem? (i := 593) (by decide +kernel), List.mem_of_getElem? (i := 594) (by decide +kernel)⟩
theorem lw_p10 : lw_okq (⟨"SignReforms$Town", "fineWrongSigns", "()V"⟩, 4) := ⟨⟨by decide +kernel, by decide +kernel⟩, List.mem_of_getElem? (i := 66) (by decide +kernel), List.mem_of_getElem? (i := 612) (by decide +kernel), List.mem_of_getElem? (i := 613) (by decide +kernel)⟩
theorem lw_p11 : lw_okq (⟨"SignReforms$Town", "lettersOf", "([I)I"⟩, 4) := ⟨⟨by decide +kernel, by decide +kernel⟩, List.mem_of_getElem? (i := 66) (by decide +kernel), List.mem_of_getElem? (i := 644) (by decide +kernel), List.mem_of_getElem? (i := 645) (by decide +kernel)⟩
theorem lw_p12 : lw_okq (⟨"SignReforms$Town", "costOfAll", "()I"⟩, 4) := ⟨⟨by decide +kernel, by decide +kernel⟩, List.mem_of_getElem? (i := 66) (by decide +kernel), List.mem_of_getElem? (i := 653) (by decide +kernel), List.mem_of_getElem? (i := 654) (by decide +kernel)⟩
theorem lw_p13 : lw_okq (⟨"SignReforms", "requireSign", "(I)V"⟩, 4) := ⟨⟨by decide +kernel, by decide +kernel⟩, List.mem_of_getElem? (i := 28) (by decide +kernel), List.mem_of_getElem? (i := 665) (by decide +kernel), List.mem_of_getElem? (i := 666) (by decide +kernel)⟩
theorem lw_p14 : lw_okq (⟨"SignReforms", "requireDecree", "(I)V"⟩, 4) := ⟨⟨by decide +kernel, by decide +kernel⟩, List.mem_of_getElem? (i := 28) (by decide +kernel), List.mem_of_getElem? (i := 698) (by decide +kernel), List.mem_of_getElem? (i := 699) (by decide +kernel)⟩
theorem lw_p15 : lw_okq (⟨"SignReforms$Town", "signsOfGuild", "(IZ)I"⟩, 4) := ⟨⟨by decide +kernel, by decide +kernel⟩, List.mem_of_getElem? (i := 66) (by decide +kernel), List.mem_of_getElem? (i := 725) (by decide +kernel), List.mem_of_getElem? (i := 726) (by decide +kernel)⟩
def lw_privs_1 : List (MethodName × Nat) := [(⟨"SignReforms$ReformText", "readMark", "(I)Z"⟩, 6), (⟨"SignReforms$ReformText", "readDigit", "(II)Z"⟩, 6), (⟨"SignReforms$ReformText", "readWord", "()Z"⟩, 6), (⟨"SignReforms$ReformText", "readLetter", "()Z"⟩, 6), (⟨"SignReforms$ReformText", "readMonths", "()Z"⟩, 6), (⟨"SignReforms$Town", "reasonAgainstPlan", "()I"⟩, 4), (⟨"java/lang/Throwable", "fillInStackTrace", "(I)Ljava/lang/Throwable;"⟩, 6), (⟨"SignReforms", "doneInTown", "()Z"⟩, 4), (⟨"SignReforms$Town", "reasonAgainstSign", "(II)I"⟩, 4), (⟨"SignReforms$Ruler", "nextRow", "(II)V"⟩, 1), (⟨"SignReforms$Town", "fineWrongSigns", "()V"⟩, 4), (⟨"SignReforms$Town", "lettersOf", "([I)I"⟩, 4), (⟨"SignReforms$Town", "costOfAll", "()I"⟩, 4), (⟨"SignReforms", "requireSign", "(I)V"⟩, 4), (⟨"SignReforms", "requireDecree", "(I)V"⟩, 4), (⟨"SignReforms$Town", "signsOfGuild", "(IZ)I"⟩, 4)]
theorem lw_r1 : ∀ q ∈ lw_privs_1, lw_okq q := List.forall_mem_cons.mpr ⟨lw_p0, List.forall_mem_cons.mpr ⟨lw_p1, List.forall_mem_cons.mpr ⟨lw_p2, List.forall_mem_cons.mpr ⟨lw_p3, List.forall_mem_cons.mpr ⟨lw_p4, List.forall_mem_cons.mpr ⟨lw_p5, List.forall_mem_cons.mpr ⟨lw_p6, List.forall_mem_cons.mpr ⟨lw_p7, List.forall_mem_cons.mpr ⟨lw_p8, List.forall_mem_cons.mpr ⟨lw_p9, List.forall_mem_cons.mpr ⟨lw_p10, List.forall_mem_cons.mpr ⟨lw_p11, List.forall_mem_cons.mpr ⟨lw_p12, List.forall_mem_cons.mpr ⟨lw_p13, List.forall_mem_cons.mpr ⟨lw_p14, List.forall_mem_cons.mpr ⟨lw_p15, fun _ h => absurd h List.not_mem_nil⟩⟩⟩⟩⟩⟩⟩⟩⟩⟩⟩⟩⟩⟩⟩⟩
theorem lw_p16 : lw_okq (⟨"SignReforms$Flow", "through", "(LSignReforms$Decrees;IZ)I"⟩, 1) := ⟨⟨by decide +kernel, by decide +kernel⟩, List.mem_of_getElem? (i := 177) (by decide +kernel), List.mem_of_getElem? (i := 747) (by decide +kernel), List.mem_of_getElem? (i := 748) (by decide +kernel)⟩
theorem lw_p17 : lw_okq (⟨"SignReforms$Flow", "pastDecree", "(LSignReforms$Decrees;II)I"⟩, 1) := ⟨⟨by decide +kernel, by decide +kernel⟩, List.mem_of_getElem? (i := 177) (by decide +kernel), List.mem_of_getElem? (i := 751) (by decide +kernel), List.mem_of_getElem? (i := 752) (by decide +kernel)⟩
theorem lw_p18 : lw_okq (⟨"SignReforms$Flow", "let", "(LSignReforms$Decrees;II)I"⟩, 1) := ⟨⟨by decide +kernel, by decide +kernel⟩, List.mem_of_getElem? (i := 177) (by decide +kernel), List.mem_of_getElem? (i := 755) (by decide +kernel), List.mem_of_getElem? (i := 756) (by decide +kernel)⟩
theorem lw_p19 : lw_okq (⟨"SignReformsModel", "begins", "()V"⟩, 18) := ⟨⟨by decide +kernel, by decide +kernel⟩, List.mem_of_getElem? (i := 1001) (by decide +kernel), List.mem_of_getElem? (i := 1007) (by decide +kernel), List.mem_of_getElem? (i := 1008) (by decide +kernel)⟩
theorem lw_p20 : lw_okq (⟨"SignReformsModel", "holds", "(I)Z"⟩, 18) := ⟨⟨by decide +kernel, by decide +kernel⟩, List.mem_of_getElem? (i := 1001) (by decide +kernel), List.mem_of_getElem? (i := 1077) (by decide +kernel), List.mem_of_getElem? (i := 1078) (by decide +kernel)⟩
theorem lw_p21 : lw_okq (⟨"SignReformsModel", "goesThrough", "(Z)I"⟩, 18) := ⟨⟨by decide +kernel, by decide +kernel⟩, List.mem_of_getElem? (i := 1001) (by decide +kernel), List.mem_of_getElem? (i := 1089) (by decide +kernel), List.mem_of_getElem? (i := 1090) (by decide +kernel)⟩
theorem lw_p22 : lw_okq (⟨"SignReformsModel", "takes", "(II)I"⟩, 18) := ⟨⟨by decide +kernel, by decide +kernel⟩, List.mem_of_getElem? (i := 1001) (by decide +kernel), List.mem_of_getElem? (i := 1093) (by decide +kernel), List.mem_of_getElem? (i := 1094) (by decide +kernel)⟩
theorem lw_p23 : lw_okq (⟨"SignReformsModel", "isNext", "(II)Z"⟩, 18) := ⟨⟨by decide +kernel, by decide +kernel⟩, List.mem_of_getElem? (i := 1001) (by decide +kernel), List.mem_of_getElem? (i := 1097) (by decide +kernel), List.mem_of_getElem? (i := 1098) (by decide +kernel)⟩
theorem lw_p24 : lw_okq (⟨"SignReformsModel", "readCommand", "()V"⟩, 18) := ⟨⟨by decide +kernel, by decide +kernel⟩, List.mem_of_getElem? (i := 1001) (by decide +kernel), List.mem_of_getElem? (i := 1101) (by decide +kernel), List.mem_of_getElem? (i := 1102) (by decide +kernel)⟩
theorem lw_p25 : lw_okq (⟨"SignReformsModel", "readWord", "()I"⟩, 18) := ⟨⟨by decide +kernel, by decide +kernel⟩, List.mem_of_getElem? (i := 1001) (by decide +kernel), List.mem_of_getElem? (i := 1105) (by decide +kernel), List.mem_of_getElem? (i := 1106) (by decide +kernel)⟩
theorem lw_p26 : lw_okq (⟨"SignReformsModel", "readMonths", "()I"⟩, 18) := ⟨⟨by decide +kernel, by decide +kernel⟩, List.mem_of_getElem? (i := 1001) (by decide +kernel), List.mem_of_getElem? (i := 1109) (by decide +kernel), List.mem_of_getElem? (i := 1110) (by decide +kernel)⟩
theorem lw_p27 : lw_okq (⟨"SignReformsModel", "does", "()I"⟩, 18) := ⟨⟨by decide +kernel, by decide +kernel⟩, List.mem_of_getElem? (i := 1001) (by decide +kernel), List.mem_of_getElem? (i := 1113) (by decide +kernel), List.mem_of_getElem? (i := 1114) (by decide +kernel)⟩
theorem lw_p28 : lw_okq (⟨"SignReformsModel", "errorOfSign", "(II)I"⟩, 18) := ⟨⟨by decide +kernel, by decide +kernel⟩, List.mem_of_getElem? (i := 1001) (by decide +kernel), List.mem_of_getElem? (i := 1117) (by decide +kernel), List.mem_of_getElem? (i := 1118) (by decide +kernel)⟩
theorem lw_p29 : lw_okq (⟨"SignReformsModel", "comes", "(II)I"⟩, 18) := ⟨⟨by decide +kernel, by decide +kernel⟩, List.mem_of_getElem? (i := 1001) (by decide +kernel), List.mem_of_getElem? (i := 1128) (by decide +kernel), List.mem_of_getElem? (i := 1129) (by decide +kernel)⟩
theorem lw_p30 : lw_okq (⟨"SignReformsModel", "spelled", "(I)I"⟩, 18) := ⟨⟨by decide +kernel, by decide +kernel⟩, List.mem_of_getElem? (i := 1001) (by decide +kernel), List.mem_of_getElem? (i := 1135) (by decide +kernel), List.mem_of_getElem? (i := 1136) (by decide +kernel)⟩
theorem lw_p31 : lw_okq (⟨"SignReformsModel", "made", "(II)I"⟩, 18) := ⟨⟨by decide +kernel, by decide +kernel⟩, List.mem_of_getElem? (i := 1001) (by decide +kernel), List.mem_of_getElem? (i := 1139) (by decide +kernel), List.mem_of_getElem? (i := 1140) (by decide +kernel)⟩
def lw_privs_2 : List (MethodName × Nat) := [(⟨"SignReforms$Flow", "through", "(LSignReforms$Decrees;IZ)I"⟩, 1), (⟨"SignReforms$Flow", "pastDecree", "(LSignReforms$Decrees;II)I"⟩, 1), (⟨"SignReforms$Flow", "let", "(LSignReforms$Decrees;II)I"⟩, 1), (⟨"SignReformsModel", "begins", "()V"⟩, 18), (⟨"SignReformsModel", "holds", "(I)Z"⟩, 18), (⟨"SignReformsModel", "goesThrough", "(Z)I"⟩, 18), (⟨"SignReformsModel", "takes", "(II)I"⟩, 18), (⟨"SignReformsModel", "isNext", "(II)Z"⟩, 18), (⟨"SignReformsModel", "readCommand", "()V"⟩, 18), (⟨"SignReformsModel", "readWord", "()I"⟩, 18), (⟨"SignReformsModel", "readMonths", "()I"⟩, 18), (⟨"SignReformsModel", "does", "()I"⟩, 18), (⟨"SignReformsModel", "errorOfSign", "(II)I"⟩, 18), (⟨"SignReformsModel", "comes", "(II)I"⟩, 18), (⟨"SignReformsModel", "spelled", "(I)I"⟩, 18), (⟨"SignReformsModel", "made", "(II)I"⟩, 18)]
theorem lw_r2 : ∀ q ∈ lw_privs_2, lw_okq q := List.forall_mem_cons.mpr ⟨lw_p16, List.forall_mem_cons.mpr ⟨lw_p17, List.forall_mem_cons.mpr ⟨lw_p18, List.forall_mem_cons.mpr ⟨lw_p19, List.forall_mem_cons.mpr ⟨lw_p20, List.forall_mem_cons.mpr ⟨lw_p21, List.forall_mem_cons.mpr ⟨lw_p22, List.forall_mem_cons.mpr ⟨lw_p23, List.forall_mem_cons.mpr ⟨lw_p24, List.forall_mem_cons.mpr ⟨lw_p25, List.forall_mem_cons.mpr ⟨lw_p26, List.forall_mem_cons.mpr ⟨lw_p27, List.forall_mem_cons.mpr ⟨lw_p28, List.forall_mem_cons.mpr ⟨lw_p29, List.forall_mem_cons.mpr ⟨lw_p30, List.forall_mem_cons.mpr ⟨lw_p31, fun _ h => absurd h List.not_mem_nil⟩⟩⟩⟩⟩⟩⟩⟩⟩⟩⟩⟩⟩⟩⟩⟩
theorem lw_p32 : lw_okq (⟨"SignReformsModel", "hindrance", "()I"⟩, 18) := ⟨⟨by decide +kernel, by decide +kernel⟩, List.mem_of_getElem? (i := 1001) (by decide +kernel), List.mem_of_getElem? (i := 1152) (by decide +kernel), List.mem_of_getElem? (i := 1153) (by decide +kernel)⟩
theorem lw_p33 : lw_okq (⟨"SignReformsModel", "rightOf", "(I)I"⟩, 18) := ⟨⟨by decide +kernel, by decide +kernel⟩, List.mem_of_getElem? (i := 1001) (by decide +kernel), List.mem_of_getElem? (i := 1156) (by decide +kernel), List.mem_of_getElem? (i := 1157) (by decide +kernel)⟩
theorem lw_p34 : lw_okq (⟨"SignReformsModel", "errorOfDecree", "(IIII)I"⟩, 18) := ⟨⟨by decide +kernel, by decide +kernel⟩, List.mem_of_getElem? (i := 1001) (by decide +kernel), List.mem_of_getElem? (i := 1160) (by decide +kernel), List.mem_of_getElem? (i := 1161) (by decide +kernel)⟩
theorem lw_p35 : lw_okq (⟨"SignReformsModel", "gives", "(IIII)I"⟩, 18) := ⟨⟨by decide +kernel, by decide +kernel⟩, List.mem_of_getElem? (i := 1001) (by decide +kernel), List.mem_of_getElem? (i := 1167) (by decide +kernel), List.mem_of_getElem? (i := 1168) (by decide +kernel)⟩
theorem lw_p36 : lw_okq (⟨"SignReformsModel", "putsDecree", "(IIII)V"⟩, 18) := ⟨⟨by decide +kernel, by decide +kernel⟩, List.mem_of_getElem? (i := 1001) (by decide +kernel), List.mem_of_getElem? (i := 1171) (by decide +kernel), List.mem_of_getElem? (i := 1172) (by decide +kernel)⟩
theorem lw_p37 : lw_okq (⟨"SignReformsModel", "isDecree", "(I)Z"⟩, 18) := ⟨⟨by decide +kernel, by decide +kernel⟩, List.mem_of_getElem? (i := 1001) (by decide +kernel), List.mem_of_getElem? (i := 1175) (by decide +kernel), List.mem_of_getElem? (i := 1176) (by decide +kernel)⟩
theorem lw_p38 : lw_okq (⟨"SignReformsModel", "revokes", "(I)I"⟩, 18) := ⟨⟨by decide +kernel, by decide +kernel⟩, List.mem_of_getElem? (i := 1001) (by decide +kernel), List.mem_of_getElem? (i := 1179) (by decide +kernel), List.mem_of_getElem? (i := 1180) (by decide +kernel)⟩
theorem lw_p39 : lw_okq (⟨"SignReformsModel", "keepsDecrees", "()V"⟩, 18) := ⟨⟨by decide +kernel, by decide +kernel⟩, List.mem_of_getElem? (i := 1001) (by decide +kernel), List.mem_of_getElem? (i := 1183) (by decide +kernel), List.mem_of_getElem? (i := 1184) (by decide +kernel)⟩
theorem lw_p40 : lw_okq (⟨"SignReformsModel", "restoresDecrees", "()V"⟩, 18) := ⟨⟨by decide +kernel, by decide +kernel⟩, List.mem_of_getElem? (i := 1001) (by decide +kernel), List.mem_of_getElem? (i := 1187) (by decide +kernel), List.mem_of_getElem? (i := 1188) (by decide +kernel)⟩
theorem lw_p41 : lw_okq (⟨"SignReformsModel", "isSign", "(I)Z"⟩, 18) := ⟨⟨by decide +kernel, by decide +kernel⟩, List.mem_of_getElem? (i := 1001) (by decide +kernel), List.mem_of_getElem? (i := 1191) (by decide +kernel), List.mem_of_getElem? (i := 1192) (by decide +kernel)⟩
theorem lw_p42 : lw_okq (⟨"SignReformsModel", "paints", "(I)I"⟩, 18) := ⟨⟨by decide +kernel, by decide +kernel⟩, List.mem_of_getElem? (i := 1001) (by decide +kernel), List.mem_of_getElem? (i := 1195) (by decide +kernel), List.mem_of_getElem? (i := 1196) (by decide +kernel)⟩
theorem lw_p43 : lw_okq (⟨"SignReformsModel", "costOf", "(I)I"⟩, 18) := ⟨⟨by decide +kernel, by decide +kernel⟩, List.mem_of_getElem? (i := 1001) (by decide +kernel), List.mem_of_getElem? (i := 1199) (by decide +kernel), List.mem_of_getElem? (i := 1200) (by decide +kernel)⟩
theorem lw_p44 : lw_okq (⟨"SignReformsModel", "apartBy", "(I)I"⟩, 18) := ⟨⟨by decide +kernel, by decide +kernel⟩, List.mem_of_getElem? (i := 1001) (by decide +kernel), List.mem_of_getElem? (i := 1203) (by decide +kernel), List.mem_of_getElem? (i := 1204) (by decide +kernel)⟩
theorem lw_p45 : lw_okq (⟨"SignReformsModel", "apartOf", "(II)I"⟩, 18) := ⟨⟨by decide +kernel, by decide +kernel⟩, List.mem_of_getElem? (i := 1001) (by decide +kernel), List.mem_of_getElem? (i := 1207) (by decide +kernel), List.mem_of_getElem? (i := 1208) (by decide +kernel)⟩
theorem lw_p46 : lw_okq (⟨"SignReformsModel", "goesOn", "(I)I"⟩, 18) := ⟨⟨by decide +kernel, by decide +kernel⟩, List.mem_of_getElem? (i := 1001) (by decide +kernel), List.mem_of_getElem? (i := 1214) (by decide +kernel), List.mem_of_getElem? (i := 1215) (by decide +kernel)⟩
theorem lw_p47 : lw_okq (⟨"SignReformsModel", "isWrong", "(I)Z"⟩, 18) := ⟨⟨by decide +kernel, by decide +kernel⟩, List.mem_of_getElem? (i := 1001) (by decide +kernel), List.mem_of_getElem? (i := 1218) (by decide +kernel), List.mem_of_getElem? (i := 1219) (by decide +kernel)⟩
def lw_privs_3 : List (MethodName × Nat) := [(⟨"SignReformsModel", "hindrance", "()I"⟩, 18), (⟨"SignReformsModel", "rightOf", "(I)I"⟩, 18), (⟨"SignReformsModel", "errorOfDecree", "(IIII)I"⟩, 18), (⟨"SignReformsModel", "gives", "(IIII)I"⟩, 18), (⟨"SignReformsModel", "putsDecree", "(IIII)V"⟩, 18), (⟨"SignReformsModel", "isDecree", "(I)Z"⟩, 18), (⟨"SignReformsModel", "revokes", "(I)I"⟩, 18), (⟨"SignReformsModel", "keepsDecrees", "()V"⟩, 18), (⟨"SignReformsModel", "restoresDecrees", "()V"⟩, 18), (⟨"SignReformsModel", "isSign", "(I)Z"⟩, 18), (⟨"SignReformsModel", "paints", "(I)I"⟩, 18), (⟨"SignReformsModel", "costOf", "(I)I"⟩, 18), (⟨"SignReformsModel", "apartBy", "(I)I"⟩, 18), (⟨"SignReformsModel", "apartOf", "(II)I"⟩, 18), (⟨"SignReformsModel", "goesOn", "(I)I"⟩, 18), (⟨"SignReformsModel", "isWrong", "(I)Z"⟩, 18)]
theorem lw_r3 : ∀ q ∈ lw_privs_3, lw_okq q := List.forall_mem_cons.mpr ⟨lw_p32, List.forall_mem_cons.mpr ⟨lw_p33, List.forall_mem_cons.mpr ⟨lw_p34, List.forall_mem_cons.mpr ⟨lw_p35, List.forall_mem_cons.mpr ⟨lw_p36, List.forall_mem_cons.mpr ⟨lw_p37, List.forall_mem_cons.mpr ⟨lw_p38, List.forall_mem_cons.mpr ⟨lw_p39, List.forall_mem_cons.mpr ⟨lw_p40, List.forall_mem_cons.mpr ⟨lw_p41, List.forall_mem_cons.mpr ⟨lw_p42, List.forall_mem_cons.mpr ⟨lw_p43, List.forall_mem_cons.mpr ⟨lw_p44, List.forall_mem_cons.mpr ⟨lw_p45, List.forall_mem_cons.mpr ⟨lw_p46, List.forall_mem_cons.mpr ⟨lw_p47, fun _ h => absurd h List.not_mem_nil⟩⟩⟩⟩⟩⟩⟩⟩⟩⟩⟩⟩⟩⟩⟩⟩
theorem lw_p48 : lw_okq (⟨"SignReformsModel", "errorOfAmnesty", "(I)I"⟩, 18) := ⟨⟨by decide +kernel, by decide +kernel⟩, List.mem_of_getElem? (i := 1001) (by decide +kernel), List.mem_of_getElem? (i := 1222) (by decide +kernel), List.mem_of_getElem? (i := 1223) (by decide +kernel)⟩
theorem lw_p49 : lw_okq (⟨"SignReformsModel", "spares", "(I)I"⟩, 18) := ⟨⟨by decide +kernel, by decide +kernel⟩, List.mem_of_getElem? (i := 1001) (by decide +kernel), List.mem_of_getElem? (i := 1226) (by decide +kernel), List.mem_of_getElem? (i := 1227) (by decide +kernel)⟩
theorem lw_p50 : lw_okq (⟨"SignReformsModel", "wrongs", "()I"⟩, 18) := ⟨⟨by decide +kernel, by decide +kernel⟩, List.mem_of_getElem? (i := 1001) (by decide +kernel), List.mem_of_getElem? (i := 1230) (by decide +kernel), List.mem_of_getElem? (i := 1231) (by decide +kernel)⟩
theorem lw_p51 : lw_okq (⟨"SignReformsModel", "hasReasons", "()Z"⟩, 18) := ⟨⟨by decide +kernel, by decide +kernel⟩, List.mem_of_getElem? (i := 1001) (by decide +kernel), List.mem_of_getElem? (i := 1234) (by decide +kernel), List.mem_of_getElem? (i := 1235) (by decide +kernel)⟩
theorem lw_p52 : lw_okq (⟨"SignReformsModel", "told", "(I)I"⟩, 18) := ⟨⟨by decide +kernel, by decide +kernel⟩, List.mem_of_getElem? (i := 1001) (by decide +kernel), List.mem_of_getElem? (i := 1246) (by decide +kernel), List.mem_of_getElem? (i := 1247) (by decide +kernel)⟩
theorem lw_p53 : lw_okq (⟨"SignReformsModel", "sumOf", "(I)I"⟩, 18) := ⟨⟨by decide +kernel, by decide +kernel⟩, List.mem_of_getElem? (i := 1001) (by decide +kernel), List.mem_of_getElem? (i := 1250) (by decide +kernel), List.mem_of_getElem? (i := 1251) (by decide +kernel)⟩
theorem lw_p54 : lw_okq (⟨"SignReformsModel", "ofSign", "(II)I"⟩, 18) := ⟨⟨by decide +kernel, by decide +kernel⟩, List.mem_of_getElem? (i := 1001) (by decide +kernel), List.mem_of_getElem? (i := 1258) (by decide +kernel), List.mem_of_getElem? (i := 1259) (by decide +kernel)⟩
theorem lw_p55 : lw_okq (⟨"SignReformsModel", "ofGuild", "(II)I"⟩, 18) := ⟨⟨by decide +kernel, by decide +kernel⟩, List.mem_of_getElem? (i := 1001) (by decide +kernel), List.mem_of_getElem? (i := 1270) (by decide +kernel), List.mem_of_getElem? (i := 1271) (by decide +kernel)⟩
theorem lw_p56 : lw_okq (⟨"SignReformsModel", "acts", "(IIII)I"⟩, 18) := ⟨⟨by decide +kernel, by decide +kernel⟩, List.mem_of_getElem? (i := 1001) (by decide +kernel), List.mem_of_getElem? (i := 1286) (by decide +kernel), List.mem_of_getElem? (i := 1287) (by decide +kernel)⟩
theorem lw_p57 : lw_okq (⟨"SignReformsModel", "remember", "()V"⟩, 18) := ⟨⟨by decide +kernel, by decide +kernel⟩, List.mem_of_getElem? (i := 1001) (by decide +kernel), List.mem_of_getElem? (i := 1290) (by decide +kernel), List.mem_of_getElem? (i := 1291) (by decide +kernel)⟩
theorem lw_p58 : lw_okq (⟨"SignReformsModel", "wouldHinder", "(IIII)I"⟩, 18) := ⟨⟨by decide +kernel, by decide +kernel⟩, List.mem_of_getElem? (i := 1001) (by decide +kernel), List.mem_of_getElem? (i := 1326) (by decide +kernel), List.mem_of_getElem? (i := 1327) (by decide +kernel)⟩
theorem lw_p59 : lw_okq (⟨"SignReformsModel", "wouldHinderMore", "(IIII)I"⟩, 18) := ⟨⟨by decide +kernel, by decide +kernel⟩, List.mem_of_getElem? (i := 1001) (by decide +kernel), List.mem_of_getElem? (i := 1330) (by decide +kernel), List.mem_of_getElem? (i := 1331) (by decide +kernel)⟩
theorem lw_p60 : lw_okq (⟨"SignReformsModel", "paidBy", "(I)I"⟩, 18) := ⟨⟨by decide +kernel, by decide +kernel⟩, List.mem_of_getElem? (i := 1001) (by decide +kernel), List.mem_of_getElem? (i := 1346) (by decide +kernel), List.mem_of_getElem? (i := 1347) (by decide +kernel)⟩
theorem lw_p61 : lw_okq (⟨"SignReformsModel", "worthBehind", "(I)I"⟩, 18) := ⟨⟨by decide +kernel, by decide +kernel⟩, List.mem_of_getElem? (i := 1001) (by decide +kernel), List.mem_of_getElem? (i := 1354) (by decide +kernel), List.mem_of_getElem? (i := 1355) (by decide +kernel)⟩
theorem lw_p62 : lw_okq (⟨"SignReformsModel", "runs", "(IJ)I"⟩, 18) := ⟨⟨by decide +kernel, by decide +kernel⟩, List.mem_of_getElem? (i := 1001) (by decide +kernel), List.mem_of_getElem? (i := 1366) (by decide +kernel), List.mem_of_getElem? (i := 1367) (by decide +kernel)⟩
theorem lw_p63 : lw_okq (⟨"SignReformsModel", "putAside", "()V"⟩, 18) := ⟨⟨by decide +kernel, by decide +kernel⟩, List.mem_of_getElem? (i := 1001) (by decide +kernel), List.mem_of_getElem? (i := 1370) (by decide +kernel), List.mem_of_getElem? (i := 1371) (by decide +kernel)⟩
def lw_privs_4 : List (MethodName × Nat) := [(⟨"SignReformsModel", "errorOfAmnesty", "(I)I"⟩, 18), (⟨"SignReformsModel", "spares", "(I)I"⟩, 18), (⟨"SignReformsModel", "wrongs", "()I"⟩, 18), (⟨"SignReformsModel", "hasReasons", "()Z"⟩, 18), (⟨"SignReformsModel", "told", "(I)I"⟩, 18), (⟨"SignReformsModel", "sumOf", "(I)I"⟩, 18), (⟨"SignReformsModel", "ofSign", "(II)I"⟩, 18), (⟨"SignReformsModel", "ofGuild", "(II)I"⟩, 18), (⟨"SignReformsModel", "acts", "(IIII)I"⟩, 18), (⟨"SignReformsModel", "remember", "()V"⟩, 18), (⟨"SignReformsModel", "wouldHinder", "(IIII)I"⟩, 18), (⟨"SignReformsModel", "wouldHinderMore", "(IIII)I"⟩, 18), (⟨"SignReformsModel", "paidBy", "(I)I"⟩, 18), (⟨"SignReformsModel", "worthBehind", "(I)I"⟩, 18), (⟨"SignReformsModel", "runs", "(IJ)I"⟩, 18), (⟨"SignReformsModel", "putAside", "()V"⟩, 18)]
theorem lw_r4 : ∀ q ∈ lw_privs_4, lw_okq q := List.forall_mem_cons.mpr ⟨lw_p48, List.forall_mem_cons.mpr ⟨lw_p49, List.forall_mem_cons.mpr ⟨lw_p50, List.forall_mem_cons.mpr ⟨lw_p51, List.forall_mem_cons.mpr ⟨lw_p52, List.forall_mem_cons.mpr ⟨lw_p53, List.forall_mem_cons.mpr ⟨lw_p54, List.forall_mem_cons.mpr ⟨lw_p55, List.forall_mem_cons.mpr ⟨lw_p56, List.forall_mem_cons.mpr ⟨lw_p57, List.forall_mem_cons.mpr ⟨lw_p58, List.forall_mem_cons.mpr ⟨lw_p59, List.forall_mem_cons.mpr ⟨lw_p60, List.forall_mem_cons.mpr ⟨lw_p61, List.forall_mem_cons.mpr ⟨lw_p62, List.forall_mem_cons.mpr ⟨lw_p63, fun _ h => absurd h List.not_mem_nil⟩⟩⟩⟩⟩⟩⟩⟩⟩⟩⟩⟩⟩⟩⟩⟩
theorem lw_p64 : lw_okq (⟨"SignReformsModel", "succeeds", "(I)Z"⟩, 18) := ⟨⟨by decide +kernel, by decide +kernel⟩, List.mem_of_getElem? (i := 1001) (by decide +kernel), List.mem_of_getElem? (i := 1374) (by decide +kernel), List.mem_of_getElem? (i := 1375) (by decide +kernel)⟩
theorem lw_p65 : lw_okq (⟨"SignReformsModel", "putBack", "()V"⟩, 18) := ⟨⟨by decide +kernel, by decide +kernel⟩, List.mem_of_getElem? (i := 1001) (by decide +kernel), List.mem_of_getElem? (i := 1378) (by decide +kernel), List.mem_of_getElem? (i := 1379) (by decide +kernel)⟩
theorem lw_p66 : lw_okq (⟨"SignReformsModel", "simulates", "(JI)I"⟩, 18) := ⟨⟨by decide +kernel, by decide +kernel⟩, List.mem_of_getElem? (i := 1001) (by decide +kernel), List.mem_of_getElem? (i := 1386) (by decide +kernel), List.mem_of_getElem? (i := 1387) (by decide +kernel)⟩
theorem lw_p67 : lw_okq (⟨"SignReformsModel", "turns", "(I)I"⟩, 18) := ⟨⟨by decide +kernel, by decide +kernel⟩, List.mem_of_getElem? (i := 1001) (by decide +kernel), List.mem_of_getElem? (i := 1392) (by decide +kernel), List.mem_of_getElem? (i := 1393) (by decide +kernel)⟩
def lw_privs_5 : List (MethodName × Nat) := [(⟨"SignReformsModel", "succeeds", "(I)Z"⟩, 18), (⟨"SignReformsModel", "putBack", "()V"⟩, 18), (⟨"SignReformsModel", "simulates", "(JI)I"⟩, 18), (⟨"SignReformsModel", "turns", "(I)I"⟩, 18)]
theorem lw_r5 : ∀ q ∈ lw_privs_5, lw_okq q := List.forall_mem_cons.mpr ⟨lw_p64, List.forall_mem_cons.mpr ⟨lw_p65, List.forall_mem_cons.mpr ⟨lw_p66, List.forall_mem_cons.mpr ⟨lw_p67, fun _ h => absurd h List.not_mem_nil⟩⟩⟩⟩
def lw_privs : List (MethodName × Nat) := lw_privs_1 ++ (lw_privs_2 ++ (lw_privs_3 ++ (lw_privs_4 ++ (lw_privs_5))))
def lw_tbl : List Cond := k2_sels lw_privs ++ tables_1
theorem lw_privs_ok : ∀ q ∈ lw_privs, lw_okq q := by
  show ∀ q ∈ lw_privs_1 ++ (lw_privs_2 ++ (lw_privs_3 ++ (lw_privs_4 ++ (lw_privs_5)))), lw_okq q
  exact List.forall_mem_append.mpr ⟨lw_r1, List.forall_mem_append.mpr ⟨lw_r2, List.forall_mem_append.mpr ⟨lw_r3, List.forall_mem_append.mpr ⟨lw_r4, lw_r5⟩⟩⟩⟩

/-! ===== BEGIN words of one list among another's, by their places ===== -/
theorem goodIn_r {big : List Cond} (ws : List Cond) (ps : List Nat) (hp : ws = ps.filterMap (fun i => big[i]?)) (h : ws.all goodWord = true) : GoodIn big ws := by
  intro w hw
  have h1 := List.all_eq_true.mp h w hw
  rw [hp] at hw
  obtain ⟨i, -, hi⟩ := List.mem_filterMap.mp hw
  have hm : w ∈ big := by first | exact List.mem_of_getElem? hi | exact List.getElem?_mem hi
  exact ⟨hm, good_of_word h1⟩
theorem goodIn_app {big a b : List Cond} (ha : GoodIn big a) (hb : GoodIn big b) : GoodIn big (a ++ b) := fun w h => (List.mem_append.mp h).elim (ha w) (hb w)
theorem goodIn_ca {big a b : List Cond} {c : Cond} (ha : GoodIn big (c :: a)) (hb : GoodIn big b) : GoodIn big (c :: (a ++ b)) := fun w h => (List.mem_cons.mp h).elim (fun e => ha w (List.mem_cons.mpr (Or.inl e))) (fun h => (List.mem_append.mp h).elim (fun h => ha w (List.mem_cons.mpr (Or.inr h))) (hb w))
theorem goodIn_sub {big ws : List Cond} (hm : ∀ w ∈ ws, w ∈ big) (h : ws.all goodWord = true) : GoodIn big ws := fun w hw => ⟨hm w hw, good_of_word (List.all_eq_true.mp h w hw)⟩
/-! ===== END ===== -/

/-! ===== BEGIN exceptions that leave a method, and their catching by the caller (launches without stack traces) ===== -/
section VXA
/-! The laws vx_back, vx_callV, vx_callS, vx_callSW, vx_throw0, vx_throwS follow proofs of the library, with one case more: JvmDerived/Free/Laws.lean (Back.of_free), Shelf42/LK1.lean (callV, callS), Shelf/KitTraced.lean (throwNew0V, throwNewS). -/
/-- where a method has thrown q: the class by its name, the cell, what was written, the world -/
def vx_T (XC : String → State → State → Prop) (st : State) (q : Addr) (t : State) (mc ms : Nat) (free : Addr → Prop) : Prop :=
  ∃ (E : String) (ce : Cell) (L : List Loc), XC E st t ∧ t.heap[q]? = some ce ∧ ce.vm = .none ∧ st.vm.findClass E = some ce.cls ∧ st.WarmedH t.vm ∧ st.sameButNew ({ t with vm := st.vm } : State) L mc ms ∧ ∀ z ∈ L, free z.base
def vx_Q (Qc : Array Value → State → Outcome → State → Prop) (XC : String → State → State → Prop) (mc ms : Nat) (free : Addr → Prop) : Array Value → State → Outcome → State → Prop := fun a st o t =>
  (Qc a st o t ∧ ∃ L, FrameEnd st o t L mc ms ∧ ∀ q ∈ L, free q.base) ∨ ∃ q, o = .threw q ∧ vx_T XC st q t mc ms free
/-- a callee that returns or throws -/
def vx_Met (l : Launch) (y : MethodName) (ws : List Cond) (rm : Room) (Pc : Array Value → State → Prop) (Qc : Array Value → State → Outcome → State → Prop) (XC : String → State → State → Prop) (mc ms : Nat) (free : Addr → Prop) : Prop :=
  MetFree l y (headSpec ws rm) Pc (fun _ _ _ _ _ => True) (vx_Q Qc XC mc ms free)
def vx_Post (XC : String → State → State → Prop) (mc ms : Nat) (free : Addr → Prop) : Pt → Array Value → Addr → Pt → Prop := fun A a q B =>
  ∃ (g : JFrame) (mk : MethodId) (t : State) (L : List Loc) (E : String) (ce : Cell), B.U.heap = t.heap ∧ B.U.vm = t.vm ∧ XC E (A.U.calling g mk a) t ∧ t.heap[q]? = some ce ∧ ce.vm = .none ∧ A.U.vm.findClass E = some ce.cls ∧ B.locs = A.locs ++ L ∧ (∀ z ∈ L, free z.base) ∧ B.cells = A.cells + mc ∧ B.slots = A.slots + ms
def vx_Back (l : Launch) (R : Room) (p : Program) (e : Env) (below : List Frame) (s : State) (sargs : Array Value) (y : MethodName) (len W9 : Nat)
    (Pre : Pt → Array Value → Prop) (Post : Pt → Array Value → Option Value → Pt → Prop) (PostX : Pt → Array Value → Addr → Pt → Prop) : Prop :=
  ∀ (m : MethodId) (meth : Method) (c : Code) (A : Pt) (g : JFrame) (ig : Instr) (mk : MethodId) (a : Array Value),
    Stand p l e R s m sargs below meth c A.U A.locs A.cells A.slots → g.method = m → g.locals.size = c.maxLocals → decode c.code g.pc = .ok (ig, len) →
    2 * g.monitorRoom + (g.stack.map fun v => v.category).sum ≤ W9 → A.U.methodNamed? y = some mk → Pre A a →
    (∃ (v : Option Value) (B : Pt), Stand p l e R s m sargs below meth c B.U B.locs B.cells B.slots ∧ Post A a v B ∧
      Steps p.tables e below (doInvoke e (A.U.setTop g) [] mk a).1 (B.U.setTop { g with pc := g.pc + len, stack := v.toList ++ g.stack })) ∨
    (∃ (q : Addr) (B : Pt), Stand p l e R s m sargs below meth c B.U B.locs B.cells B.slots ∧ PostX A a q B ∧
      Steps p.tables e below (doInvoke e (A.U.setTop g) [] mk a).1 ((B.U.setTop g).pushFrame (.throwing q)))
section Payer
variable {l : Launch} {R : Room} {p : Program} {e : Env} {below : List Frame} {s : State} {sargs : Array Value} {y : MethodName} {len W9 : Nat}
theorem vx_back {ws : List Cond} {rm : Room} {Pc : Array Value → State → Prop} {Qc : Array Value → State → Outcome → State → Prop} {XC : String → State → State → Prop} {mc ms : Nat} {free : Addr → Prop} {bytes : ByteArray} {maxL : Nat} {ret : Option FieldType}
    (hM : vx_Met l y ws rm Pc Qc XC mc ms free) (hblind : FrameBlind Pc) (hrc : rm.cells = mc) (hrs : rm.slots = ms)
    (hframes : rm.frames + 1 ≤ R.frames) (hlocals : W9 + (maxL + 11) + rm.locals ≤ R.locals)
    (hws : ∀ w ∈ ws, ∀ a' U, s.WarmedH U.vm → w.before a' U = true) (hcode : Cond.code y bytes maxL ret ∈ ws) (hinit : ∀ a' U, s.WarmedH U.vm → (Cond.initialized y.cls).before a' U = true) :
    vx_Back l R p e below s sargs y len W9 (PreOf R mc ms Pc) (PostOf Qc mc ms free) (vx_Post XC mc ms free) := by
  intro m meth c A g ig mk a X hg hsize hdg hW hn hp
  have h1 : (headSpec ws rm).pre.before a A.U = true := atoms_intro fun w hw => hws w hw _ _ X.warmed
  have h2 : (Cond.code y bytes maxL ret).before a A.U = true := hws _ hcode _ _ X.warmed
  have h3 : (Cond.initialized y.cls).before a A.U = true := hinit _ _ X.warmed
  have h4 : A.cells + (headSpec ws rm).room.cells ≤ R.cells := by rw [show (headSpec ws rm).room.cells = mc from hrc]; exact hp.1
  have h5 : A.slots + (headSpec ws rm).room.slots ≤ R.slots := by rw [show (headSpec ws rm).room.slots = ms from hrs]; exact hp.2.1
  have hPc : Pc a (A.U.calling g mk a) := hblind _ _ _ _ hp.2.2
  obtain ⟨U, Ls, c0, s0⟩ := A
  dsimp only [Pt.U, Pt.locs, Pt.cells, Pt.slots] at h1 h2 h3 h4 h5 X hn hPc ⊢
  obtain ⟨methY, cY, hmY, hcY, -, hlY, -, -, -, -⟩ := Cond.code_spec hn h2
  obtain ⟨kY, hkY, -⟩ := className_of_methodNamed hn
  have hinitY : kY.init = .initialized := Cond.initialized_spec (findClass_of_methodNamed hn) hkY h3
  have h : At U g.method c below := by rw [hg]; exact X.here
  have hlocals9 : W9 + (maxL + 11) + (headSpec ws rm).room.locals ≤ R.locals := hlocals
  have happ : (headSpec ws rm).appliesLoose y e.platform (U.calling g mk a) = true :=
    Spec.appliesLoose_calling (g := g) h hdg hn hkY hinitY
      (X.room_calling (g := g) (R' := (headSpec ws rm).room) hsize hmY hcY hframes (by rw [hlY]; omega) h4 h5) h1
  obtain ⟨mid, hmid⟩ := h.above
  have hfr : (U.setTop g).frames = (.java g :: mid) ++ below := by rw [State.frames_setTop' g h.top, hmid]; rfl
  obtain ⟨o, s₂, hsteps, -, hend, hq⟩ := Steps.callFree hM p X.admits X.cas X.clock (acts := []) hfr happ hPc trivial
  have hq' : vx_Q Qc XC mc ms free a (U.calling g mk a) o s₂ := hq
  rw [State.frames_setTop' g h.top] at hend
  obtain ⟨g₀, hg0⟩ := Option.isSome_iff_exists.mp h.top
  obtain ⟨r, hr⟩ := State.topJava?_eq_some.mp hg0
  have hr' : (({ U with heap := s₂.heap, slotsUsed := s₂.slotsUsed } : State).setVm s₂.vm).frames = .java g₀ :: r := hr
  rcases hq' with ⟨hqc, L, hfe, hL⟩ | ⟨q, rfl, E, ce, L, hx, hce, hcv, hcl, hW₂, hsm, hL⟩
  · obtain ⟨⟨v, rfl⟩, hW₂, e2, q2, q3, q4, q5, q6⟩ := id hfe
    have e3 : s₂ = ({ (U.calling g mk a).setFrames s₂.frames with heap := s₂.heap, slotsUsed := s₂.slotsUsed } : State).setVm s₂.vm := by
      have : s₂ = ({ s₂ with vm := (U.calling g mk a).vm } : State).setVm s₂.vm := rfl
      rw [e2] at this
      exact this
    obtain ⟨c₂, i₂, len₂, hc₂, hd₂, hf₂⟩ := hend
    have hW' : U.WarmedH s₂.vm := hW₂
    have hcc : c₂ = c := by
      have h1 : s₂.code? g.method = U.code? g.method := by
        rw [State.code?_eq, State.code?_eq, hW'.alike.method?]
      exact Option.some.inj (hc₂.symm.trans (h1.trans h.code))
    subst hcc
    have hlen : len₂ = len := by rw [hdg] at hd₂; cases hd₂; rfl
    subst hlen
    have hs₂ : s₂ = (({ U with heap := s₂.heap, slotsUsed := s₂.slotsUsed } : State).setVm s₂.vm).setTop { g with pc := g.pc + len₂, stack := v.toList ++ g.stack } := by
      refine e3.trans ?_
      rw [hf₂, State.calling_eq h.top, State.setFrames_setFrames, State.setTop_of_frames _ hr', hr]
      rfl
    have hsame : U.sameButNew ({ U with heap := s₂.heap, slotsUsed := s₂.slotsUsed } : State) L mc ms := by
      refine ⟨?_, q2, q3, q4, q5, q6⟩
      obtain ⟨t, ht, -⟩ := State.frames_cons hr
      show ({ U with heap := s₂.heap, slotsUsed := s₂.slotsUsed } : State) = { U.setFrames U.frames with heap := s₂.heap, slotsUsed := s₂.slotsUsed }
      rw [State.setFrames_self ht]
    subst hg
    refine Or.inl ⟨v, ⟨(({ U with heap := s₂.heap, slotsUsed := s₂.slotsUsed } : State).setVm s₂.vm), Ls ++ L, c0 + mc, s0 + ms⟩,
      ⟨X.admits, X.cas, X.clock, X.frames, X.room, X.hears, X.method, X.code, (X.here.setHeapUsed s₂.heap s₂.slotsUsed).setVm hW'.alike, X.tail, State.WarmedH.trans X.warmed hW', X.limits, X.bytes, X.same.trans (hsame.setVm s.vm)⟩,
      ⟨g, mk, s₂, L, rfl, rfl, hqc, rfl, hL, rfl, rfl⟩, ?_⟩
    show Steps p.tables e below _ ((({ U with heap := s₂.heap, slotsUsed := s₂.slotsUsed } : State).setVm s₂.vm).setTop { g with pc := g.pc + len₂, stack := v.toList ++ g.stack })
    rw [← hs₂]
    exact hsteps
  · obtain ⟨e2, q2, q3, q4, q5, q6⟩ := id hsm
    have e3 : s₂ = ({ (U.calling g mk a).setFrames s₂.frames with heap := s₂.heap, slotsUsed := s₂.slotsUsed } : State).setVm s₂.vm := by
      have : s₂ = ({ s₂ with vm := (U.calling g mk a).vm } : State).setVm s₂.vm := rfl
      rw [e2] at this
      exact this
    have hf₂ : s₂.frames = .throwing q :: .java g :: U.frames.tail := hend
    have hW' : U.WarmedH s₂.vm := hW₂
    have hs₂ : s₂ = ((({ U with heap := s₂.heap, slotsUsed := s₂.slotsUsed } : State).setVm s₂.vm).setTop g).pushFrame (.throwing q) := by
      refine e3.trans ?_
      rw [hf₂, State.calling_eq h.top, State.setFrames_setFrames, State.pushFrame, State.frames_setTop _ hr', State.setTop_of_frames _ hr', State.setFrames_setFrames, hr]
      rfl
    have hsame : U.sameButNew ({ U with heap := s₂.heap, slotsUsed := s₂.slotsUsed } : State) L mc ms := by
      refine ⟨?_, q2, q3, q4, q5, q6⟩
      obtain ⟨t, ht, -⟩ := State.frames_cons hr
      show ({ U with heap := s₂.heap, slotsUsed := s₂.slotsUsed } : State) = { U.setFrames U.frames with heap := s₂.heap, slotsUsed := s₂.slotsUsed }
      rw [State.setFrames_self ht]
    subst hg
    refine Or.inr ⟨q, ⟨(({ U with heap := s₂.heap, slotsUsed := s₂.slotsUsed } : State).setVm s₂.vm), Ls ++ L, c0 + mc, s0 + ms⟩,
      ⟨X.admits, X.cas, X.clock, X.frames, X.room, X.hears, X.method, X.code, (X.here.setHeapUsed s₂.heap s₂.slotsUsed).setVm hW'.alike, X.tail, State.WarmedH.trans X.warmed hW', X.limits, X.bytes, X.same.trans (hsame.setVm s.vm)⟩,
      ⟨g, mk, s₂, L, E, ce, rfl, rfl, hx, hce, hcv, hcl, rfl, hL, rfl, rfl⟩, ?_⟩
    show Steps p.tables e below _ (((({ U with heap := s₂.heap, slotsUsed := s₂.slotsUsed } : State).setVm s₂.vm).setTop g).pushFrame (.throwing q))
    rw [← hs₂]
    exact hsteps
end Payer
section Calls
variable {p : Program} {l : Launch} {e : Env} {R : Room} {s : State} {m : MethodId} {args : Array Value} {below : List Frame} {meth : Method} {c : Code} {T : State} {locs : List Loc} {cells slots : Nat}
theorem vx_callV (X : Stand p l e R s m args below meth c T locs cells slots) (hexec : p.tables.exec = Jvm.exec) {own C : String} {index : Nat} {y : MethodName} {bytes : ByteArray} {maxL : Nat} {ret : Option FieldType}
    (hown : s.vm.findClass own = some m.cls) (hlink : (Cond.methodLink own index y).before args s = true) (hinst : (Cond.instanceMethod y).before args s = true) (hsel : (Cond.selects C y y).before args s = true)
    (hcode : (Cond.code y bytes maxL ret).before args s = true) (hy : y.cls ≠ "java/lang/invoke/MethodHandle" ∧ y.cls ≠ "java/lang/invoke/VarHandle")
    {W9 : Nat} {Pre : Pt → Array Value → Prop} {Post : Pt → Array Value → Option Value → Pt → Prop} {PostX : Pt → Array Value → Addr → Pt → Prop} (hK : vx_Back l R p e below s args y 3 W9 Pre Post PostX)
    {b : Addr} {cellB : Cell} (hcell : T.heap[b]? = some cellB) (hobj : cellB.vm.isStatics = false) (hcls : s.vm.findClass C = some cellB.cls)
    {g : JFrame} (hg : g.method = m) (hsize : g.locals.size = c.maxLocals) {argsL rest : List Value} (hlen : ∀ sig, parseMethodDescriptor y.desc = some sig → argsL.length = sig.parameters.length)
    (hstack : g.stack = argsL.reverse ++ .ref b :: rest) (hW : 2 * g.monitorRoom + (rest.map fun v => v.category).sum ≤ W9) (hdg : decode c.code g.pc = .ok (.invokevirtual index, 3))
    (hpre : ∀ vm₁, s.WarmedH vm₁ → Pre ⟨T.setVm vm₁, locs, cells, slots⟩ (Value.ref b :: argsL).toArray) :
    (∃ (v : Option Value) (vm₁ : Vm) (B : Pt), s.WarmedH vm₁ ∧ Stand p l e R s m args below meth c B.U B.locs B.cells B.slots ∧ Post ⟨T.setVm vm₁, locs, cells, slots⟩ (Value.ref b :: argsL).toArray v B ∧
      ∀ target, Steps p.tables e below (B.U.setTop { g with pc := g.pc + 3, stack := v.toList ++ rest }) target → Steps p.tables e below (T.setTop g) target) ∨
    (∃ (q : Addr) (vm₁ : Vm) (B : Pt), s.WarmedH vm₁ ∧ Stand p l e R s m args below meth c B.U B.locs B.cells B.slots ∧ PostX ⟨T.setVm vm₁, locs, cells, slots⟩ (Value.ref b :: argsL).toArray q B ∧
      Steps p.tables e below (T.setTop g) ((B.U.setTop { g with stack := rest }).pushFrame (.throwing q))) := by
  obtain ⟨mk, methM, hnamed, hmethM, hstM, habM⟩ := Cond.instanceMethod_spec hinst
  obtain ⟨methM', cM, hmethM', -, -, -, -, -, -, hsigM⟩ := Cond.code_spec hnamed hcode
  cases hmethM.symm.trans hmethM'
  obtain ⟨c2, r2, m2, q1, q2, q3, q4, kP, hkP, hkPi⟩ := Cond.selects_spec hsel
  cases hcls.symm.trans q1
  cases (State.methodFound?_of_named hnamed hy).symm.trans q2
  cases hnamed.symm.trans q3
  have hselP : selectMethod e.platform s.vm cellB.cls mk = .method mk := by rw [Launch.admits_selectMethod X.admits]; exact q4
  obtain ⟨vm₁, X₁, hstep₁⟩ := X.invokevirtual hexec hown hlink hnamed hmethM hstM hkP hkPi hy (a := b) (cell := cellB) hcell
    (fun z h => by rw [h] at hobj; cases hobj) hselP hmethM habM hkP hkPi (g := g) hg (argsL := argsL) (rest := rest) (hlen _ hsigM) hstack hdg
  rcases hK m meth c ⟨T.setVm vm₁, locs, cells, slots⟩ { g with stack := rest } (.invokevirtual index) mk (Value.ref b :: argsL).toArray X₁ hg hsize hdg hW (X₁.named hnamed) (hpre vm₁ X₁.warmed) with ⟨v, B, X', hpost, hsteps⟩ | ⟨q, B, X', hpost, hsteps⟩
  · exact Or.inl ⟨v, vm₁, B, X₁.warmed, X', hpost, fun target h => hstep₁ _ fun acts => by rw [doInvoke_state]; exact hsteps.trans h⟩
  · exact Or.inr ⟨q, vm₁, B, X₁.warmed, X', hpost, hstep₁ _ fun acts => by rw [doInvoke_state]; exact hsteps⟩
theorem vx_callS (X : Stand p l e R s m args below meth c T locs cells slots) (hexec : p.tables.exec = Jvm.exec) {own : String} {index : Nat} {y : MethodName} {bytes : ByteArray} {maxL : Nat} {ret : Option FieldType}
    (hown : s.vm.findClass own = some m.cls) (hlink : (Cond.methodLink own index y).before args s = true) (hstat : (Cond.static y).before args s = true) (hinit : (Cond.initialized y.cls).before args s = true)
    (hcode : (Cond.code y bytes maxL ret).before args s = true) (hy : y.cls ≠ "java/lang/invoke/MethodHandle" ∧ y.cls ≠ "java/lang/invoke/VarHandle")
    {W9 : Nat} {Pre : Pt → Array Value → Prop} {Post : Pt → Array Value → Option Value → Pt → Prop} {PostX : Pt → Array Value → Addr → Pt → Prop} (hK : vx_Back l R p e below s args y 3 W9 Pre Post PostX)
    {g : JFrame} (hg : g.method = m) (hsize : g.locals.size = c.maxLocals) {argsL rest : List Value} (hlen : ∀ sig, parseMethodDescriptor y.desc = some sig → argsL.length = sig.parameters.length)
    (hstack : g.stack = argsL.reverse ++ rest) (hW : 2 * g.monitorRoom + (rest.map fun v => v.category).sum ≤ W9) (hdg : decode c.code g.pc = .ok (.invokestatic index, 3))
    (hpre : ∀ vm₁, s.WarmedH vm₁ → Pre ⟨T.setVm vm₁, locs, cells, slots⟩ argsL.toArray) :
    (∃ (v : Option Value) (vm₁ : Vm) (B : Pt), s.WarmedH vm₁ ∧ Stand p l e R s m args below meth c B.U B.locs B.cells B.slots ∧ Post ⟨T.setVm vm₁, locs, cells, slots⟩ argsL.toArray v B ∧
      ∀ target, Steps p.tables e below (B.U.setTop { g with pc := g.pc + 3, stack := v.toList ++ rest }) target → Steps p.tables e below (T.setTop g) target) ∨
    (∃ (q : Addr) (vm₁ : Vm) (B : Pt), s.WarmedH vm₁ ∧ Stand p l e R s m args below meth c B.U B.locs B.cells B.slots ∧ PostX ⟨T.setVm vm₁, locs, cells, slots⟩ argsL.toArray q B ∧
      Steps p.tables e below (T.setTop g) ((B.U.setTop { g with stack := rest }).pushFrame (.throwing q))) := by
  obtain ⟨mk, hnamed⟩ := Cond.code_named hcode
  obtain ⟨methM, cM, hmethM, -, -, -, -, -, -, hsigM⟩ := Cond.code_spec hnamed hcode
  have hstatic : methM.isStatic = true := Cond.static_spec hnamed hmethM hstat
  obtain ⟨kP, hkP, -⟩ := className_of_methodNamed hnamed
  have hinitP : kP.init = .initialized := Cond.initialized_spec (findClass_of_methodNamed hnamed) hkP hinit
  obtain ⟨vm₁, X₁, hstep₁⟩ := X.invokestatic hexec hown hlink hnamed hmethM hstatic hkP hinitP hy (g := g) hg (argsL := argsL) (rest := rest) (hlen _ hsigM) hstack hdg
  rcases hK m meth c ⟨T.setVm vm₁, locs, cells, slots⟩ { g with stack := rest } (.invokestatic index) mk argsL.toArray X₁ hg hsize hdg hW (X₁.named hnamed) (hpre vm₁ X₁.warmed) with ⟨v, B, X', hpost, hsteps⟩ | ⟨q, B, X', hpost, hsteps⟩
  · exact Or.inl ⟨v, vm₁, B, X₁.warmed, X', hpost, fun target h => hstep₁ _ fun acts => by rw [doInvoke_state]; exact hsteps.trans h⟩
  · exact Or.inr ⟨q, vm₁, B, X₁.warmed, X', hpost, hstep₁ _ fun acts => by rw [doInvoke_state]; exact hsteps⟩
end Calls
theorem vx_cls {s : State} {T : State} {vm₁ : Vm} {E : String} {k : ClassId} (hW : s.WarmedH vm₁) (h : (T.setVm vm₁).vm.findClass E = some k) : s.vm.findClass E = some k := by
  have h1 : vm₁.findClass E = some k := h
  rw [hW.alike.findClass] at h1
  exact h1
/-- the method's frame g, with q thrown over it -/
def vx_W (p : Program) (l : Launch) (e : Env) (R : Room) (s : State) (m : MethodId) (args : Array Value) (below : List Frame) (meth : Method) (c : Code) (H : Heap) (locs : List Loc) (cells slots : Nat) (Q : State → Prop) (g : JFrame) (q : Addr) : Prop :=
  ∀ T : State, T.heap = H → Stand p l e R s m args below meth c T locs cells slots → ∃ t, Steps p.tables e below ((T.setTop g).pushFrame (.throwing q)) t ∧ Q t
def vx_Run (p : Program) (l : Launch) (e : Env) (R : Room) (s : State) (m : MethodId) (args : Array Value) (below : List Frame) (meth : Method) (c : Code) (H : Heap) (locs : List Loc) (cells slots mc ms : Nat) (g : JFrame) (rest : List Value) (Qa : State → Outcome → State → Prop) (XC : String → State → State → Prop) (free : Addr → Prop) : Prop :=
  ∀ T : State, T.heap = H → Stand p l e R s m args below meth c T locs cells slots →
    (∃ (v : Option Value) (st₀ t T' : State) (L : List Loc), st₀.heap = H ∧ Stand p l e R s m args below meth c T' (locs ++ L) (cells + mc) (slots + ms) ∧ (∀ q ∈ L, free q.base) ∧ T'.heap = t.heap ∧ T'.vm = t.vm ∧ Qa st₀ (.returned v) t ∧
      Goes p e below T g T' { g with pc := g.pc + 3, stack := v.toList ++ rest }) ∨
    (∃ (q : Addr) (st₀ t T' : State) (L : List Loc) (E : String) (ce : Cell), st₀.heap = H ∧ Stand p l e R s m args below meth c T' (locs ++ L) (cells + mc) (slots + ms) ∧ (∀ z ∈ L, free z.base) ∧ T'.heap = t.heap ∧ T'.vm = t.vm ∧ XC E st₀ t ∧ t.heap[q]? = some ce ∧ ce.vm = .none ∧ s.vm.findClass E = some ce.cls ∧
      Steps p.tables e below (T.setTop g) ((T'.setTop { g with stack := rest }).pushFrame (.throwing q)))
def vx_X {S : Type} (px : S → Prop) (B : String → S → State → Prop) (A : Nat → Prop) : String → State → State → Prop := fun E st t => ∃ u : S, px u ∧ B E u t ∧ va_F A st t
section Runs
variable {p : Program} {l : Launch} {e : Env} {R : Room} {s : State} {m : MethodId} {args : Array Value} {below : List Frame} {meth : Method} {c : Code} {H : Heap} {locs : List Loc} {cells slots : Nat}
variable {y : MethodName} {bytes cc : ByteArray} {maxL nL mc ms n index : Nat} {ret : Option FieldType} {ws : List Cond} {rm : Room} {Pc : Array Value → State → Prop} {Qc : Array Value → State → Outcome → State → Prop} {XC : String → State → State → Prop} {free : Addr → Prop} {Ts : List Cond} {own C : String} {b : Addr} {As rest : List Value} {g : JFrame}
theorem vx_callBack (cb : CallB R s args own index y bytes maxL ret ws rm mc ms n) (hM : vx_Met l y ws rm Pc Qc XC mc ms free) (hbl : FrameBlind Pc) : vx_Back l R p e below s args y 3 8 (PreOf R mc ms Pc) (PostOf Qc mc ms free) (vx_Post XC mc ms free) := by
  obtain ⟨hrc, hrs, hfr, hlo, hws, hcw, -, hini, -⟩ := cb
  exact vx_back (bytes := bytes) (maxL := maxL) (ret := ret) hM hbl hrc hrs hfr hlo hws hcw (fun a' U hW => word_at hW (Or.inl (by first | rfl | simp [Cond.onTables, Cond.keeps, Cond.steady])) hini)
theorem vx_runV (S : CallFix p m c cc nL s args Ts own) (hM : vx_Met l y ws rm Pc Qc XC mc ms free) (cw : CallW R s args own C index y bytes maxL ret ws rm mc ms n) (hp : PreV s H C b Pc As)
    (hg : g.method = m) (hn : As.length = n) (hsize : g.locals.size = nL) (hstack : g.stack = As.reverse ++ .ref b :: rest) (hW : 2 * g.monitorRoom + (rest.map fun v => v.category).sum ≤ 8) (hdg : decode cc g.pc = .ok (.invokevirtual index, 3)) (hf : cells + mc ≤ R.cells ∧ slots + ms ≤ R.slots) :
    vx_Run p l e R s m args below meth c H locs cells slots mc ms g rest (Qc (Value.ref b :: As).toArray) XC free := by
  have hK : vx_Back l R p e below s args y 3 8 (PreOf R mc ms Pc) (PostOf Qc mc ms free) (vx_Post XC mc ms free) := vx_callBack cw.1 hM hp.1
  obtain ⟨⟨-, -, -, -, -, -, hcode, -, hy, hlen, hl⟩, hin, hse⟩ := cw
  obtain ⟨hx, hb, hml, ho, -⟩ := S
  obtain ⟨-, ⟨cellB, hcB, hoB, hclB⟩, hPc⟩ := hp
  intro T hT X
  rcases vx_callV X hx (C := C) (bytes := bytes) (maxL := maxL) (ret := ret) ho hl hin hse hcode hy hK (by rw [hT]; exact hcB) hoB hclB hg (hsize.trans hml.symm) (argsL := As) (rest := rest) (fun sig h => hn.trans (hlen sig h)) hstack hW (by rw [hb]; exact hdg)
    (fun vm₁ hW₁ => ⟨hf.1, hf.2, hPc (T.setVm vm₁) hT hW₁⟩) with ⟨v, vm₁, ⟨U', l2, c2, s2⟩, hW₁, X', ⟨g', mk, t, L, e1, e2, hq, h1, hL, h2, h3⟩, st⟩ | ⟨q, vm₁, ⟨U', l2, c2, s2⟩, hW₁, X', ⟨g', mk, t, L, E, ce, e1, e2, hq, hce, hcv, hcl, h1, hL, h2, h3⟩, st⟩
  · dsimp only [Pt.U, Pt.locs, Pt.cells, Pt.slots] at X' e1 e2 h1 h2 h3 st
    subst h1; subst h2; subst h3
    exact Or.inl ⟨v, (T.setVm vm₁).calling g' mk (Value.ref b :: As).toArray, t, U', L, hT, X', hL, e1, e2, hq, st⟩
  · dsimp only [Pt.U, Pt.locs, Pt.cells, Pt.slots] at X' e1 e2 h1 h2 h3 st hcl
    subst h1; subst h2; subst h3
    exact Or.inr ⟨q, (T.setVm vm₁).calling g' mk (Value.ref b :: As).toArray, t, U', L, E, ce, hT, X', hL, e1, e2, hq, hce, hcv, vx_cls hW₁ hcl, st⟩
theorem vx_runS (S : CallFix p m c cc nL s args Ts own) (hM : vx_Met l y ws rm Pc Qc XC mc ms free) (cw : CallB R s args own index y bytes maxL ret ws rm mc ms n ∧ (Cond.static y).before args s = true) (hp : PreS s H Pc As)
    (hg : g.method = m) (hn : As.length = n) (hsize : g.locals.size = nL) (hstack : g.stack = As.reverse ++ rest) (hW : 2 * g.monitorRoom + (rest.map fun v => v.category).sum ≤ 8) (hdg : decode cc g.pc = .ok (.invokestatic index, 3)) (hf : cells + mc ≤ R.cells ∧ slots + ms ≤ R.slots) :
    vx_Run p l e R s m args below meth c H locs cells slots mc ms g rest (Qc As.toArray) XC free := by
  have hK : vx_Back l R p e below s args y 3 8 (PreOf R mc ms Pc) (PostOf Qc mc ms free) (vx_Post XC mc ms free) := vx_callBack cw.1 hM hp.1
  obtain ⟨⟨-, -, -, -, -, -, hcode, hini, hy, hlen, hl⟩, hstt⟩ := cw
  obtain ⟨hx, hb, hml, ho, -⟩ := S
  intro T hT X
  rcases vx_callS X hx (bytes := bytes) (maxL := maxL) (ret := ret) ho hl hstt hini hcode hy hK hg (hsize.trans hml.symm) (argsL := As) (rest := rest) (fun sig h => hn.trans (hlen sig h)) hstack hW (by rw [hb]; exact hdg)
    (fun vm₁ hW₁ => ⟨hf.1, hf.2, hp.2 (T.setVm vm₁) hT hW₁⟩) with ⟨v, vm₁, ⟨U', l2, c2, s2⟩, hW₁, X', ⟨g', mk, t, L, e1, e2, hq, h1, hL, h2, h3⟩, st⟩ | ⟨q, vm₁, ⟨U', l2, c2, s2⟩, hW₁, X', ⟨g', mk, t, L, E, ce, e1, e2, hq, hce, hcv, hcl, h1, hL, h2, h3⟩, st⟩
  · dsimp only [Pt.U, Pt.locs, Pt.cells, Pt.slots] at X' e1 e2 h1 h2 h3 st
    subst h1; subst h2; subst h3
    exact Or.inl ⟨v, (T.setVm vm₁).calling g' mk As.toArray, t, U', L, hT, X', hL, e1, e2, hq, st⟩
  · dsimp only [Pt.U, Pt.locs, Pt.cells, Pt.slots] at X' e1 e2 h1 h2 h3 st hcl
    subst h1; subst h2; subst h3
    exact Or.inr ⟨q, (T.setVm vm₁).calling g' mk As.toArray, t, U', L, E, ce, hT, X', hL, e1, e2, hq, hce, hcv, vx_cls hW₁ hcl, st⟩
end Runs
section Rows
variable {p : Program} {l : Launch} {e : Env} {R : Room} {s : State} {m : MethodId} {args : Array Value} {below : List Frame} {meth : Method} {c : Code} {H : Heap} {locs : List Loc} {cells slots : Nat} {Q : State → Prop}
variable {mc ms : Nat} {free : Addr → Prop} {A0 A1 : Nat → Prop} {H0 : Heap} {a : Array Value} {pc : Nat} {ls : Array Slot} {st0 rest : List Value}
theorem vx_keep {st₀ t T' : State} {L : List Loc} (h0 : st₀.heap = H) (e1 : T'.heap = t.heap) (hS : va_S A0 H0 H locs) (hA : ∀ q, q < H.size → A1 q → A0 q) (hf : ∀ q, free q → A0 q) (hL : ∀ q ∈ L, free q.base) (hF : va_F A1 st₀ t) :
    H.size ≤ T'.heap.size ∧ (∀ q : Nat, q < H.size → ¬ A1 q → T'.heap[q]? = H[q]?) ∧ va_S A0 H0 T'.heap (locs ++ L) := by
  obtain ⟨hz, hk⟩ := hF
  rw [h0] at hz hk
  exact ⟨by rw [e1]; exact hz, fun q h1 h2 => by rw [e1]; exact hk q h1 h2,
    ⟨Nat.le_trans hS.1 (by rw [e1]; exact hz), fun q h1 h2 => by rw [e1, hk q (Nat.lt_of_lt_of_le h1 hS.1) (fun z => h2 (hA q (Nat.lt_of_lt_of_le h1 hS.1) z))]; exact hS.2.1 q h1 h2, fun q hq => by
      rcases List.mem_append.mp hq with h | h
      · exact hS.2.2 q h
      · exact hf _ (hL q h)⟩⟩
theorem vx_calli {S SX : Type} {post : Int32 → S → Prop} {px : SX → Prop} {B : S → State → Prop} {BX : String → SX → State → Prop} {AX : Nat → Prop} (hr : vx_Run p l e R s m args below meth c H locs cells slots mc ms (F0 m pc ls st0) rest (va_Qi post B A1 a) (vx_X px BX AX) free) (hS : va_S A0 H0 H locs) (hA : ∀ q, q < H.size → A1 q → A0 q) (hf : ∀ q, free q → A0 q) (hAX : ∀ q, q < H.size → AX q → A0 q)
    (kx : ∀ (E : String) (ce : Cell) (q9 : Addr) (u : SX) (t : State) (H1 : Heap) (locs1 : List Loc), t.heap = H1 → s.vm.Alike t.vm → px u → BX E u t → H.size ≤ H1.size → (∀ q : Nat, q < H.size → ¬ AX q → H1[q]? = H[q]?) → va_S A0 H0 H1 locs1 → H1[q9]? = some ce → ce.vm = .none → s.vm.findClass E = some ce.cls → vx_W p l e R s m args below meth c H1 locs1 (cells + mc) (slots + ms) Q (F0 m pc ls rest) q9)
    (kk : ∀ (r : Int32) (u : S) (t : State) (H1 : Heap) (locs1 : List Loc), t.heap = H1 → s.vm.Alike t.vm → post r u → B u t → H.size ≤ H1.size → (∀ q : Nat, q < H.size → ¬ A1 q → H1[q]? = H[q]?) → va_S A0 H0 H1 locs1 → W p l e R s m args below meth c H1 locs1 (cells + mc) (slots + ms) Q (F0 m (pc + 3) ls (.int r :: rest))) : W p l e R s m args below meth c H locs cells slots Q (F0 m pc ls st0) := by
  intro T hT X
  rcases hr T hT X with ⟨v, st₀, t, T', L, h0, X', hL, e1, e2, ⟨⟨r, u, hv, hp, hb⟩, hF⟩, st⟩ | ⟨q, st₀, t, T', L, E, ce, h0, X', hL, e1, e2, ⟨u, hp, hb, hF⟩, hce, hcv, hcl, st⟩
  · cases hv
    obtain ⟨k1, k2, k3⟩ := vx_keep h0 e1 hS hA hf hL hF
    obtain ⟨t2, a1, b1⟩ := kk r u t T'.heap (locs ++ L) e1.symm (by rw [← e2]; exact X'.warmed.alike) hp hb k1 k2 k3 T' rfl X'
    exact ⟨t2, st t2 a1, b1⟩
  · obtain ⟨k1, k2, k3⟩ := vx_keep h0 e1 hS hAX hf hL hF
    obtain ⟨t2, a1, b1⟩ := kx E ce q u t T'.heap (locs ++ L) e1.symm (by rw [← e2]; exact X'.warmed.alike) hp hb k1 k2 k3 (by rw [e1]; exact hce) hcv hcl T' rfl X'
    exact ⟨t2, st.trans a1, b1⟩
theorem vx_calll {S SX : Type} {post : Int64 → S → Prop} {px : SX → Prop} {B : S → State → Prop} {BX : String → SX → State → Prop} {AX : Nat → Prop} (hr : vx_Run p l e R s m args below meth c H locs cells slots mc ms (F0 m pc ls st0) rest (va_Ql post B A1 a) (vx_X px BX AX) free) (hS : va_S A0 H0 H locs) (hA : ∀ q, q < H.size → A1 q → A0 q) (hf : ∀ q, free q → A0 q) (hAX : ∀ q, q < H.size → AX q → A0 q)
    (kx : ∀ (E : String) (ce : Cell) (q9 : Addr) (u : SX) (t : State) (H1 : Heap) (locs1 : List Loc), t.heap = H1 → s.vm.Alike t.vm → px u → BX E u t → H.size ≤ H1.size → (∀ q : Nat, q < H.size → ¬ AX q → H1[q]? = H[q]?) → va_S A0 H0 H1 locs1 → H1[q9]? = some ce → ce.vm = .none → s.vm.findClass E = some ce.cls → vx_W p l e R s m args below meth c H1 locs1 (cells + mc) (slots + ms) Q (F0 m pc ls rest) q9)
    (kk : ∀ (r : Int64) (u : S) (t : State) (H1 : Heap) (locs1 : List Loc), t.heap = H1 → s.vm.Alike t.vm → post r u → B u t → H.size ≤ H1.size → (∀ q : Nat, q < H.size → ¬ A1 q → H1[q]? = H[q]?) → va_S A0 H0 H1 locs1 → W p l e R s m args below meth c H1 locs1 (cells + mc) (slots + ms) Q (F0 m (pc + 3) ls (.long r :: rest))) : W p l e R s m args below meth c H locs cells slots Q (F0 m pc ls st0) := by
  intro T hT X
  rcases hr T hT X with ⟨v, st₀, t, T', L, h0, X', hL, e1, e2, ⟨⟨r, u, hv, hp, hb⟩, hF⟩, st⟩ | ⟨q, st₀, t, T', L, E, ce, h0, X', hL, e1, e2, ⟨u, hp, hb, hF⟩, hce, hcv, hcl, st⟩
  · cases hv
    obtain ⟨k1, k2, k3⟩ := vx_keep h0 e1 hS hA hf hL hF
    obtain ⟨t2, a1, b1⟩ := kk r u t T'.heap (locs ++ L) e1.symm (by rw [← e2]; exact X'.warmed.alike) hp hb k1 k2 k3 T' rfl X'
    exact ⟨t2, st t2 a1, b1⟩
  · obtain ⟨k1, k2, k3⟩ := vx_keep h0 e1 hS hAX hf hL hF
    obtain ⟨t2, a1, b1⟩ := kx E ce q u t T'.heap (locs ++ L) e1.symm (by rw [← e2]; exact X'.warmed.alike) hp hb k1 k2 k3 (by rw [e1]; exact hce) hcv hcl T' rfl X'
    exact ⟨t2, st.trans a1, b1⟩
theorem vx_callf {S SX : Type} {post : UInt32 → S → Prop} {px : SX → Prop} {B : S → State → Prop} {BX : String → SX → State → Prop} {AX : Nat → Prop} (hr : vx_Run p l e R s m args below meth c H locs cells slots mc ms (F0 m pc ls st0) rest (va_Qf post B A1 a) (vx_X px BX AX) free) (hS : va_S A0 H0 H locs) (hA : ∀ q, q < H.size → A1 q → A0 q) (hf : ∀ q, free q → A0 q) (hAX : ∀ q, q < H.size → AX q → A0 q)
    (kx : ∀ (E : String) (ce : Cell) (q9 : Addr) (u : SX) (t : State) (H1 : Heap) (locs1 : List Loc), t.heap = H1 → s.vm.Alike t.vm → px u → BX E u t → H.size ≤ H1.size → (∀ q : Nat, q < H.size → ¬ AX q → H1[q]? = H[q]?) → va_S A0 H0 H1 locs1 → H1[q9]? = some ce → ce.vm = .none → s.vm.findClass E = some ce.cls → vx_W p l e R s m args below meth c H1 locs1 (cells + mc) (slots + ms) Q (F0 m pc ls rest) q9)
    (kk : ∀ (r : UInt32) (u : S) (t : State) (H1 : Heap) (locs1 : List Loc), t.heap = H1 → s.vm.Alike t.vm → post r u → B u t → H.size ≤ H1.size → (∀ q : Nat, q < H.size → ¬ A1 q → H1[q]? = H[q]?) → va_S A0 H0 H1 locs1 → W p l e R s m args below meth c H1 locs1 (cells + mc) (slots + ms) Q (F0 m (pc + 3) ls (.float r :: rest))) : W p l e R s m args below meth c H locs cells slots Q (F0 m pc ls st0) := by
  intro T hT X
  rcases hr T hT X with ⟨v, st₀, t, T', L, h0, X', hL, e1, e2, ⟨⟨r, u, hv, hp, hb⟩, hF⟩, st⟩ | ⟨q, st₀, t, T', L, E, ce, h0, X', hL, e1, e2, ⟨u, hp, hb, hF⟩, hce, hcv, hcl, st⟩
  · cases hv
    obtain ⟨k1, k2, k3⟩ := vx_keep h0 e1 hS hA hf hL hF
    obtain ⟨t2, a1, b1⟩ := kk r u t T'.heap (locs ++ L) e1.symm (by rw [← e2]; exact X'.warmed.alike) hp hb k1 k2 k3 T' rfl X'
    exact ⟨t2, st t2 a1, b1⟩
  · obtain ⟨k1, k2, k3⟩ := vx_keep h0 e1 hS hAX hf hL hF
    obtain ⟨t2, a1, b1⟩ := kx E ce q u t T'.heap (locs ++ L) e1.symm (by rw [← e2]; exact X'.warmed.alike) hp hb k1 k2 k3 (by rw [e1]; exact hce) hcv hcl T' rfl X'
    exact ⟨t2, st.trans a1, b1⟩
theorem vx_calld {S SX : Type} {post : UInt64 → S → Prop} {px : SX → Prop} {B : S → State → Prop} {BX : String → SX → State → Prop} {AX : Nat → Prop} (hr : vx_Run p l e R s m args below meth c H locs cells slots mc ms (F0 m pc ls st0) rest (va_Qd post B A1 a) (vx_X px BX AX) free) (hS : va_S A0 H0 H locs) (hA : ∀ q, q < H.size → A1 q → A0 q) (hf : ∀ q, free q → A0 q) (hAX : ∀ q, q < H.size → AX q → A0 q)
    (kx : ∀ (E : String) (ce : Cell) (q9 : Addr) (u : SX) (t : State) (H1 : Heap) (locs1 : List Loc), t.heap = H1 → s.vm.Alike t.vm → px u → BX E u t → H.size ≤ H1.size → (∀ q : Nat, q < H.size → ¬ AX q → H1[q]? = H[q]?) → va_S A0 H0 H1 locs1 → H1[q9]? = some ce → ce.vm = .none → s.vm.findClass E = some ce.cls → vx_W p l e R s m args below meth c H1 locs1 (cells + mc) (slots + ms) Q (F0 m pc ls rest) q9)
    (kk : ∀ (r : UInt64) (u : S) (t : State) (H1 : Heap) (locs1 : List Loc), t.heap = H1 → s.vm.Alike t.vm → post r u → B u t → H.size ≤ H1.size → (∀ q : Nat, q < H.size → ¬ A1 q → H1[q]? = H[q]?) → va_S A0 H0 H1 locs1 → W p l e R s m args below meth c H1 locs1 (cells + mc) (slots + ms) Q (F0 m (pc + 3) ls (.double r :: rest))) : W p l e R s m args below meth c H locs cells slots Q (F0 m pc ls st0) := by
  intro T hT X
  rcases hr T hT X with ⟨v, st₀, t, T', L, h0, X', hL, e1, e2, ⟨⟨r, u, hv, hp, hb⟩, hF⟩, st⟩ | ⟨q, st₀, t, T', L, E, ce, h0, X', hL, e1, e2, ⟨u, hp, hb, hF⟩, hce, hcv, hcl, st⟩
  · cases hv
    obtain ⟨k1, k2, k3⟩ := vx_keep h0 e1 hS hA hf hL hF
    obtain ⟨t2, a1, b1⟩ := kk r u t T'.heap (locs ++ L) e1.symm (by rw [← e2]; exact X'.warmed.alike) hp hb k1 k2 k3 T' rfl X'
    exact ⟨t2, st t2 a1, b1⟩
  · obtain ⟨k1, k2, k3⟩ := vx_keep h0 e1 hS hAX hf hL hF
    obtain ⟨t2, a1, b1⟩ := kx E ce q u t T'.heap (locs ++ L) e1.symm (by rw [← e2]; exact X'.warmed.alike) hp hb k1 k2 k3 (by rw [e1]; exact hce) hcv hcl T' rfl X'
    exact ⟨t2, st.trans a1, b1⟩
theorem vx_callv {S SX : Type} {post : S → Prop} {px : SX → Prop} {B : S → State → Prop} {BX : String → SX → State → Prop} {AX : Nat → Prop} (hr : vx_Run p l e R s m args below meth c H locs cells slots mc ms (F0 m pc ls st0) rest (va_Qv post B A1 a) (vx_X px BX AX) free) (hS : va_S A0 H0 H locs) (hA : ∀ q, q < H.size → A1 q → A0 q) (hf : ∀ q, free q → A0 q) (hAX : ∀ q, q < H.size → AX q → A0 q)
    (kx : ∀ (E : String) (ce : Cell) (q9 : Addr) (u : SX) (t : State) (H1 : Heap) (locs1 : List Loc), t.heap = H1 → s.vm.Alike t.vm → px u → BX E u t → H.size ≤ H1.size → (∀ q : Nat, q < H.size → ¬ AX q → H1[q]? = H[q]?) → va_S A0 H0 H1 locs1 → H1[q9]? = some ce → ce.vm = .none → s.vm.findClass E = some ce.cls → vx_W p l e R s m args below meth c H1 locs1 (cells + mc) (slots + ms) Q (F0 m pc ls rest) q9)
    (kk : ∀ (u : S) (t : State) (H1 : Heap) (locs1 : List Loc), t.heap = H1 → s.vm.Alike t.vm → post u → B u t → H.size ≤ H1.size → (∀ q : Nat, q < H.size → ¬ A1 q → H1[q]? = H[q]?) → va_S A0 H0 H1 locs1 → W p l e R s m args below meth c H1 locs1 (cells + mc) (slots + ms) Q (F0 m (pc + 3) ls (rest))) : W p l e R s m args below meth c H locs cells slots Q (F0 m pc ls st0) := by
  intro T hT X
  rcases hr T hT X with ⟨v, st₀, t, T', L, h0, X', hL, e1, e2, ⟨⟨u, hv, hp, hb⟩, hF⟩, st⟩ | ⟨q, st₀, t, T', L, E, ce, h0, X', hL, e1, e2, ⟨u, hp, hb, hF⟩, hce, hcv, hcl, st⟩
  · cases hv
    obtain ⟨k1, k2, k3⟩ := vx_keep h0 e1 hS hA hf hL hF
    obtain ⟨t2, a1, b1⟩ := kk u t T'.heap (locs ++ L) e1.symm (by rw [← e2]; exact X'.warmed.alike) hp hb k1 k2 k3 T' rfl X'
    exact ⟨t2, st t2 a1, b1⟩
  · obtain ⟨k1, k2, k3⟩ := vx_keep h0 e1 hS hAX hf hL hF
    obtain ⟨t2, a1, b1⟩ := kx E ce q u t T'.heap (locs ++ L) e1.symm (by rw [← e2]; exact X'.warmed.alike) hp hb k1 k2 k3 (by rw [e1]; exact hce) hcv hcl T' rfl X'
    exact ⟨t2, st.trans a1, b1⟩
/-- caught by the row x of this method's table; the rows ahead don't take it -/
theorem vx_catch {own name : String} {E : String} {ce : Cell} {q : Addr} (hown : s.vm.findClass own = some m.cls) (pre : List ExceptionTableEntry) (x : ExceptionTableEntry) (suf : List ExceptionTableEntry) (hsplit : c.exceptionTable.toList = pre ++ x :: suf)
    (hpass : ∀ z ∈ pre, covers z pc = false ∨ (z.catchType ≠ 0 ∧ ∃ nm : String, (Cond.classLink own z.catchType nm).before args s = true ∧ va_Nc E nm s)) (hx : covers x pc = true) (h0 : x.catchType ≠ 0)
    (hlink : (Cond.classLink own x.catchType name).before args s = true) (hcast : (Cond.castable E name).before args s = true) (hcell : H[q]? = some ce) (hv : ce.vm = .none) (hcl : s.vm.findClass E = some ce.cls)
    (kk : W p l e R s m args below meth c H locs cells slots Q (F0 m x.handlerPc ls [.ref q])) : vx_W p l e R s m args below meth c H locs cells slots Q (F0 m pc ls rest) q := by
  intro T hT X
  have hpl : e.platform.magicAccessors = ({} : Platform).magicAccessors := by rw [X.admits.platform]
  obtain ⟨c3, c4, hc3, hc4, hasg⟩ := Cond.castable_spec hcast
  cases Option.some.inj (hc3.symm.trans hcl)
  obtain ⟨c5, hc5, hcl5⟩ := Cond.classLink_spec hown hlink e.platform hpl
  cases Option.some.inj (hc4.symm.trans hc5)
  obtain ⟨vm', X', st⟩ := X.thenCaughtThrough q (g := F0 m pc ls rest) rfl (Steps.refl _) (by rw [hT]; exact hcell) (by rw [hv]; rfl) (by obtain ⟨k9, h9, -⟩ := Vm.findClass_spec hcl; exact ⟨k9, h9⟩) pre x suf hsplit
    (fun z hz => by
      rcases hpass z hz with h | ⟨hz0, nm, hl1, hn1⟩
      · exact Or.inl h
      · obtain ⟨c6, hc6, hcl6⟩ := Cond.classLink_spec hown hl1 e.platform hpl
        obtain ⟨a8, b8, h1, h2, h3⟩ := hn1
        cases Option.some.inj (h1.symm.trans hcl)
        cases Option.some.inj (h2.symm.trans hc6)
        exact Or.inr ⟨hz0, _, hcl6, h3⟩) hx (Or.inr ⟨h0, c4, hcl5, hasg⟩)
  obtain ⟨t, a1, b1⟩ := kk (T.setVm vm') hT X'
  exact ⟨t, st.trans a1, b1⟩
end Rows
section Ends
variable {p : Program} {l : Launch} {e : Env} {R : Room} {s : State} {m : MethodId} {args : Array Value} {below : List Frame} {meth : Method} {c : Code} {H : Heap} {locs : List Loc} {cells slots : Nat} {Q : State → Prop}
variable {mc ms : Nat} {free : Addr → Prop} {A0 A1 : Nat → Prop} {H0 : Heap} {a : Array Value} {ls : Array Slot} {st0 rest : List Value}
variable {Qc : Array Value → State → Outcome → State → Prop} {XC : String → State → State → Prop}
/-- what a body that may throw owes at its end -/
def vx_MQ (below : List Frame) (Qc : Array Value → State → Outcome → State → Prop) (XC : String → State → State → Prop) (a : Array Value) (s : State) (mc ms : Nat) (free : Addr → Prop) : State → Prop := fun t =>
  ∃ o, t.status = .running ∧ Ended t below o ∧ vx_Q Qc XC mc ms free a s o t
theorem vx_ret {g : JFrame} {mc ms : Nat} (k : W p l e R s m args below meth c H locs cells slots (MQ below Qc args s mc ms free) g) : W p l e R s m args below meth c H locs cells slots (vx_MQ below Qc XC args s mc ms free) g := by
  intro T hT X
  obtain ⟨t, a1, o, b1, b2, b3, b4⟩ := k T hT X
  exact ⟨t, a1, o, b1, b2, Or.inl ⟨b3, b4⟩⟩
/-- not caught here: it goes on to the caller -/
theorem vx_widen {g : JFrame} {q : Addr} {k n : Nat} (h1 : cells ≤ k) (h2 : slots ≤ n) (kk : vx_W p l e R s m args below meth c H locs k n Q g q) : vx_W p l e R s m args below meth c H locs cells slots Q g q := fun T hT X => kk T hT (stand_widen X h1 h2)
theorem vx_out {pc : Nat} {E : String} {ce : Cell} {q : Addr} {mc ms : Nat} (hout : ∀ x ∈ c.exceptionTable.toList, covers x pc = false) (hlocks : meth.locks = false) (hcell : H[q]? = some ce) (hv : ce.vm = .none) (hcl : s.vm.findClass E = some ce.cls)
    (hx : ∀ t : State, t.heap = H → s.vm.Alike t.vm → XC E s t) (hf : ∀ z ∈ locs, free z.base) (hc : cells ≤ mc) (hs : slots ≤ ms) :
    vx_W p l e R s m args below meth c H locs cells slots (vx_MQ below Qc XC args s mc ms free) (F0 m pc ls rest) q := by
  intro T hT X
  obtain ⟨st1, hrun, hend, hW, hsm⟩ := X.leaveThrown q (g := F0 m pc ls rest) rfl rfl rfl hout hlocks
  have hcell9 : (T.setFrames (.throwing q :: below)).heap[q]? = some ce := by
    show T.heap[q]? = some ce
    rw [hT]; exact hcell
  exact ⟨_, st1, .threw q, hrun, hend, Or.inr ⟨q, rfl, E, ce, locs, hx _ hT hW.alike, hcell9, hv, hcl, hW, hsm.mono hc hs, hf⟩⟩
theorem vx_frame {U : State} {k n : Nat} (h : s.sameButNew ({ U with vm := s.vm } : State) locs k n) : s.heap.size ≤ U.heap.size ∧ ∀ q : Nat, q < s.heap.size → (∀ z ∈ locs, z.base ≠ q) → U.heap[q]? = s.heap[q]? := by
  obtain ⟨-, h2, -, -, -, h6⟩ := h
  refine ⟨h2, fun q hq hz => ?_⟩
  obtain ⟨c9, e1, e2, e3, e4⟩ := h6 q _ (Array.getElem?_eq_getElem hq)
  have hs : c9.slots = (s.heap[q]).slots := Array.ext_getElem? fun i => e4 i fun hm => hz _ hm rfl
  have h9 : c9 = s.heap[q] := by
    rw [hs] at e2
    exact e2
  have e5 : U.heap[q]? = some c9 := e1
  rw [e5, h9, Array.getElem?_eq_getElem hq]
/-- the words of a throw but the four that speak of the heap -/
def vx_no (w : Cond) : Bool := decide (w ≠ .isRef (.static Bundle.tN "UNASSIGNED_STACK" Bundle.steD)) && decide (w ≠ .isRef (.static Bundle.tN "SUPPRESSED_SENTINEL" Bundle.listD)) && decide (w ≠ .laysStatic Bundle.tN "UNASSIGNED_STACK" Bundle.steD) && decide (w ≠ .laysStatic Bundle.tN "SUPPRESSED_SENTINEL" Bundle.listD)
def vx_at0 (own : String) (ic : Nat) (X : String) (names : List String) : List Cond := (Bundle.ownAtoms0 own ic X names).filter vx_no
def vx_atS (own : String) (ic : Nat) (X : String) (names : List String) : List Cond := (Bundle.ownAtoms own ic X names).filter vx_no
/-- a word that the tables alone decide, or a good one -/
def vx_ot (w : Cond) : Bool := w.onTables || goodWord w
theorem vx_ot_at {args a' : Array Value} {s U : State} {w : Cond} (hW : s.WarmedH U.vm) (hvm : s.vm = U.vm) (hg : vx_ot w = true) (h : w.before args s = true) : w.before a' U = true := by
  simp only [vx_ot, Bool.or_eq_true] at hg
  rcases hg with hg | hg
  · exact va_tabs hg hvm h
  · exact word_at hW (good_of_word hg) h
/-- a list's words: the good ones out of the method's own list, the others by premises of their own -/
theorem vx_hat {args : Array Value} {s : State} {L B : List Cond} (h1 : ∀ w ∈ L.filter goodWord, w.before args s = true) (h2 : ∀ w ∈ L.filter (fun w => !goodWord w), w ∈ B) (h3 : ∀ w ∈ B, w.before args s = true) : ∀ w ∈ L, w.before args s = true := by
  intro w hw
  by_cases g : goodWord w = true
  · exact h1 w (List.mem_filter.mpr ⟨hw, g⟩)
  · refine h3 w (h2 w (List.mem_filter.mpr ⟨hw, ?_⟩))
    show (!goodWord w) = true
    cases hgw : goodWord w
    · rfl
    · exact absurd hgw g
theorem vx_c {args : Array Value} {s : State} {w : Cond} {B : List Cond} (h : w.before args s = true) (t : ∀ w ∈ B, w.before args s = true) : ∀ w' ∈ w :: B, w'.before args s = true := fun w' h' => (List.mem_cons.mp h').elim (fun e => by rw [e]; exact h) (t w')
theorem vx_n {args : Array Value} {s : State} : ∀ w ∈ ([] : List Cond), w.before args s = true := fun _ h => nomatch h
theorem vx_own {args : Array Value} {s : State} {L : List Cond} (h1 : ∀ w ∈ L.filter vx_no, w.before args s = true)
    (hU : (Cond.isRef (.static Bundle.tN "UNASSIGNED_STACK" Bundle.steD)).before args s = true) (hN : (Cond.isRef (.static Bundle.tN "SUPPRESSED_SENTINEL" Bundle.listD)).before args s = true)
    (lU : (Cond.laysStatic Bundle.tN "UNASSIGNED_STACK" Bundle.steD).before args s = true) (lN : (Cond.laysStatic Bundle.tN "SUPPRESSED_SENTINEL" Bundle.listD).before args s = true) : ∀ w ∈ L, w.before args s = true := by
  intro w hw
  by_cases e1 : w = .isRef (.static Bundle.tN "UNASSIGNED_STACK" Bundle.steD)
  · rw [e1]; exact hU
  · by_cases e2 : w = .isRef (.static Bundle.tN "SUPPRESSED_SENTINEL" Bundle.listD)
    · rw [e2]; exact hN
    · by_cases e3 : w = .laysStatic Bundle.tN "UNASSIGNED_STACK" Bundle.steD
      · rw [e3]; exact lU
      · by_cases e4 : w = .laysStatic Bundle.tN "SUPPRESSED_SENTINEL" Bundle.listD
        · rw [e4]; exact lN
        · exact h1 w (List.mem_filter.mpr ⟨hw, by unfold vx_no; rw [decide_eq_true e1, decide_eq_true e2, decide_eq_true e3, decide_eq_true e4]; rfl⟩)
/-- where a static field lies, its class's statics cell in H -/
def vx_L (C n d : String) (A : Nat → Prop) (U : State) (H : Heap) : Prop := ∃ (c : ClassId) (k : Class) (i : Nat) (f : Field) (a : Nat) (cell : Cell), U.vm.findClass C = some c ∧ U.fieldFound? C n d = some (c, k, i, f) ∧ f.isStatic = true ∧ k.statics = some a ∧ H[a]? = some cell ∧ cell.vm.isStatics = true ∧ cell.cls = c ∧ f.slot < cell.slots.size ∧ k.staticTypes[f.slot]? = some f.type ∧ ¬ A a
theorem vx_L.moved {C n d : String} {A : Nat → Prop} {u U : State} {H : Heap} (hvm : u.vm.Alike U.vm) (h : vx_L C n d A u H) : vx_L C n d A U H := by
  obtain ⟨c, k, i, f, a, cell, h1, h2, h3, h4, h5, h6, h7, h8, h9, h10⟩ := h
  obtain ⟨k', hi', he⟩ := State.fieldFound?_setVm hvm h2
  exact ⟨c, k', i, f, a, cell, by rw [hvm.findClass]; exact h1, hi', h3, by rw [he]; exact h4, h5, h6, h7, h8, by rw [he]; exact h9, h10⟩
theorem vx_L.kept {C n d : String} {A : Nat → Prop} {U : State} {H H1 : Heap} (h : vx_L C n d A U H) (hq : ∀ a : Nat, a < H.size → ¬ A a → H1[a]? = H[a]?) : vx_L C n d A U H1 := by
  obtain ⟨c, k, i, f, a, cell, h1, h2, h3, h4, h5, h6, h7, h8, h9, h10⟩ := h
  exact ⟨c, k, i, f, a, cell, h1, h2, h3, h4, by rw [hq a (Array.getElem?_eq_some_iff.mp h5).1 h10]; exact h5, h6, h7, h8, h9, h10⟩
theorem vx_L.narrow {C n d : String} {A B : Nat → Prop} {U : State} {H : Heap} (h : vx_L C n d A U H) (hAB : ∀ q, B q → A q) : vx_L C n d B U H := by
  obtain ⟨c, k, i, f, a, cell, h1, h2, h3, h4, h5, h6, h7, h8, h9, h10⟩ := h
  exact ⟨c, k, i, f, a, cell, h1, h2, h3, h4, h5, h6, h7, h8, h9, fun z => h10 (hAB _ z)⟩
theorem vx_L.word {C n d : String} {A : Nat → Prop} {s : State} {args : Array Value} (h : vx_L C n d A s s.heap) : (Cond.laysStatic C n d).before args s = true := by
  obtain ⟨c, k, i, f, a, cell, h1, h2, h3, h4, h5, h6, h7, h8, h9, -⟩ := h
  show (Cond.laysStatic C n d).holds args s none s [] = true
  exact Cond.laysStatic_of h1 h2 h3 h4 h5 h6 h7 h8 h9
/-- .. and what it holds: null or some reference -/
def vx_Zq (C n d : String) (A : Nat → Prop) (U : State) (H : Heap) : Prop := va_Zq C n d A U H ∧ vx_L C n d A U H
theorem vx_Zq.moved {C n d : String} {A : Nat → Prop} {u U : State} {H : Heap} (hvm : u.vm.Alike U.vm) (h : vx_Zq C n d A u H) : vx_Zq C n d A U H := ⟨va_Zq.moved hvm h.1, vx_L.moved hvm h.2⟩
theorem vx_Zq.kept {C n d : String} {A : Nat → Prop} {U : State} {H H1 : Heap} (h : vx_Zq C n d A U H) (hq : ∀ a : Nat, a < H.size → ¬ A a → H1[a]? = H[a]?) : vx_Zq C n d A U H1 := ⟨va_Zq.kept h.1 hq, vx_L.kept h.2 hq⟩
theorem vx_Zq.narrow {C n d : String} {A B : Nat → Prop} {U : State} {H : Heap} (h : vx_Zq C n d A U H) (hAB : ∀ q, B q → A q) : vx_Zq C n d B U H := ⟨va_Zq.narrow h.1 hAB, vx_L.narrow h.2 hAB⟩
theorem vx_Zqof {args : Array Value} {s : State} {C n d : String} {A : Nat → Prop} (hl : (Cond.laysStatic C n d).before args s = true) (hini : (Cond.initialized C).before args s = true) (h : (Cond.isRef (.static C n d)).before args s = true) (hA : ∀ a : Nat, a < s.heap.size → ¬ A a) : vx_Zq C n d A s s.heap := by
  refine ⟨va_Zqof hl hini h hA, ?_⟩
  obtain ⟨c, k, i, f, a, cell, h1, h2, h3, h4, h5, h6, h7, h8, h9⟩ := Cond.laysStatic_spec hl
  exact ⟨c, k, i, f, a, cell, h1, h2, h3, h4, h5, h6, h7, h8, h9, hA a (Array.getElem?_eq_some_iff.mp h5).1⟩
theorem vx_isRef {C n d : String} {v : Value} {A : Nat → Prop} {s : State} {args : Array Value} (h : va_Z C n d v A s s.heap) (hv : v.isRef = true) : (Cond.isRef (.static C n d)).before args s = true := by
  obtain ⟨cf, kf, fi, f, a, cell, h1, h2, h3, h4, h5, h6, h7, -⟩ := h
  have he : (Term.static C n d).eval args s none [] s = some v := by
    simp [Term.eval, State.fieldNamed?, h1, h2, h4, h5, h6, h7]
  simp only [Cond.before, Cond.holds, Cond.value, he]
  cases v <;> simp_all [Value.isRef]
theorem vx_isRefq {C n d : String} {A : Nat → Prop} {s : State} {args : Array Value} (h : va_Zq C n d A s s.heap) : (Cond.isRef (.static C n d)).before args s = true := by
  rcases h with h | ⟨t, h⟩
  · exact vx_isRef h rfl
  · exact vx_isRef h rfl
/-- the same frame, seen from here: as if the method were called anew in this heap -/
theorem vx_rebase {T : State} (X : Stand p l e R s m args below meth c T locs cells slots) {R' : Room} (hf : R'.frames ≤ R.frames) (hl : R'.locals ≤ R.locals) (hc : cells + R'.cells ≤ R.cells) (hs : slots + R'.slots ≤ R.slots) :
    Stand p l e R' ((T.setVm s.vm).setFrames (.invoking m args :: below)) m args below meth c T [] 0 0 := by
  have htop : (T.setVm s.vm).topJava?.isSome := X.here.top
  have hF : ((T.setVm s.vm).setFrames (.invoking m args :: below)).frames = .invoking m args :: below := State.frames_setFrames _ (State.cur_lt_of_top htop)
  obtain ⟨g₀, hg0⟩ := Option.isSome_iff_exists.mp htop
  obtain ⟨r, hr⟩ := State.topJava?_eq_some.mp hg0
  have hl9 : e.platform.stackLimits (T.setVm s.vm).me = e.platform.stackLimits s.me := X.limits
  have hb9 : (T.setVm s.vm).me.stackBytes = s.me.stackBytes := X.bytes
  refine ⟨X.admits, X.cas, X.clock, hF, ?_, X.hears, X.method, X.code, X.here, X.tail, X.warmed, ?_, ?_, ?_⟩
  · have h := X.room
    have hU : ((T.setVm s.vm).setFrames (.invoking m args :: below)).localsInUse = s.localsInUse := by
      rw [State.localsInUse_invoking hF (meth := meth) (c := c) X.method X.code, State.localsInUse_invoking X.frames X.method X.code]
    simp only [State.hasRoom, Bool.and_eq_true, decide_eq_true_eq] at h ⊢
    obtain ⟨⟨⟨⟨h1, h2, h3, h4, h5, h6⟩, h7⟩, h8⟩, h9⟩ := h
    rw [X.frames, List.length_cons] at h2 h3
    have q1 := X.heapSize
    have q2 := X.used
    simp only [hF, hU, List.length_cons, State.stackLimits_setFrames, State.stackBytes_setFrames, hl9, hb9]
    refine ⟨⟨⟨⟨by omega, by omega, by omega, by omega, by omega, h6⟩, ?_⟩, ?_⟩, X.book⟩
    · show T.heap.size + R'.cells ≤ e.platform.maxCells
      omega
    · show T.slotsUsed + R'.slots ≤ e.platform.maxSlots
      omega
  · rw [State.stackLimits_setFrames]; rfl
  · rw [State.stackBytes_setFrames]; rfl
  · refine ⟨?_, Nat.le_refl _, Nat.le_refl _, ?_, ?_, fun a c9 h9 => ⟨c9, h9, rfl, rfl, fun _ _ => rfl⟩⟩
    · obtain ⟨t, ht, -⟩ := State.frames_cons hr
      show T.setVm s.vm = { ((T.setVm s.vm).setFrames (.invoking m args :: below)).setFrames (T.setVm s.vm).frames with heap := T.heap, slotsUsed := T.slotsUsed }
      rw [State.setFrames_setFrames, State.setFrames_self ht]
      rfl
    · show T.slotsUsed = T.slotsUsed + ((T.heap.toList.drop T.heap.size).map (·.slots.size)).sum
      rw [List.drop_eq_nil_of_le (Nat.le_of_eq Array.length_toList)]
      rfl
    · show ((T.heap.toList.drop T.heap.size).map (·.slots.size)).sum ≤ 0
      rw [List.drop_eq_nil_of_le (Nat.le_of_eq Array.length_toList)]
      exact Nat.le_refl _
/-- 'throw new E()': new; dup; invokespecial; athrow -/
theorem vx_throw0 {cc : ByteArray} {pc : Nat} (hexec : p.tables.exec = Jvm.exec) (hb : c.code = cc) (hl : l.stackTraces = false) {own cls : String} {names : List String} {ik ic mc ms : Nat} {A : Nat → Prop}
    (hown : s.vm.findClass own = some m.cls) (hcls : Bundle.fit cls = true) (hnames : ∀ n ∈ names, Bundle.fit n = true)
    (hk : (Cond.classLink own ik cls).before args s = true) (hini : (Cond.initialized cls).before args s = true) (hat : ∀ w ∈ vx_at0 own ic cls names, w.before args s = true)
    (hgood : ∀ w ∈ Cond.classLink own ik cls :: Cond.initialized cls :: vx_at0 own ic cls names, vx_ot w = true)
    (hU : vx_Zq Bundle.tN "UNASSIGNED_STACK" Bundle.steD A s s.heap) (hN : vx_Zq Bundle.tN "SUPPRESSED_SENTINEL" Bundle.listD A s s.heap) (hS : va_S A s.heap H locs) (hsize : ls.size = c.maxLocals)
    (d0 : decode cc pc = .ok (.new ik, 3)) (d3 : decode cc (pc + 3) = .ok (.dup, 1)) (d4 : decode cc (pc + 4) = .ok (.invokespecial ic, 3)) (d7 : decode cc (pc + 7) = .ok (.athrow, 1))
    (hout : ∀ x ∈ c.exceptionTable.toList, covers x (pc + 7) = false)
    (hRframes : names.length + 3 < R.frames) (hRlocals : (rest.map fun v => v.category).sum + (13 * (names.length + 1) + 42) ≤ R.locals) (hRcells : cells + 1 ≤ R.cells) (hRslots : slots + 6 ≤ R.slots) (hlocks : meth.locks = false)
    (hx : ∀ t : State, s.vm.Alike t.vm → H.size ≤ t.heap.size → (∀ q : Nat, q < H.size → t.heap[q]? = H[q]?) → XC cls s t)
    (hf : ∀ z ∈ locs, free z.base) (hc : cells + 1 ≤ mc) (hs : slots + 6 ≤ ms) :
    W p l e R s m args below meth c H locs cells slots (vx_MQ below Qc XC args s mc ms free) (F0 m pc ls rest) := by
  intro T hT X
  have htr : e.platform.stackTraces = false := (show e.platform.stackTraces = l.stackTraces by rw [X.admits.platform]).trans hl
  have Y := vx_rebase X (R' := { frames := R.frames, locals := R.locals, cells := 1, slots := 6 }) (Nat.le_refl _) (Nat.le_refl _) hRcells hRslots
  obtain ⟨s', hA⟩ : ∃ z, z = (T.setVm s.vm).setFrames (.invoking m args :: below) := ⟨_, rfl⟩
  rw [← hA] at Y
  have hvm : s'.vm = s.vm := by rw [hA]; rfl
  have hhp : s'.heap = H := by rw [hA]; exact hT
  have hW0 : s.WarmedH s'.vm := by rw [hvm]; exact State.WarmedH.refl s
  have hat' : ∀ w ∈ vx_at0 own ic cls names, w.before args s' = true := fun w hw => vx_ot_at hW0 hvm.symm (hgood w (List.mem_cons_of_mem _ (List.mem_cons_of_mem _ hw))) (hat w hw)
  have hk' : (Cond.classLink own ik cls).before args s' = true := vx_ot_at hW0 hvm.symm (hgood _ List.mem_cons_self) hk
  have hini' : (Cond.initialized cls).before args s' = true := vx_ot_at hW0 hvm.symm (hgood _ (List.mem_cons_of_mem _ List.mem_cons_self)) hini
  have hU' : vx_Zq Bundle.tN "UNASSIGNED_STACK" Bundle.steD A s' s'.heap := by rw [hhp]; exact vx_Zq.moved hW0.alike (hU.kept hS.2.1)
  have hN' : vx_Zq Bundle.tN "SUPPRESSED_SENTINEL" Bundle.listD A s' s'.heap := by rw [hhp]; exact vx_Zq.moved hW0.alike (hN.kept hS.2.1)
  have h : ∀ w ∈ Bundle.ownAtoms0 own ic cls names, w.before args s' = true := vx_own hat' (vx_isRefq hU'.1) (vx_isRefq hN'.1) hU'.2.word hN'.2.word
  have hown' : s'.vm.findClass own = some m.cls := by rw [hvm]; exact hown
  have hins : (Cond.instantiable cls 6).before args s' = true := h _ (by simp [Bundle.ownAtoms0])
  obtain ⟨vm₁, cX, kX, hfX, hkX, -, -, X₁, st1⟩ := Y.newCold hexec (own := own) (C := cls) (index := ik) (n := 6) hown' hk' hins hini'
    (g := F0 m pc ls rest) rfl (by rw [hb]; exact d0) (Nat.le_refl _) (Nat.le_refl _)
  generalize hT1 : (T.setVm vm₁).pushCell { cls := cX, slots := kX.instanceTypes.map defaultValue, vm := .none } = T1 at X₁ st1
  have hcat : (Value.ref T.heap.size).category = 1 := rfl
  have hcellA : T1.heap[T.heap.size]? = some (freshCell cX kX) := by rw [← hT1]; exact State.heap_pushCell_size _ _
  have d3' : decode c.code (pc + 3) = .ok (.dup, 1) := by rw [hb]; exact d3
  obtain ⟨U, hsteps, hrun, hend, hW, hsame, ce, hce, hO⟩ := X₁.ctorThrow0 hexec htr (own := own) (cls := cls) (names := names) (ic := ic) hown' hcls hnames h (fun x hx => nomatch hx) hfX hkX hcellA (by rw [hhp, hT]; exact Nat.le_refl _)
    (g := { method := m, pc := pc + 4, locals := ls, stack := .ref T.heap.size :: .ref T.heap.size :: rest, locked := none }) rfl hsize rfl rfl (rest := rest) rfl
    (by rw [hb]; exact d4) (by rw [hb]; exact d7) hout hRframes (by simp only [List.map_cons, List.sum_cons, hcat]; omega) hlocks
  obtain ⟨f1, f2⟩ := vx_frame hsame
  rw [hhp] at f1 f2
  have hWs : s.WarmedH U.vm := State.WarmedH.trans hW0 hW
  have hcl : s.vm.findClass cls = some ce.cls := by
    have h9 := hO.cls
    rw [hvm] at h9
    exact h9
  have hall : s.sameButNew ({ U with vm := s.vm } : State) locs mc ms := by
    subst hA
    obtain ⟨e1, e2⟩ := hsame
    rw [State.setFrames_setFrames] at e1
    have h2 : (T.setVm s.vm).sameButNew ({ U with vm := s.vm } : State) [] (0 + 1) (0 + 6) := ⟨e1, e2⟩
    have h3 := X.same.trans h2
    rw [List.append_nil] at h3
    exact h3.mono hc hs
  refine ⟨U, ?_, .threw T.heap.size, hrun, hend, Or.inr ⟨T.heap.size, rfl, cls, ce, locs, hx U hWs.alike f1 (fun q hq => f2 q hq (fun z hz => nomatch hz)), hce, hO.vm, hcl, hWs, hall, hf⟩⟩
  refine st1 _ ?_
  show Steps p.tables e below (T1.setTop { method := m, pc := pc + 3, locals := ls, stack := .ref T.heap.size :: rest, locked := none }) _
  jvm_step X₁.here [X₁.here.top, hexec, d3', Value.category]
  exact hsteps
/-- 'throw new E("text")': new; dup; ldc; invokespecial; athrow -/
theorem vx_throwS {cc : ByteArray} {pc : Nat} (hexec : p.tables.exec = Jvm.exec) (hb : c.code = cc) (hl : l.stackTraces = false) {own cls text : String} {names : List String} {ik is ic mc ms sa : Nat} {A : Nat → Prop}
    (hown : s.vm.findClass own = some m.cls) (hcls : Bundle.fit cls = true) (hnames : ∀ n ∈ names, Bundle.fit n = true)
    (hk : (Cond.classLink own ik cls).before args s = true) (hini : (Cond.initialized cls).before args s = true) (hstr : vk_R own is text sa s) (hat : ∀ w ∈ vx_atS own ic cls names, w.before args s = true)
    (hgood : ∀ w ∈ Cond.classLink own ik cls :: Cond.initialized cls :: vx_atS own ic cls names, vx_ot w = true)
    (hU : vx_Zq Bundle.tN "UNASSIGNED_STACK" Bundle.steD A s s.heap) (hN : vx_Zq Bundle.tN "SUPPRESSED_SENTINEL" Bundle.listD A s s.heap) (hS : va_S A s.heap H locs) (hsize : ls.size = c.maxLocals)
    (d0 : decode cc pc = .ok (.new ik, 3)) (d3 : decode cc (pc + 3) = .ok (.dup, 1)) (d4 : decode cc (pc + 4) = .ok (.ldc is, 2)) (d6 : decode cc (pc + 6) = .ok (.invokespecial ic, 3)) (d9 : decode cc (pc + 9) = .ok (.athrow, 1))
    (hout : ∀ x ∈ c.exceptionTable.toList, covers x (pc + 9) = false)
    (hRframes : names.length + 3 < R.frames) (hRlocals : (rest.map fun v => v.category).sum + (13 * (names.length + 1) + 43) ≤ R.locals) (hRcells : cells + 1 ≤ R.cells) (hRslots : slots + 6 ≤ R.slots) (hlocks : meth.locks = false)
    (hx : ∀ t : State, s.vm.Alike t.vm → H.size ≤ t.heap.size → (∀ q : Nat, q < H.size → t.heap[q]? = H[q]?) → XC cls s t)
    (hf : ∀ z ∈ locs, free z.base) (hc : cells + 1 ≤ mc) (hs : slots + 6 ≤ ms) :
    W p l e R s m args below meth c H locs cells slots (vx_MQ below Qc XC args s mc ms free) (F0 m pc ls rest) := by
  intro T hT X
  have htr : e.platform.stackTraces = false := (show e.platform.stackTraces = l.stackTraces by rw [X.admits.platform]).trans hl
  have Y := vx_rebase X (R' := { frames := R.frames, locals := R.locals, cells := 1, slots := 6 }) (Nat.le_refl _) (Nat.le_refl _) hRcells hRslots
  obtain ⟨s', hA⟩ : ∃ z, z = (T.setVm s.vm).setFrames (.invoking m args :: below) := ⟨_, rfl⟩
  rw [← hA] at Y
  have hvm : s'.vm = s.vm := by rw [hA]; rfl
  have hhp : s'.heap = H := by rw [hA]; exact hT
  have hW0 : s.WarmedH s'.vm := by rw [hvm]; exact State.WarmedH.refl s
  have hat' : ∀ w ∈ vx_atS own ic cls names, w.before args s' = true := fun w hw => vx_ot_at hW0 hvm.symm (hgood w (List.mem_cons_of_mem _ (List.mem_cons_of_mem _ hw))) (hat w hw)
  have hk' : (Cond.classLink own ik cls).before args s' = true := vx_ot_at hW0 hvm.symm (hgood _ List.mem_cons_self) hk
  have hini' : (Cond.initialized cls).before args s' = true := vx_ot_at hW0 hvm.symm (hgood _ (List.mem_cons_of_mem _ List.mem_cons_self)) hini
  have hU' : vx_Zq Bundle.tN "UNASSIGNED_STACK" Bundle.steD A s' s'.heap := by rw [hhp]; exact vx_Zq.moved hW0.alike (hU.kept hS.2.1)
  have hN' : vx_Zq Bundle.tN "SUPPRESSED_SENTINEL" Bundle.listD A s' s'.heap := by rw [hhp]; exact vx_Zq.moved hW0.alike (hN.kept hS.2.1)
  have h : ∀ w ∈ Bundle.ownAtoms own ic cls names, w.before args s' = true := vx_own hat' (vx_isRefq hU'.1) (vx_isRefq hN'.1) hU'.2.word hN'.2.word
  have hown' : s'.vm.findClass own = some m.cls := by rw [hvm]; exact hown
  have hins : (Cond.instantiable cls 6).before args s' = true := h _ (by simp [Bundle.ownAtoms])
  obtain ⟨vm₁, cX, kX, hfX, hkX, -, -, X₁, st1⟩ := Y.newCold hexec (own := own) (C := cls) (index := ik) (n := 6) hown' hk' hins hini'
    (g := F0 m pc ls rest) rfl (by rw [hb]; exact d0) (Nat.le_refl _) (Nat.le_refl _)
  generalize hT1 : (T.setVm vm₁).pushCell { cls := cX, slots := kX.instanceTypes.map defaultValue, vm := .none } = T1 at X₁ st1
  have hcat : (Value.ref T.heap.size).category = 1 := rfl
  have hcellA : T1.heap[T.heap.size]? = some (freshCell cX kX) := by rw [← hT1]; exact State.heap_pushCell_size _ _
  have d3' : decode c.code (pc + 3) = .ok (.dup, 1) := by rw [hb]; exact d3
  have d4' : decode c.code (pc + 4) = .ok (.ldc is, 2) := by rw [hb]; exact d4
  have hstr' : vk_R own is text sa s' := vk_R.warm hW0 hstr
  obtain ⟨U, hsteps, hrun, hend, hW, hsame, ce, hce, hO⟩ := X₁.ctorThrowS hexec htr (own := own) (cls := cls) (names := names) (ic := ic) hown' hcls hnames h (fun x hx => nomatch hx) hfX hkX hcellA (by rw [hhp, hT]; exact Nat.le_refl _) (msg := .ref sa) rfl
    (g := { method := m, pc := pc + 6, locals := ls, stack := .ref sa :: .ref T.heap.size :: .ref T.heap.size :: rest, locked := none }) rfl hsize rfl rfl (rest := rest) rfl
    (by rw [hb]; exact d6) (by rw [hb]; exact d9) hout hRframes (by simp only [List.map_cons, List.sum_cons, hcat]; omega) hlocks
  obtain ⟨f1, f2⟩ := vx_frame hsame
  rw [hhp] at f1 f2
  have hWs : s.WarmedH U.vm := State.WarmedH.trans hW0 hW
  have hcl : s.vm.findClass cls = some ce.cls := by
    have h9 := hO.cls
    rw [hvm] at h9
    exact h9
  have hall : s.sameButNew ({ U with vm := s.vm } : State) locs mc ms := by
    subst hA
    obtain ⟨e1, e2⟩ := hsame
    rw [State.setFrames_setFrames] at e1
    have h2 : (T.setVm s.vm).sameButNew ({ U with vm := s.vm } : State) [] (0 + 1) (0 + 6) := ⟨e1, e2⟩
    have h3 := X.same.trans h2
    rw [List.append_nil] at h3
    exact h3.mono hc hs
  refine ⟨U, ?_, .threw T.heap.size, hrun, hend, Or.inr ⟨T.heap.size, rfl, cls, ce, locs, hx U hWs.alike f1 (fun q hq => f2 q hq (fun z hz => nomatch hz)), hce, hO.vm, hcl, hWs, hall, hf⟩⟩
  refine st1 _ ?_
  show Steps p.tables e below (T1.setTop { method := m, pc := pc + 3, locals := ls, stack := .ref T.heap.size :: rest, locked := none }) _
  jvm_step X₁.here [X₁.here.top, hexec, d3', Value.category]
  exact X₁.ldcString hexec (own := own) (text := text) (index := is) (a := sa) hown' hstr'.1 hstr'.2
    (g := { method := m, pc := pc + 4, locals := ls, stack := .ref T.heap.size :: .ref T.heap.size :: rest, locked := none }) rfl d4' _ hsteps
/-- 'throw new E("text")', the text by a wide index -/
theorem vx_throwSW {cc : ByteArray} {pc : Nat} (hexec : p.tables.exec = Jvm.exec) (hb : c.code = cc) (hl : l.stackTraces = false) {own cls text : String} {names : List String} {ik is ic mc ms sa : Nat} {A : Nat → Prop}
    (hown : s.vm.findClass own = some m.cls) (hcls : Bundle.fit cls = true) (hnames : ∀ n ∈ names, Bundle.fit n = true)
    (hk : (Cond.classLink own ik cls).before args s = true) (hini : (Cond.initialized cls).before args s = true) (hstr : vk_R own is text sa s) (hat : ∀ w ∈ vx_atS own ic cls names, w.before args s = true)
    (hgood : ∀ w ∈ Cond.classLink own ik cls :: Cond.initialized cls :: vx_atS own ic cls names, vx_ot w = true)
    (hU : vx_Zq Bundle.tN "UNASSIGNED_STACK" Bundle.steD A s s.heap) (hN : vx_Zq Bundle.tN "SUPPRESSED_SENTINEL" Bundle.listD A s s.heap) (hS : va_S A s.heap H locs) (hsize : ls.size = c.maxLocals)
    (d0 : decode cc pc = .ok (.new ik, 3)) (d3 : decode cc (pc + 3) = .ok (.dup, 1)) (d4 : decode cc (pc + 4) = .ok (.ldc_w is, 3)) (d7 : decode cc (pc + 7) = .ok (.invokespecial ic, 3)) (d10 : decode cc (pc + 10) = .ok (.athrow, 1))
    (hout : ∀ x ∈ c.exceptionTable.toList, covers x (pc + 10) = false)
    (hRframes : names.length + 3 < R.frames) (hRlocals : (rest.map fun v => v.category).sum + (13 * (names.length + 1) + 43) ≤ R.locals) (hRcells : cells + 1 ≤ R.cells) (hRslots : slots + 6 ≤ R.slots) (hlocks : meth.locks = false)
    (hx : ∀ t : State, s.vm.Alike t.vm → H.size ≤ t.heap.size → (∀ q : Nat, q < H.size → t.heap[q]? = H[q]?) → XC cls s t)
    (hf : ∀ z ∈ locs, free z.base) (hc : cells + 1 ≤ mc) (hs : slots + 6 ≤ ms) :
    W p l e R s m args below meth c H locs cells slots (vx_MQ below Qc XC args s mc ms free) (F0 m pc ls rest) := by
  intro T hT X
  have htr : e.platform.stackTraces = false := (show e.platform.stackTraces = l.stackTraces by rw [X.admits.platform]).trans hl
  have Y := vx_rebase X (R' := { frames := R.frames, locals := R.locals, cells := 1, slots := 6 }) (Nat.le_refl _) (Nat.le_refl _) hRcells hRslots
  obtain ⟨s', hA⟩ : ∃ z, z = (T.setVm s.vm).setFrames (.invoking m args :: below) := ⟨_, rfl⟩
  rw [← hA] at Y
  have hvm : s'.vm = s.vm := by rw [hA]; rfl
  have hhp : s'.heap = H := by rw [hA]; exact hT
  have hW0 : s.WarmedH s'.vm := by rw [hvm]; exact State.WarmedH.refl s
  have hat' : ∀ w ∈ vx_atS own ic cls names, w.before args s' = true := fun w hw => vx_ot_at hW0 hvm.symm (hgood w (List.mem_cons_of_mem _ (List.mem_cons_of_mem _ hw))) (hat w hw)
  have hk' : (Cond.classLink own ik cls).before args s' = true := vx_ot_at hW0 hvm.symm (hgood _ List.mem_cons_self) hk
  have hini' : (Cond.initialized cls).before args s' = true := vx_ot_at hW0 hvm.symm (hgood _ (List.mem_cons_of_mem _ List.mem_cons_self)) hini
  have hU' : vx_Zq Bundle.tN "UNASSIGNED_STACK" Bundle.steD A s' s'.heap := by rw [hhp]; exact vx_Zq.moved hW0.alike (hU.kept hS.2.1)
  have hN' : vx_Zq Bundle.tN "SUPPRESSED_SENTINEL" Bundle.listD A s' s'.heap := by rw [hhp]; exact vx_Zq.moved hW0.alike (hN.kept hS.2.1)
  have h : ∀ w ∈ Bundle.ownAtoms own ic cls names, w.before args s' = true := vx_own hat' (vx_isRefq hU'.1) (vx_isRefq hN'.1) hU'.2.word hN'.2.word
  have hown' : s'.vm.findClass own = some m.cls := by rw [hvm]; exact hown
  have hins : (Cond.instantiable cls 6).before args s' = true := h _ (by simp [Bundle.ownAtoms])
  obtain ⟨vm₁, cX, kX, hfX, hkX, -, -, X₁, st1⟩ := Y.newCold hexec (own := own) (C := cls) (index := ik) (n := 6) hown' hk' hins hini'
    (g := F0 m pc ls rest) rfl (by rw [hb]; exact d0) (Nat.le_refl _) (Nat.le_refl _)
  generalize hT1 : (T.setVm vm₁).pushCell { cls := cX, slots := kX.instanceTypes.map defaultValue, vm := .none } = T1 at X₁ st1
  have hcat : (Value.ref T.heap.size).category = 1 := rfl
  have hcellA : T1.heap[T.heap.size]? = some (freshCell cX kX) := by rw [← hT1]; exact State.heap_pushCell_size _ _
  have d3' : decode c.code (pc + 3) = .ok (.dup, 1) := by rw [hb]; exact d3
  have d4' : decode c.code (pc + 4) = .ok (.ldc_w is, 3) := by rw [hb]; exact d4
  have hstr' : vk_R own is text sa s' := vk_R.warm hW0 hstr
  obtain ⟨U, hsteps, hrun, hend, hW, hsame, ce, hce, hO⟩ := X₁.ctorThrowS hexec htr (own := own) (cls := cls) (names := names) (ic := ic) hown' hcls hnames h (fun x hx => nomatch hx) hfX hkX hcellA (by rw [hhp, hT]; exact Nat.le_refl _) (msg := .ref sa) rfl
    (g := { method := m, pc := pc + 7, locals := ls, stack := .ref sa :: .ref T.heap.size :: .ref T.heap.size :: rest, locked := none }) rfl hsize rfl rfl (rest := rest) rfl
    (by rw [hb]; exact d7) (by rw [hb]; exact d10) hout hRframes (by simp only [List.map_cons, List.sum_cons, hcat]; omega) hlocks
  obtain ⟨f1, f2⟩ := vx_frame hsame
  rw [hhp] at f1 f2
  have hWs : s.WarmedH U.vm := State.WarmedH.trans hW0 hW
  have hcl : s.vm.findClass cls = some ce.cls := by
    have h9 := hO.cls
    rw [hvm] at h9
    exact h9
  have hall : s.sameButNew ({ U with vm := s.vm } : State) locs mc ms := by
    subst hA
    obtain ⟨e1, e2⟩ := hsame
    rw [State.setFrames_setFrames] at e1
    have h2 : (T.setVm s.vm).sameButNew ({ U with vm := s.vm } : State) [] (0 + 1) (0 + 6) := ⟨e1, e2⟩
    have h3 := X.same.trans h2
    rw [List.append_nil] at h3
    exact h3.mono hc hs
  refine ⟨U, ?_, .threw T.heap.size, hrun, hend, Or.inr ⟨T.heap.size, rfl, cls, ce, locs, hx U hWs.alike f1 (fun q hq => f2 q hq (fun z hz => nomatch hz)), hce, hO.vm, hcl, hWs, hall, hf⟩⟩
  refine st1 _ ?_
  show Steps p.tables e below (T1.setTop { method := m, pc := pc + 3, locals := ls, stack := .ref T.heap.size :: rest, locked := none }) _
  jvm_step X₁.here [X₁.here.top, hexec, d3', Value.category]
  exact X₁.ldcStringW hexec (own := own) (text := text) (index := is) (a := sa) hown' hstr'.1 hstr'.2
    (g := { method := m, pc := pc + 4, locals := ls, stack := .ref T.heap.size :: .ref T.heap.size :: rest, locked := none }) rfl d4' _ hsteps
end Ends
section Bodies
variable {l : Launch}
theorem vx_ofW {y : MethodName} {ws ws' : List Cond} {rm : Room} {Pc : Array Value → State → Prop} {Qc : Array Value → State → Outcome → State → Prop} {XC : String → State → State → Prop} {mc ms : Nat} {free : Addr → Prop} {cc : ByteArray} {maxL : Nat} {ret : Option FieldType}
    (hy : plainName y.cls = true) (hw : ws = Cond.code y cc maxL ret :: ws')
    (body : ∀ p e s m args below meth c s₁, BodyLoose p l y (headSpec ws rm) cc maxL ret e s m args below meth c s₁ → c.maxLocals = maxL → (∀ x ∈ c.exceptionTable.toList, False) → Pc args s →
      W p l e (headSpec ws rm).room s m args below meth c s.heap [] 0 0 (vx_MQ below Qc XC args s mc ms free) (entryFrame m args maxL)) : vx_Met l y ws rm Pc Qc XC mc ms free := by
  refine MetFree.of_bodyS (code := cc) (maxLocals := maxL) (ret := ret) hy ?_ ?_
  · intro args s m h hn
    obtain ⟨meth, c, h1, h2, h3, h4, h5, h6, -, -⟩ := Cond.code_spec hn (atoms_spec (ws := ws) h _ (by rw [hw]; exact List.mem_cons_self))
    exact ⟨meth, c, h1, h2, h3, h4, h5, h6⟩
  · intro p e s m args below meth c s₁ B hml hP _
    have hh0 : s₁.heap = s.heap := by rw [B.state]; rfl
    have ht : ∀ x ∈ c.exceptionTable.toList, False := by
      obtain ⟨meth9, c9, h1, h2, -, -, -, -, h7, -⟩ := Cond.code_spec B.named (atoms_spec (ws := ws) B.pre _ (by rw [hw]; exact List.mem_cons_self))
      cases Option.some.inj (h1.symm.trans B.method)
      cases Option.some.inj (h2.symm.trans (Stand.of_body B).code)
      intro x hx
      rw [Array.isEmpty_iff.mp h7] at hx
      cases hx
    obtain ⟨t, a1, o, b1, b2, b3⟩ := body p e s m args below meth c s₁ B hml ht hP s₁ hh0 (Stand.of_body B)
    exact ⟨t, o, a1, b1, b2, b3⟩
/-- the table of a body with handlers -/
theorem vx_table {p : Program} {x y : MethodName} {S : Spec} {cc bytes : ByteArray} {maxL maxL' : Nat} {ret ret' : Option FieldType} {e : Env} {s s₁ : State} {m : MethodId} {args : Array Value} {below : List Frame} {meth : Method} {c : Code} {hh : List (Nat × Nat × Nat × Nat)}
    (B : BodyLoose p l y S cc maxL ret e s m args below meth c s₁) (h : (Cond.codeWith y bytes maxL' ret' hh).before args s = true) : c.exceptionTable.toList = tableOf hh := by
  obtain ⟨m9, meth9, c9, hn9, h1, h2, -, -, h6, -⟩ := Cond.codeWith_spec h
  cases Option.some.inj (hn9.symm.trans B.named)
  cases Option.some.inj (h1.symm.trans B.method)
  cases Option.some.inj (h2.symm.trans (Stand.of_body B).code)
  rw [← h6, table_eq]
end Bodies
end VXA
/-! ===== END ===== -/
/-! ===== BEGIN a static call of a method with an exception table ===== -/
section VXS
variable {p : Program} {l : Launch} {e : Env} {R : Room} {s : State} {m : MethodId} {args : Array Value} {below : List Frame} {meth : Method} {c : Code} {T : State} {H : Heap} {locs : List Loc} {cells slots : Nat}
abbrev vx_CSW (R : Room) (s : State) (args : Array Value) (own : String) (index : Nat) (y : MethodName) (bytes : ByteArray) (maxL : Nat) (ret : Option FieldType) (hh : List (Nat × Nat × Nat × Nat)) (ws : List Cond) (rm : Room) (mc ms n : Nat) : Prop :=
  (rm.cells = mc ∧ rm.slots = ms ∧ rm.frames + 1 ≤ R.frames ∧ 8 + (maxL + 11) + rm.locals ≤ R.locals ∧ (∀ w ∈ ws, ∀ (a' : Array Value) (U : State), s.WarmedH U.vm → w.before a' U = true) ∧ Cond.codeWith y bytes maxL ret hh ∈ ws) ∧
  (Cond.codeWith y bytes maxL ret hh).before args s = true ∧ (Cond.initialized y.cls).before args s = true ∧ (y.cls ≠ "java/lang/invoke/MethodHandle" ∧ y.cls ≠ "java/lang/invoke/VarHandle") ∧
  (∀ sig, parseMethodDescriptor y.desc = some sig → n = sig.parameters.length) ∧ (Cond.methodLink own index y).before args s = true ∧ (Cond.static y).before args s = true
theorem vx_cwSW {own : String} {index maxL mc ms : Nat} {y : MethodName} {bytes : ByteArray} {ret : Option FieldType} {hh : List (Nat × Nat × Nat × Nat)} {Ts ws ws' : List Cond} {rm : Room} (n : Nat) (ht : ∀ w ∈ Ts, w.before args s = true) (hT : GoodIn Ts (va_wsS own index y ws)) (hw : ws = Cond.codeWith y bytes maxL ret hh :: ws') (hrc : rm.cells = mc) (hrs : rm.slots = ms)
    (hd : y.cls ≠ "java/lang/invoke/MethodHandle" ∧ y.cls ≠ "java/lang/invoke/VarHandle" ∧ (parseMethodDescriptor y.desc).map (fun d => d.parameters.length) = some n) (hR : rm.frames + 1 ≤ R.frames ∧ 8 + (maxL + 11) + rm.locals ≤ R.locals) :
    vx_CSW R s args own index y bytes maxL ret hh ws rm mc ms n := by
  have ok : ∀ w ∈ va_wsS own index y ws, w.before args s = true := fun w h => ht w (hT w h).1
  have hG : GoodIn Ts ws := fun w h => hT w (by unfold va_wsS; exact List.mem_append_right _ h)
  have hc : Cond.codeWith y bytes maxL ret hh ∈ ws := by rw [hw]; exact List.mem_cons_self
  refine ⟨⟨hrc, hrs, hR.1, hR.2, pay_in ht hG, hc⟩, ht _ (hG _ hc).1, ok _ (by simp [va_wsS]), ⟨hd.1, hd.2.1⟩, fun sig h => ?_, ok _ (by simp [va_wsS]), ok _ (by simp [va_wsS])⟩
  have h2 := hd.2.2
  rw [h] at h2
  exact (Option.some.inj h2).symm
theorem vx_callSW (X : Stand p l e R s m args below meth c T locs cells slots) (hexec : p.tables.exec = Jvm.exec) {own : String} {index : Nat} {y : MethodName} {bytes : ByteArray} {maxL : Nat} {ret : Option FieldType} {hh : List (Nat × Nat × Nat × Nat)}
    (hown : s.vm.findClass own = some m.cls) (hlink : (Cond.methodLink own index y).before args s = true) (hstat : (Cond.static y).before args s = true) (hinit : (Cond.initialized y.cls).before args s = true)
    (hcode : (Cond.codeWith y bytes maxL ret hh).before args s = true) (hy : y.cls ≠ "java/lang/invoke/MethodHandle" ∧ y.cls ≠ "java/lang/invoke/VarHandle")
    {W9 : Nat} {Pre : Pt → Array Value → Prop} {Post : Pt → Array Value → Option Value → Pt → Prop} (hK : Back l R p e below s args y 3 W9 Pre Post)
    {g : JFrame} (hg : g.method = m) (hsize : g.locals.size = c.maxLocals) {argsL rest : List Value} (hlen : ∀ sig, parseMethodDescriptor y.desc = some sig → argsL.length = sig.parameters.length)
    (hstack : g.stack = argsL.reverse ++ rest) (hW : 2 * g.monitorRoom + (rest.map fun v => v.category).sum ≤ W9) (hdg : decode c.code g.pc = .ok (.invokestatic index, 3))
    (hpre : ∀ vm₁, s.WarmedH vm₁ → Pre ⟨T.setVm vm₁, locs, cells, slots⟩ argsL.toArray) :
    ∃ (v : Option Value) (vm₁ : Vm) (B : Pt), s.WarmedH vm₁ ∧ Stand p l e R s m args below meth c B.U B.locs B.cells B.slots ∧ Post ⟨T.setVm vm₁, locs, cells, slots⟩ argsL.toArray v B ∧
      ∀ target, Steps p.tables e below (B.U.setTop { g with pc := g.pc + 3, stack := v.toList ++ rest }) target → Steps p.tables e below (T.setTop g) target := by
  obtain ⟨mk, methM, cM, hnamed, hmethM, -, -, -, -, -, -, hsigM⟩ := Cond.codeWith_spec hcode
  have hstatic : methM.isStatic = true := Cond.static_spec hnamed hmethM hstat
  obtain ⟨kP, hkP, -⟩ := className_of_methodNamed hnamed
  have hinitP : kP.init = .initialized := Cond.initialized_spec (findClass_of_methodNamed hnamed) hkP hinit
  obtain ⟨vm₁, X₁, hstep₁⟩ := X.invokestatic hexec hown hlink hnamed hmethM hstatic hkP hinitP hy (g := g) hg (argsL := argsL) (rest := rest) (hlen _ hsigM) hstack hdg
  obtain ⟨v, B, X', hpost, hsteps⟩ := hK m meth c ⟨T.setVm vm₁, locs, cells, slots⟩ { g with stack := rest } (.invokestatic index) mk argsL.toArray X₁ hg hsize hdg hW (X₁.named hnamed) (hpre vm₁ X₁.warmed)
  exact ⟨v, vm₁, B, X₁.warmed, X', hpost, fun target h => hstep₁ _ fun acts => by rw [doInvoke_state]; exact hsteps.trans h⟩
theorem vx_runSW {y : MethodName} {bytes cc : ByteArray} {maxL nL mc ms n index : Nat} {ret : Option FieldType} {hh : List (Nat × Nat × Nat × Nat)} {ws : List Cond} {rm : Room} {Pc : Array Value → State → Prop} {Qc : Array Value → State → Outcome → State → Prop} {free : Addr → Prop} {Ts : List Cond} {own : String} {As rest : List Value} {g : JFrame}
    (S : CallFix p m c cc nL s args Ts own) (hM : Met l y ws rm Pc Qc mc ms free) (cw : vx_CSW R s args own index y bytes maxL ret hh ws rm mc ms n) (hp : PreS s H Pc As)
    (hg : g.method = m) (hn : As.length = n) (hsize : g.locals.size = nL) (hstack : g.stack = As.reverse ++ rest) (hW : 2 * g.monitorRoom + (rest.map fun v => v.category).sum ≤ 8) (hdg : decode cc g.pc = .ok (.invokestatic index, 3)) (hf : cells + mc ≤ R.cells ∧ slots + ms ≤ R.slots) :
    va_Run p l e R s m args below meth c H locs cells slots mc ms g rest (Qc As.toArray) (free) := by
  obtain ⟨⟨hrc, hrs, hfr, hlo, hws, hcw⟩, hcode, hini, hy, hlen, hl, hstt⟩ := cw
  have hK : Back l R p e below s args y 3 8 (PreOf R mc ms Pc) (PostOf Qc mc ms free) := va_backW (hh := hh) (bytes := bytes) (maxL := maxL) (ret := ret) hM hp.1 hrc hrs hfr hlo hws hcw (fun a' U hW => word_at hW (Or.inl (by first | rfl | simp [Cond.onTables, Cond.keeps, Cond.steady])) hini)
  obtain ⟨hx, hb, hml, ho, -⟩ := S
  intro T hT X
  obtain ⟨v, vm₁, ⟨U', l2, c2, s2⟩, hW₁, X', ⟨g', mk, t, L, e1, e2, hq, h1, hL, h2, h3⟩, st⟩ := vx_callSW X hx (hh := hh) (bytes := bytes) (maxL := maxL) (ret := ret) ho hl hstt hini hcode hy hK hg (hsize.trans hml.symm) (argsL := As) (rest := rest) (fun sig h => hn.trans (hlen sig h)) hstack hW (by rw [hb]; exact hdg)
    (fun vm₁ hW₁ => ⟨hf.1, hf.2, hp.2 (T.setVm vm₁) hT hW₁⟩)
  dsimp only [Pt.U, Pt.locs, Pt.cells, Pt.slots] at X' e1 e2 h1 h2 h3 st
  subst h1; subst h2; subst h3
  exact ⟨v, (T.setVm vm₁).calling g' mk As.toArray, t, U', L, hT, X', hL, e1, e2, hq, st⟩
/-- not caught here, past rows that name other classes: it goes on to the caller -/
theorem vx_outP {p : Program} {l : Launch} {e : Env} {R : Room} {s : State} {m : MethodId} {args : Array Value} {below : List Frame} {meth : Method} {c : Code} {H : Heap} {locs : List Loc} {cells slots : Nat} {free : Addr → Prop} {ls : Array Slot} {rest : List Value} {Qc : Array Value → State → Outcome → State → Prop} {XC : String → State → State → Prop}
    {pc : Nat} {own E : String} {ce : Cell} {q : Addr} {mc ms : Nat} (hown : s.vm.findClass own = some m.cls) (hlocks : meth.locks = false)
    (hpass : ∀ z ∈ c.exceptionTable.toList, covers z pc = false ∨ (z.catchType ≠ 0 ∧ ∃ nm : String, (Cond.classLink own z.catchType nm).before args s = true ∧ va_Nc E nm s)) (hcell : H[q]? = some ce) (hv : ce.vm = .none) (hcl : s.vm.findClass E = some ce.cls)
    (hx : ∀ t : State, t.heap = H → s.vm.Alike t.vm → XC E s t) (hf : ∀ z ∈ locs, free z.base) (hc : cells ≤ mc) (hs : slots ≤ ms) :
    vx_W p l e R s m args below meth c H locs cells slots (vx_MQ below Qc XC args s mc ms free) (F0 m pc ls rest) q := by
  intro T hT X
  have hpl : e.platform.magicAccessors = ({} : Platform).magicAccessors := by rw [X.admits.platform]
  obtain ⟨vm', hW', X', st⟩ := X.outThrough hlocks q (g := F0 m pc ls rest) rfl rfl rfl (cell := ce) (by rw [hT]; exact hcell) (by rw [hv]; rfl)
    (by obtain ⟨k9, h9, -⟩ := Vm.findClass_spec hcl; exact ⟨k9, h9⟩) (fun z hz => by
      rcases hpass z hz with h | ⟨hz0, nm, hl1, hn1⟩
      · exact Or.inl h
      · obtain ⟨c6, hc6, hcl6⟩ := Cond.classLink_spec hown hl1 e.platform hpl
        obtain ⟨a8, b8, h1, h2, h3⟩ := hn1
        cases Option.some.inj (h1.symm.trans hcl)
        cases Option.some.inj (h2.symm.trans hc6)
        exact Or.inr ⟨hz0, _, hcl6, h3⟩)
  obtain ⟨g₀, hfr⟩ := X'.frames_eq
  have hcell9 : ((T.setVm vm').setFrames (.throwing q :: below)).heap[q]? = some ce := by
    show T.heap[q]? = some ce
    rw [hT]; exact hcell
  have hend : Ended ((T.setVm vm').setFrames (.throwing q :: below)) below (.threw q) := State.frames_setFrames _ (State.cur_lt_of_frames hfr)
  refine ⟨(T.setVm vm').setFrames (.throwing q :: below), ?_, .threw q, X'.here.running, hend, Or.inr ⟨q, rfl, E, ce, locs, hx _ hT (X'.ends _).1.alike, hcell9, hv, hcl, (X'.ends _).1, (X'.ends _).2.mono hc hs, hf⟩⟩
  rw [X.pushThrowing_eq]
  exact st
/-- a thing of a world lies in the heap -/
theorem vx_lt {D : va_G} {cl : List vw_C} {ws : va_W} {H1 : Heap} (h : va_P D cl ws H1) {k : Nat} {q : Nat × va_E} (hk : ws[k]? = some q) : q.1 < H1.size := (h k q hk).lt
end VXS
/-! ===== END ===== -/
/-! ===== BEGIN methods with a table of their own: called by a name, returning or throwing ===== -/
section VXH
/-! vx_backW, vx_callVX, vx_callSX, vx_callVW, vx_runVW, vx_runVX, vx_runSX, vx_ofWH follow the same proofs as their sisters above (Free/Laws.lean, Shelf42/LK1.lean); vx_outP calls Shelf42/NT130.lean (outThrough). -/
section
variable {l : Launch} {R : Room} {p : Program} {e : Env} {below : List Frame} {s : State} {sargs : Array Value} {y : MethodName} {len W9 : Nat}
theorem vx_backW {ws : List Cond} {rm : Room} {Pc : Array Value → State → Prop} {Qc : Array Value → State → Outcome → State → Prop} {XC : String → State → State → Prop} {mc ms : Nat} {free : Addr → Prop} {bytes : ByteArray} {maxL : Nat} {ret : Option FieldType} {hh : List (Nat × Nat × Nat × Nat)}
    (hM : vx_Met l y ws rm Pc Qc XC mc ms free) (hblind : FrameBlind Pc) (hrc : rm.cells = mc) (hrs : rm.slots = ms)
    (hframes : rm.frames + 1 ≤ R.frames) (hlocals : W9 + (maxL + 11) + rm.locals ≤ R.locals)
    (hws : ∀ w ∈ ws, ∀ a' U, s.WarmedH U.vm → w.before a' U = true) (hcode : Cond.codeWith y bytes maxL ret hh ∈ ws) (hinit : ∀ a' U, s.WarmedH U.vm → (Cond.initialized y.cls).before a' U = true) :
    vx_Back l R p e below s sargs y len W9 (PreOf R mc ms Pc) (PostOf Qc mc ms free) (vx_Post XC mc ms free) := by
  intro m meth c A g ig mk a X hg hsize hdg hW hn hp
  have h1 : (headSpec ws rm).pre.before a A.U = true := atoms_intro fun w hw => hws w hw _ _ X.warmed
  have h2 : (Cond.codeWith y bytes maxL ret hh).before a A.U = true := hws _ hcode _ _ X.warmed
  have h3 : (Cond.initialized y.cls).before a A.U = true := hinit _ _ X.warmed
  have h4 : A.cells + (headSpec ws rm).room.cells ≤ R.cells := by rw [show (headSpec ws rm).room.cells = mc from hrc]; exact hp.1
  have h5 : A.slots + (headSpec ws rm).room.slots ≤ R.slots := by rw [show (headSpec ws rm).room.slots = ms from hrs]; exact hp.2.1
  have hPc : Pc a (A.U.calling g mk a) := hblind _ _ _ _ hp.2.2
  obtain ⟨U, Ls, c0, s0⟩ := A
  dsimp only [Pt.U, Pt.locs, Pt.cells, Pt.slots] at h1 h2 h3 h4 h5 X hn hPc ⊢
  obtain ⟨m9, methY, cY, hn9, hmY, hcY, -, hlY, -⟩ := Cond.codeWith_spec h2
  cases Option.some.inj (hn9.symm.trans hn)
  obtain ⟨kY, hkY, -⟩ := className_of_methodNamed hn
  have hinitY : kY.init = .initialized := Cond.initialized_spec (findClass_of_methodNamed hn) hkY h3
  have h : At U g.method c below := by rw [hg]; exact X.here
  have hlocals9 : W9 + (maxL + 11) + (headSpec ws rm).room.locals ≤ R.locals := hlocals
  have happ : (headSpec ws rm).appliesLoose y e.platform (U.calling g mk a) = true :=
    Spec.appliesLoose_calling (g := g) h hdg hn hkY hinitY
      (X.room_calling (g := g) (R' := (headSpec ws rm).room) hsize hmY hcY hframes (by rw [hlY]; omega) h4 h5) h1
  obtain ⟨mid, hmid⟩ := h.above
  have hfr : (U.setTop g).frames = (.java g :: mid) ++ below := by rw [State.frames_setTop' g h.top, hmid]; rfl
  obtain ⟨o, s₂, hsteps, -, hend, hq⟩ := Steps.callFree hM p X.admits X.cas X.clock (acts := []) hfr happ hPc trivial
  have hq' : vx_Q Qc XC mc ms free a (U.calling g mk a) o s₂ := hq
  rw [State.frames_setTop' g h.top] at hend
  obtain ⟨g₀, hg0⟩ := Option.isSome_iff_exists.mp h.top
  obtain ⟨r, hr⟩ := State.topJava?_eq_some.mp hg0
  have hr' : (({ U with heap := s₂.heap, slotsUsed := s₂.slotsUsed } : State).setVm s₂.vm).frames = .java g₀ :: r := hr
  rcases hq' with ⟨hqc, L, hfe, hL⟩ | ⟨q, rfl, E, ce, L, hx, hce, hcv, hcl, hW₂, hsm, hL⟩
  · obtain ⟨⟨v, rfl⟩, hW₂, e2, q2, q3, q4, q5, q6⟩ := id hfe
    have e3 : s₂ = ({ (U.calling g mk a).setFrames s₂.frames with heap := s₂.heap, slotsUsed := s₂.slotsUsed } : State).setVm s₂.vm := by
      have : s₂ = ({ s₂ with vm := (U.calling g mk a).vm } : State).setVm s₂.vm := rfl
      rw [e2] at this
      exact this
    obtain ⟨c₂, i₂, len₂, hc₂, hd₂, hf₂⟩ := hend
    have hW' : U.WarmedH s₂.vm := hW₂
    have hcc : c₂ = c := by
      have h1 : s₂.code? g.method = U.code? g.method := by
        rw [State.code?_eq, State.code?_eq, hW'.alike.method?]
      exact Option.some.inj (hc₂.symm.trans (h1.trans h.code))
    subst hcc
    have hlen : len₂ = len := by rw [hdg] at hd₂; cases hd₂; rfl
    subst hlen
    have hs₂ : s₂ = (({ U with heap := s₂.heap, slotsUsed := s₂.slotsUsed } : State).setVm s₂.vm).setTop { g with pc := g.pc + len₂, stack := v.toList ++ g.stack } := by
      refine e3.trans ?_
      rw [hf₂, State.calling_eq h.top, State.setFrames_setFrames, State.setTop_of_frames _ hr', hr]
      rfl
    have hsame : U.sameButNew ({ U with heap := s₂.heap, slotsUsed := s₂.slotsUsed } : State) L mc ms := by
      refine ⟨?_, q2, q3, q4, q5, q6⟩
      obtain ⟨t, ht, -⟩ := State.frames_cons hr
      show ({ U with heap := s₂.heap, slotsUsed := s₂.slotsUsed } : State) = { U.setFrames U.frames with heap := s₂.heap, slotsUsed := s₂.slotsUsed }
      rw [State.setFrames_self ht]
    subst hg
    refine Or.inl ⟨v, ⟨(({ U with heap := s₂.heap, slotsUsed := s₂.slotsUsed } : State).setVm s₂.vm), Ls ++ L, c0 + mc, s0 + ms⟩,
      ⟨X.admits, X.cas, X.clock, X.frames, X.room, X.hears, X.method, X.code, (X.here.setHeapUsed s₂.heap s₂.slotsUsed).setVm hW'.alike, X.tail, State.WarmedH.trans X.warmed hW', X.limits, X.bytes, X.same.trans (hsame.setVm s.vm)⟩,
      ⟨g, mk, s₂, L, rfl, rfl, hqc, rfl, hL, rfl, rfl⟩, ?_⟩
    show Steps p.tables e below _ ((({ U with heap := s₂.heap, slotsUsed := s₂.slotsUsed } : State).setVm s₂.vm).setTop { g with pc := g.pc + len₂, stack := v.toList ++ g.stack })
    rw [← hs₂]
    exact hsteps
  · obtain ⟨e2, q2, q3, q4, q5, q6⟩ := id hsm
    have e3 : s₂ = ({ (U.calling g mk a).setFrames s₂.frames with heap := s₂.heap, slotsUsed := s₂.slotsUsed } : State).setVm s₂.vm := by
      have : s₂ = ({ s₂ with vm := (U.calling g mk a).vm } : State).setVm s₂.vm := rfl
      rw [e2] at this
      exact this
    have hf₂ : s₂.frames = .throwing q :: .java g :: U.frames.tail := hend
    have hW' : U.WarmedH s₂.vm := hW₂
    have hs₂ : s₂ = ((({ U with heap := s₂.heap, slotsUsed := s₂.slotsUsed } : State).setVm s₂.vm).setTop g).pushFrame (.throwing q) := by
      refine e3.trans ?_
      rw [hf₂, State.calling_eq h.top, State.setFrames_setFrames, State.pushFrame, State.frames_setTop _ hr', State.setTop_of_frames _ hr', State.setFrames_setFrames, hr]
      rfl
    have hsame : U.sameButNew ({ U with heap := s₂.heap, slotsUsed := s₂.slotsUsed } : State) L mc ms := by
      refine ⟨?_, q2, q3, q4, q5, q6⟩
      obtain ⟨t, ht, -⟩ := State.frames_cons hr
      show ({ U with heap := s₂.heap, slotsUsed := s₂.slotsUsed } : State) = { U.setFrames U.frames with heap := s₂.heap, slotsUsed := s₂.slotsUsed }
      rw [State.setFrames_self ht]
    subst hg
    refine Or.inr ⟨q, ⟨(({ U with heap := s₂.heap, slotsUsed := s₂.slotsUsed } : State).setVm s₂.vm), Ls ++ L, c0 + mc, s0 + ms⟩,
      ⟨X.admits, X.cas, X.clock, X.frames, X.room, X.hears, X.method, X.code, (X.here.setHeapUsed s₂.heap s₂.slotsUsed).setVm hW'.alike, X.tail, State.WarmedH.trans X.warmed hW', X.limits, X.bytes, X.same.trans (hsame.setVm s.vm)⟩,
      ⟨g, mk, s₂, L, E, ce, rfl, rfl, hx, hce, hcv, hcl, rfl, hL, rfl, rfl⟩, ?_⟩
    show Steps p.tables e below _ (((({ U with heap := s₂.heap, slotsUsed := s₂.slotsUsed } : State).setVm s₂.vm).setTop g).pushFrame (.throwing q))
    rw [← hs₂]
    exact hsteps
end
variable {p : Program} {l : Launch} {e : Env} {R : Room} {s : State} {m : MethodId} {args : Array Value} {below : List Frame} {meth : Method} {c : Code} {T : State} {H : Heap} {locs : List Loc} {cells slots : Nat}
theorem vx_callVX (X : Stand p l e R s m args below meth c T locs cells slots) (hexec : p.tables.exec = Jvm.exec) {own C : String} {index : Nat} {y : MethodName} {bytes : ByteArray} {maxL : Nat} {ret : Option FieldType} {hh : List (Nat × Nat × Nat × Nat)}
    (hown : s.vm.findClass own = some m.cls) (hlink : (Cond.methodLink own index y).before args s = true) (hinst : (Cond.instanceMethod y).before args s = true) (hsel : (Cond.selects C y y).before args s = true)
    (hcode : (Cond.codeWith y bytes maxL ret hh).before args s = true) (hy : y.cls ≠ "java/lang/invoke/MethodHandle" ∧ y.cls ≠ "java/lang/invoke/VarHandle")
    {W9 : Nat} {Pre : Pt → Array Value → Prop} {Post : Pt → Array Value → Option Value → Pt → Prop} {PostX : Pt → Array Value → Addr → Pt → Prop} (hK : vx_Back l R p e below s args y 3 W9 Pre Post PostX)
    {b : Addr} {cellB : Cell} (hcell : T.heap[b]? = some cellB) (hobj : cellB.vm.isStatics = false) (hcls : s.vm.findClass C = some cellB.cls)
    {g : JFrame} (hg : g.method = m) (hsize : g.locals.size = c.maxLocals) {argsL rest : List Value} (hlen : ∀ sig, parseMethodDescriptor y.desc = some sig → argsL.length = sig.parameters.length)
    (hstack : g.stack = argsL.reverse ++ .ref b :: rest) (hW : 2 * g.monitorRoom + (rest.map fun v => v.category).sum ≤ W9) (hdg : decode c.code g.pc = .ok (.invokevirtual index, 3))
    (hpre : ∀ vm₁, s.WarmedH vm₁ → Pre ⟨T.setVm vm₁, locs, cells, slots⟩ (Value.ref b :: argsL).toArray) :
    (∃ (v : Option Value) (vm₁ : Vm) (B : Pt), s.WarmedH vm₁ ∧ Stand p l e R s m args below meth c B.U B.locs B.cells B.slots ∧ Post ⟨T.setVm vm₁, locs, cells, slots⟩ (Value.ref b :: argsL).toArray v B ∧
      ∀ target, Steps p.tables e below (B.U.setTop { g with pc := g.pc + 3, stack := v.toList ++ rest }) target → Steps p.tables e below (T.setTop g) target) ∨
    (∃ (q : Addr) (vm₁ : Vm) (B : Pt), s.WarmedH vm₁ ∧ Stand p l e R s m args below meth c B.U B.locs B.cells B.slots ∧ PostX ⟨T.setVm vm₁, locs, cells, slots⟩ (Value.ref b :: argsL).toArray q B ∧
      Steps p.tables e below (T.setTop g) ((B.U.setTop { g with stack := rest }).pushFrame (.throwing q))) := by
  obtain ⟨mk, methM, hnamed, hmethM, hstM, habM⟩ := Cond.instanceMethod_spec hinst
  obtain ⟨m8, methM', cM, hn8, hmethM', -, -, -, -, -, -, hsigM⟩ := Cond.codeWith_spec hcode
  cases Option.some.inj (hn8.symm.trans hnamed)
  cases hmethM.symm.trans hmethM'
  obtain ⟨c2, r2, m2, q1, q2, q3, q4, kP, hkP, hkPi⟩ := Cond.selects_spec hsel
  cases hcls.symm.trans q1
  cases (State.methodFound?_of_named hnamed hy).symm.trans q2
  cases hnamed.symm.trans q3
  have hselP : selectMethod e.platform s.vm cellB.cls mk = .method mk := by rw [Launch.admits_selectMethod X.admits]; exact q4
  obtain ⟨vm₁, X₁, hstep₁⟩ := X.invokevirtual hexec hown hlink hnamed hmethM hstM hkP hkPi hy (a := b) (cell := cellB) hcell
    (fun z h => by rw [h] at hobj; cases hobj) hselP hmethM habM hkP hkPi (g := g) hg (argsL := argsL) (rest := rest) (hlen _ hsigM) hstack hdg
  rcases hK m meth c ⟨T.setVm vm₁, locs, cells, slots⟩ { g with stack := rest } (.invokevirtual index) mk (Value.ref b :: argsL).toArray X₁ hg hsize hdg hW (X₁.named hnamed) (hpre vm₁ X₁.warmed) with ⟨v, B, X', hpost, hsteps⟩ | ⟨q, B, X', hpost, hsteps⟩
  · exact Or.inl ⟨v, vm₁, B, X₁.warmed, X', hpost, fun target h => hstep₁ _ fun acts => by rw [doInvoke_state]; exact hsteps.trans h⟩
  · exact Or.inr ⟨q, vm₁, B, X₁.warmed, X', hpost, hstep₁ _ fun acts => by rw [doInvoke_state]; exact hsteps⟩
theorem vx_callSX (X : Stand p l e R s m args below meth c T locs cells slots) (hexec : p.tables.exec = Jvm.exec) {own : String} {index : Nat} {y : MethodName} {bytes : ByteArray} {maxL : Nat} {ret : Option FieldType} {hh : List (Nat × Nat × Nat × Nat)}
    (hown : s.vm.findClass own = some m.cls) (hlink : (Cond.methodLink own index y).before args s = true) (hstat : (Cond.static y).before args s = true) (hinit : (Cond.initialized y.cls).before args s = true)
    (hcode : (Cond.codeWith y bytes maxL ret hh).before args s = true) (hy : y.cls ≠ "java/lang/invoke/MethodHandle" ∧ y.cls ≠ "java/lang/invoke/VarHandle")
    {W9 : Nat} {Pre : Pt → Array Value → Prop} {Post : Pt → Array Value → Option Value → Pt → Prop} {PostX : Pt → Array Value → Addr → Pt → Prop} (hK : vx_Back l R p e below s args y 3 W9 Pre Post PostX)
    {g : JFrame} (hg : g.method = m) (hsize : g.locals.size = c.maxLocals) {argsL rest : List Value} (hlen : ∀ sig, parseMethodDescriptor y.desc = some sig → argsL.length = sig.parameters.length)
    (hstack : g.stack = argsL.reverse ++ rest) (hW : 2 * g.monitorRoom + (rest.map fun v => v.category).sum ≤ W9) (hdg : decode c.code g.pc = .ok (.invokestatic index, 3))
    (hpre : ∀ vm₁, s.WarmedH vm₁ → Pre ⟨T.setVm vm₁, locs, cells, slots⟩ argsL.toArray) :
    (∃ (v : Option Value) (vm₁ : Vm) (B : Pt), s.WarmedH vm₁ ∧ Stand p l e R s m args below meth c B.U B.locs B.cells B.slots ∧ Post ⟨T.setVm vm₁, locs, cells, slots⟩ argsL.toArray v B ∧
      ∀ target, Steps p.tables e below (B.U.setTop { g with pc := g.pc + 3, stack := v.toList ++ rest }) target → Steps p.tables e below (T.setTop g) target) ∨
    (∃ (q : Addr) (vm₁ : Vm) (B : Pt), s.WarmedH vm₁ ∧ Stand p l e R s m args below meth c B.U B.locs B.cells B.slots ∧ PostX ⟨T.setVm vm₁, locs, cells, slots⟩ argsL.toArray q B ∧
      Steps p.tables e below (T.setTop g) ((B.U.setTop { g with stack := rest }).pushFrame (.throwing q))) := by
  obtain ⟨mk, methM, cM, hnamed, hmethM, -, -, -, -, -, -, hsigM⟩ := Cond.codeWith_spec hcode
  have hstatic : methM.isStatic = true := Cond.static_spec hnamed hmethM hstat
  obtain ⟨kP, hkP, -⟩ := className_of_methodNamed hnamed
  have hinitP : kP.init = .initialized := Cond.initialized_spec (findClass_of_methodNamed hnamed) hkP hinit
  obtain ⟨vm₁, X₁, hstep₁⟩ := X.invokestatic hexec hown hlink hnamed hmethM hstatic hkP hinitP hy (g := g) hg (argsL := argsL) (rest := rest) (hlen _ hsigM) hstack hdg
  rcases hK m meth c ⟨T.setVm vm₁, locs, cells, slots⟩ { g with stack := rest } (.invokestatic index) mk argsL.toArray X₁ hg hsize hdg hW (X₁.named hnamed) (hpre vm₁ X₁.warmed) with ⟨v, B, X', hpost, hsteps⟩ | ⟨q, B, X', hpost, hsteps⟩
  · exact Or.inl ⟨v, vm₁, B, X₁.warmed, X', hpost, fun target h => hstep₁ _ fun acts => by rw [doInvoke_state]; exact hsteps.trans h⟩
  · exact Or.inr ⟨q, vm₁, B, X₁.warmed, X', hpost, hstep₁ _ fun acts => by rw [doInvoke_state]; exact hsteps⟩
theorem vx_callVW (X : Stand p l e R s m args below meth c T locs cells slots) (hexec : p.tables.exec = Jvm.exec) {own C : String} {index : Nat} {y : MethodName} {bytes : ByteArray} {maxL : Nat} {ret : Option FieldType} {hh : List (Nat × Nat × Nat × Nat)}
    (hown : s.vm.findClass own = some m.cls) (hlink : (Cond.methodLink own index y).before args s = true) (hinst : (Cond.instanceMethod y).before args s = true) (hsel : (Cond.selects C y y).before args s = true)
    (hcode : (Cond.codeWith y bytes maxL ret hh).before args s = true) (hy : y.cls ≠ "java/lang/invoke/MethodHandle" ∧ y.cls ≠ "java/lang/invoke/VarHandle")
    {W9 : Nat} {Pre : Pt → Array Value → Prop} {Post : Pt → Array Value → Option Value → Pt → Prop} (hK : Back l R p e below s args y 3 W9 Pre Post)
    {b : Addr} {cellB : Cell} (hcell : T.heap[b]? = some cellB) (hobj : cellB.vm.isStatics = false) (hcls : s.vm.findClass C = some cellB.cls)
    {g : JFrame} (hg : g.method = m) (hsize : g.locals.size = c.maxLocals) {argsL rest : List Value} (hlen : ∀ sig, parseMethodDescriptor y.desc = some sig → argsL.length = sig.parameters.length)
    (hstack : g.stack = argsL.reverse ++ .ref b :: rest) (hW : 2 * g.monitorRoom + (rest.map fun v => v.category).sum ≤ W9) (hdg : decode c.code g.pc = .ok (.invokevirtual index, 3))
    (hpre : ∀ vm₁, s.WarmedH vm₁ → Pre ⟨T.setVm vm₁, locs, cells, slots⟩ (Value.ref b :: argsL).toArray) :
    ∃ (v : Option Value) (vm₁ : Vm) (B : Pt), s.WarmedH vm₁ ∧ Stand p l e R s m args below meth c B.U B.locs B.cells B.slots ∧ Post ⟨T.setVm vm₁, locs, cells, slots⟩ (Value.ref b :: argsL).toArray v B ∧
      ∀ target, Steps p.tables e below (B.U.setTop { g with pc := g.pc + 3, stack := v.toList ++ rest }) target → Steps p.tables e below (T.setTop g) target := by
  obtain ⟨mk, methM, hnamed, hmethM, hstM, habM⟩ := Cond.instanceMethod_spec hinst
  obtain ⟨m8, methM', cM, hn8, hmethM', -, -, -, -, -, -, hsigM⟩ := Cond.codeWith_spec hcode
  cases Option.some.inj (hn8.symm.trans hnamed)
  cases hmethM.symm.trans hmethM'
  obtain ⟨c2, r2, m2, q1, q2, q3, q4, kP, hkP, hkPi⟩ := Cond.selects_spec hsel
  cases hcls.symm.trans q1
  cases (State.methodFound?_of_named hnamed hy).symm.trans q2
  cases hnamed.symm.trans q3
  have hselP : selectMethod e.platform s.vm cellB.cls mk = .method mk := by rw [Launch.admits_selectMethod X.admits]; exact q4
  obtain ⟨vm₁, X₁, hstep₁⟩ := X.invokevirtual hexec hown hlink hnamed hmethM hstM hkP hkPi hy (a := b) (cell := cellB) hcell
    (fun z h => by rw [h] at hobj; cases hobj) hselP hmethM habM hkP hkPi (g := g) hg (argsL := argsL) (rest := rest) (hlen _ hsigM) hstack hdg
  obtain ⟨v, B, X', hpost, hsteps⟩ := hK m meth c ⟨T.setVm vm₁, locs, cells, slots⟩ { g with stack := rest } (.invokevirtual index) mk (Value.ref b :: argsL).toArray X₁ hg hsize hdg hW (X₁.named hnamed) (hpre vm₁ X₁.warmed)
  exact ⟨v, vm₁, B, X₁.warmed, X', hpost, fun target h => hstep₁ _ fun acts => by rw [doInvoke_state]; exact hsteps.trans h⟩
abbrev vx_CVW (R : Room) (s : State) (args : Array Value) (own C : String) (index : Nat) (y : MethodName) (bytes : ByteArray) (maxL : Nat) (ret : Option FieldType) (hh : List (Nat × Nat × Nat × Nat)) (ws : List Cond) (rm : Room) (mc ms n : Nat) : Prop :=
  (rm.cells = mc ∧ rm.slots = ms ∧ rm.frames + 1 ≤ R.frames ∧ 8 + (maxL + 11) + rm.locals ≤ R.locals ∧ (∀ w ∈ ws, ∀ (a' : Array Value) (U : State), s.WarmedH U.vm → w.before a' U = true) ∧ Cond.codeWith y bytes maxL ret hh ∈ ws) ∧
  (Cond.codeWith y bytes maxL ret hh).before args s = true ∧ (Cond.initialized y.cls).before args s = true ∧ (y.cls ≠ "java/lang/invoke/MethodHandle" ∧ y.cls ≠ "java/lang/invoke/VarHandle") ∧
  (∀ sig, parseMethodDescriptor y.desc = some sig → n = sig.parameters.length) ∧ (Cond.methodLink own index y).before args s = true ∧ (Cond.instanceMethod y).before args s = true ∧ (Cond.selects C y y).before args s = true
theorem vx_cwVW {own C : String} {index maxL mc ms : Nat} {y : MethodName} {bytes : ByteArray} {ret : Option FieldType} {hh : List (Nat × Nat × Nat × Nat)} {Ts ws ws' : List Cond} {rm : Room} (n : Nat) (ht : ∀ w ∈ Ts, w.before args s = true) (hT : GoodIn Ts (wsV own index C y ws)) (hw : ws = Cond.codeWith y bytes maxL ret hh :: ws') (hrc : rm.cells = mc) (hrs : rm.slots = ms)
    (hd : y.cls = C ∧ y.cls ≠ "java/lang/invoke/MethodHandle" ∧ y.cls ≠ "java/lang/invoke/VarHandle" ∧ (parseMethodDescriptor y.desc).map (fun d => d.parameters.length) = some n) (hR : rm.frames + 1 ≤ R.frames ∧ 8 + (maxL + 11) + rm.locals ≤ R.locals) :
    vx_CVW R s args own C index y bytes maxL ret hh ws rm mc ms n := by
  obtain ⟨hC, hd⟩ := hd
  subst hC
  have ok : ∀ w ∈ wsV own index y.cls y ws, w.before args s = true := fun w h => ht w (hT w h).1
  have hG : GoodIn Ts ws := fun w h => hT w (by unfold wsV; exact List.mem_append_right _ h)
  have hc : Cond.codeWith y bytes maxL ret hh ∈ ws := by rw [hw]; exact List.mem_cons_self
  refine ⟨⟨hrc, hrs, hR.1, hR.2, pay_in ht hG, hc⟩, ht _ (hG _ hc).1, ok _ (by simp [wsV]), ⟨hd.1, hd.2.1⟩, fun sig h => ?_, ok _ (by simp [wsV]), ok _ (by simp [wsV]), ok _ (by simp [wsV])⟩
  have h2 := hd.2.2
  rw [h] at h2
  exact (Option.some.inj h2).symm
theorem vx_runVW {y : MethodName} {bytes cc : ByteArray} {maxL nL mc ms n index : Nat} {ret : Option FieldType} {hh : List (Nat × Nat × Nat × Nat)} {ws : List Cond} {rm : Room} {Pc : Array Value → State → Prop} {Qc : Array Value → State → Outcome → State → Prop} {free : Addr → Prop} {Ts : List Cond} {own C : String} {b : Addr} {As rest : List Value} {g : JFrame}
    (S : CallFix p m c cc nL s args Ts own) (hM : Met l y ws rm Pc Qc mc ms free) (cw : vx_CVW R s args own C index y bytes maxL ret hh ws rm mc ms n) (hp : PreV s H C b Pc As)
    (hg : g.method = m) (hn : As.length = n) (hsize : g.locals.size = nL) (hstack : g.stack = As.reverse ++ .ref b :: rest) (hW : 2 * g.monitorRoom + (rest.map fun v => v.category).sum ≤ 8) (hdg : decode cc g.pc = .ok (.invokevirtual index, 3)) (hf : cells + mc ≤ R.cells ∧ slots + ms ≤ R.slots) :
    va_Run p l e R s m args below meth c H locs cells slots mc ms g rest (Qc (Value.ref b :: As).toArray) free := by
  obtain ⟨⟨hrc, hrs, hfr, hlo, hws, hcw⟩, hcode, hini, hy, hlen, hl, hin, hse⟩ := cw
  have hK : Back l R p e below s args y 3 8 (PreOf R mc ms Pc) (PostOf Qc mc ms free) := va_backW (hh := hh) (bytes := bytes) (maxL := maxL) (ret := ret) hM hp.1 hrc hrs hfr hlo hws hcw (fun a' U hW => word_at hW (Or.inl (by first | rfl | simp [Cond.onTables, Cond.keeps, Cond.steady])) hini)
  obtain ⟨hx, hb, hml, ho, -⟩ := S
  obtain ⟨-, ⟨cellB, hcB, hoB, hclB⟩, hPc⟩ := hp
  intro T hT X
  obtain ⟨v, vm₁, ⟨U', l2, c2, s2⟩, hW₁, X', ⟨g', mk, t, L, e1, e2, hq, h1, hL, h2, h3⟩, st⟩ := vx_callVW X hx (C := C) (hh := hh) (bytes := bytes) (maxL := maxL) (ret := ret) ho hl hin hse hcode hy hK (by rw [hT]; exact hcB) hoB hclB hg (hsize.trans hml.symm) (argsL := As) (rest := rest) (fun sig h => hn.trans (hlen sig h)) hstack hW (by rw [hb]; exact hdg)
    (fun vm₁ hW₁ => ⟨hf.1, hf.2, hPc (T.setVm vm₁) hT hW₁⟩)
  dsimp only [Pt.U, Pt.locs, Pt.cells, Pt.slots] at X' e1 e2 h1 h2 h3 st
  subst h1; subst h2; subst h3
  exact ⟨v, (T.setVm vm₁).calling g' mk (Value.ref b :: As).toArray, t, U', L, hT, X', hL, e1, e2, hq, st⟩
section
variable {y : MethodName} {bytes cc : ByteArray} {maxL nL mc ms n index : Nat} {ret : Option FieldType} {ws : List Cond} {rm : Room} {Pc : Array Value → State → Prop} {Qc : Array Value → State → Outcome → State → Prop} {XC : String → State → State → Prop} {free : Addr → Prop} {Ts : List Cond} {own C : String} {b : Addr} {As rest : List Value} {g : JFrame}
theorem vx_runVX {hh : List (Nat × Nat × Nat × Nat)} (S : CallFix p m c cc nL s args Ts own) (hM : vx_Met l y ws rm Pc Qc XC mc ms free) (cw : vx_CVW R s args own C index y bytes maxL ret hh ws rm mc ms n) (hp : PreV s H C b Pc As)
    (hg : g.method = m) (hn : As.length = n) (hsize : g.locals.size = nL) (hstack : g.stack = As.reverse ++ .ref b :: rest) (hW : 2 * g.monitorRoom + (rest.map fun v => v.category).sum ≤ 8) (hdg : decode cc g.pc = .ok (.invokevirtual index, 3)) (hf : cells + mc ≤ R.cells ∧ slots + ms ≤ R.slots) :
    vx_Run p l e R s m args below meth c H locs cells slots mc ms g rest (Qc (Value.ref b :: As).toArray) XC free := by
  obtain ⟨⟨hrc, hrs, hfr, hlo, hws, hcw⟩, hcode, hini, hy, hlen, hl, hin, hse⟩ := cw
  have hK : vx_Back l R p e below s args y 3 8 (PreOf R mc ms Pc) (PostOf Qc mc ms free) (vx_Post XC mc ms free) := vx_backW (hh := hh) (bytes := bytes) (maxL := maxL) (ret := ret) hM hp.1 hrc hrs hfr hlo hws hcw (fun a' U hW => word_at hW (Or.inl (by first | rfl | simp [Cond.onTables, Cond.keeps, Cond.steady])) hini)
  obtain ⟨hx, hb, hml, ho, -⟩ := S
  obtain ⟨-, ⟨cellB, hcB, hoB, hclB⟩, hPc⟩ := hp
  intro T hT X
  rcases vx_callVX X hx (C := C) (hh := hh) (bytes := bytes) (maxL := maxL) (ret := ret) ho hl hin hse hcode hy hK (by rw [hT]; exact hcB) hoB hclB hg (hsize.trans hml.symm) (argsL := As) (rest := rest) (fun sig h => hn.trans (hlen sig h)) hstack hW (by rw [hb]; exact hdg)
    (fun vm₁ hW₁ => ⟨hf.1, hf.2, hPc (T.setVm vm₁) hT hW₁⟩) with ⟨v, vm₁, ⟨U', l2, c2, s2⟩, hW₁, X', ⟨g', mk, t, L, e1, e2, hq, h1, hL, h2, h3⟩, st⟩ | ⟨q, vm₁, ⟨U', l2, c2, s2⟩, hW₁, X', ⟨g', mk, t, L, E, ce, e1, e2, hq, hce, hcv, hcl, h1, hL, h2, h3⟩, st⟩
  · dsimp only [Pt.U, Pt.locs, Pt.cells, Pt.slots] at X' e1 e2 h1 h2 h3 st
    subst h1; subst h2; subst h3
    exact Or.inl ⟨v, (T.setVm vm₁).calling g' mk (Value.ref b :: As).toArray, t, U', L, hT, X', hL, e1, e2, hq, st⟩
  · dsimp only [Pt.U, Pt.locs, Pt.cells, Pt.slots] at X' e1 e2 h1 h2 h3 st hcl
    subst h1; subst h2; subst h3
    exact Or.inr ⟨q, (T.setVm vm₁).calling g' mk (Value.ref b :: As).toArray, t, U', L, E, ce, hT, X', hL, e1, e2, hq, hce, hcv, vx_cls hW₁ hcl, st⟩
theorem vx_runSX {hh : List (Nat × Nat × Nat × Nat)} (S : CallFix p m c cc nL s args Ts own) (hM : vx_Met l y ws rm Pc Qc XC mc ms free) (cw : vx_CSW R s args own index y bytes maxL ret hh ws rm mc ms n) (hp : PreS s H Pc As)
    (hg : g.method = m) (hn : As.length = n) (hsize : g.locals.size = nL) (hstack : g.stack = As.reverse ++ rest) (hW : 2 * g.monitorRoom + (rest.map fun v => v.category).sum ≤ 8) (hdg : decode cc g.pc = .ok (.invokestatic index, 3)) (hf : cells + mc ≤ R.cells ∧ slots + ms ≤ R.slots) :
    vx_Run p l e R s m args below meth c H locs cells slots mc ms g rest (Qc As.toArray) XC free := by
  obtain ⟨⟨hrc, hrs, hfr, hlo, hws, hcw⟩, hcode, hini, hy, hlen, hl, hstt⟩ := cw
  have hK : vx_Back l R p e below s args y 3 8 (PreOf R mc ms Pc) (PostOf Qc mc ms free) (vx_Post XC mc ms free) := vx_backW (hh := hh) (bytes := bytes) (maxL := maxL) (ret := ret) hM hp.1 hrc hrs hfr hlo hws hcw (fun a' U hW => word_at hW (Or.inl (by first | rfl | simp [Cond.onTables, Cond.keeps, Cond.steady])) hini)
  obtain ⟨hx, hb, hml, ho, -⟩ := S
  intro T hT X
  rcases vx_callSX X hx (hh := hh) (bytes := bytes) (maxL := maxL) (ret := ret) ho hl hstt hini hcode hy hK hg (hsize.trans hml.symm) (argsL := As) (rest := rest) (fun sig h => hn.trans (hlen sig h)) hstack hW (by rw [hb]; exact hdg)
    (fun vm₁ hW₁ => ⟨hf.1, hf.2, hp.2 (T.setVm vm₁) hT hW₁⟩) with ⟨v, vm₁, ⟨U', l2, c2, s2⟩, hW₁, X', ⟨g', mk, t, L, e1, e2, hq, h1, hL, h2, h3⟩, st⟩ | ⟨q, vm₁, ⟨U', l2, c2, s2⟩, hW₁, X', ⟨g', mk, t, L, E, ce, e1, e2, hq, hce, hcv, hcl, h1, hL, h2, h3⟩, st⟩
  · dsimp only [Pt.U, Pt.locs, Pt.cells, Pt.slots] at X' e1 e2 h1 h2 h3 st
    subst h1; subst h2; subst h3
    exact Or.inl ⟨v, (T.setVm vm₁).calling g' mk As.toArray, t, U', L, hT, X', hL, e1, e2, hq, st⟩
  · dsimp only [Pt.U, Pt.locs, Pt.cells, Pt.slots] at X' e1 e2 h1 h2 h3 st hcl
    subst h1; subst h2; subst h3
    exact Or.inr ⟨q, (T.setVm vm₁).calling g' mk As.toArray, t, U', L, E, ce, hT, X', hL, e1, e2, hq, hce, hcv, vx_cls hW₁ hcl, st⟩
end
end VXH
theorem vx_ofWH {l : Launch} {y : MethodName} {ws ws' : List Cond} {rm : Room} {Pc : Array Value → State → Prop} {Qc : Array Value → State → Outcome → State → Prop} {XC : String → State → State → Prop} {mc ms : Nat} {free : Addr → Prop} {cc : ByteArray} {maxL : Nat} {ret : Option FieldType} {hh : List (Nat × Nat × Nat × Nat)}
    (hy : plainName y.cls = true) (hw : ws = Cond.codeWith y cc maxL ret hh :: ws')
    (body : ∀ p e s m args below meth c s₁, BodyLoose p l y (headSpec ws rm) cc maxL ret e s m args below meth c s₁ → c.maxLocals = maxL → Pc args s →
      W p l e (headSpec ws rm).room s m args below meth c s.heap [] 0 0 (vx_MQ below Qc XC args s mc ms free) (entryFrame m args maxL)) : vx_Met l y ws rm Pc Qc XC mc ms free := by
  refine MetFree.of_bodyS (code := cc) (maxLocals := maxL) (ret := ret) hy ?_ ?_
  · intro args s m h hn
    obtain ⟨m9, meth, c, hn9, h1, h2, h3, h4, -, h5, h6, -⟩ := Cond.codeWith_spec (atoms_spec (ws := ws) h _ (by rw [hw]; exact List.mem_cons_self))
    cases hn.symm.trans hn9
    exact ⟨meth, c, h1, h2, h3, h4, h5, h6⟩
  · intro p e s m args below meth c s₁ B hml hP _
    have hh0 : s₁.heap = s.heap := by rw [B.state]; rfl
    obtain ⟨t, a1, o, b1, b2, b3⟩ := body p e s m args below meth c s₁ B hml hP s₁ hh0 (Stand.of_body B)
    exact ⟨t, o, a1, b1, b2, b3⟩
/-! ===== END ===== -/

/-! ===== BEGIN printed: names, fields, word lists, decode rows ===== -/
def RX0 : String := "SignReforms$Decrees"
def TX0 : u_T := fun k => match k with
  | 0 => ("SignReforms$Decrees", "count", "I", false)
  | _ => ("SignReforms$Decrees", "numbers", "[I", true)
def tyX0 : Nat → FieldType := fun k => match k with
  | 0 => .int
  | _ => .array .int
abbrev wsX00 : List Cond := u_ws RX0 TX0 2
theorem nmX0 : ∀ a, a < 2 → ∀ b, b < 2 → a ≠ b → (TX0 a).2.1 ≠ (TX0 b).2.1 := by decide +kernel
theorem tyX0_ok : ∀ k, k < 2 → parseFieldDescriptor (TX0 k).2.2.1 = some (tyX0 k) := by decide +kernel
abbrev cX0_init : ByteArray := prog_2_method_1_code
def yX0_init : MethodName := ⟨RX0, "<init>", "()V"⟩
abbrev cX0_canBe : ByteArray := prog_2_method_2_code
def yX0_canBe : MethodName := ⟨RX0, "canBe", "(IIII)Z"⟩
abbrev cX0_has : ByteArray := prog_2_method_3_code
def yX0_has : MethodName := ⟨RX0, "has", "(I)Z"⟩
abbrev cX0_areFull : ByteArray := prog_2_method_4_code
def yX0_areFull : MethodName := ⟨RX0, "areFull", "()Z"⟩
abbrev cX0_number : ByteArray := prog_2_method_5_code
def yX0_number : MethodName := ⟨RX0, "number", "(II)I"⟩
abbrev cX0_add : ByteArray := prog_2_method_6_code
def yX0_add : MethodName := ⟨RX0, "add", "(IIIII)V"⟩
abbrev cX0_remove : ByteArray := prog_2_method_7_code
def yX0_remove : MethodName := ⟨RX0, "remove", "(I)V"⟩
abbrev cX0_spellingOf : ByteArray := prog_2_method_8_code
def yX0_spellingOf : MethodName := ⟨RX0, "spellingOf", "(I)I"⟩
abbrev cX0_spellingWithout : ByteArray := prog_2_method_9_code
def yX0_spellingWithout : MethodName := ⟨RX0, "spellingWithout", "(II)I"⟩
abbrev cX0_copyFrom : ByteArray := prog_2_method_10_code
def yX0_copyFrom : MethodName := ⟨RX0, "copyFrom", "(LSignReforms$Decrees;)V"⟩
def RX1 : String := "SignReforms$Flow"
def TX1 : u_T := fun k => match k with
  | _ => ("SignReforms$Flow", "held", "[I", true)
def tyX1 : Nat → FieldType := fun k => match k with
  | _ => .array .int
abbrev wsX10 : List Cond := u_ws RX1 TX1 1
theorem nmX1 : ∀ a, a < 1 → ∀ b, b < 1 → a ≠ b → (TX1 a).2.1 ≠ (TX1 b).2.1 := by decide +kernel
theorem tyX1_ok : ∀ k, k < 1 → parseFieldDescriptor (TX1 k).2.2.1 = some (tyX1 k) := by decide +kernel
abbrev cX1_init : ByteArray := prog_3_method_1_code
def yX1_init : MethodName := ⟨RX1, "<init>", "()V"⟩
abbrev cX1_spellingOf : ByteArray := prog_3_method_2_code
def yX1_spellingOf : MethodName := ⟨RX1, "spellingOf", "(LSignReforms$Decrees;I)I"⟩
abbrev cX1_through : ByteArray := prog_3_method_3_code
def yX1_through : MethodName := ⟨RX1, "through", "(LSignReforms$Decrees;IZ)I"⟩
abbrev cX1_pastDecree : ByteArray := prog_3_method_4_code
def yX1_pastDecree : MethodName := ⟨RX1, "pastDecree", "(LSignReforms$Decrees;II)I"⟩
abbrev cX1_let : ByteArray := prog_3_method_5_code
def yX1_let : MethodName := ⟨RX1, "let", "(LSignReforms$Decrees;II)I"⟩
abbrev cX1_joinedTo : ByteArray := prog_3_method_6_code
def yX1_joinedTo : MethodName := ⟨RX1, "joinedTo", "(II)I"⟩
def RX2 : String := "SignReforms$Memory"
def TX2 : u_T := fun k => match k with
  | 0 => ("SignReforms$Memory", "ring", "[LSignReforms$State;", true)
  | 1 => ("SignReforms$Memory", "oldest", "I", false)
  | 2 => ("SignReforms$Memory", "states", "I", false)
  | 3 => ("SignReforms$Memory", "slots", "[LSignReforms$State;", true)
  | _ => ("SignReforms$Memory", "filled", "[Z", true)
def tyX2 : Nat → FieldType := fun k => match k with
  | 0 => .array (.object "SignReforms$State")
  | 1 => .int
  | 2 => .int
  | 3 => .array (.object "SignReforms$State")
  | _ => .array .boolean
abbrev wsX20 : List Cond := u_ws RX2 TX2 5
theorem nmX2 : ∀ a, a < 5 → ∀ b, b < 5 → a ≠ b → (TX2 a).2.1 ≠ (TX2 b).2.1 := by decide +kernel
theorem tyX2_ok : ∀ k, k < 5 → parseFieldDescriptor (TX2 k).2.2.1 = some (tyX2 k) := by decide +kernel
abbrev cX2_init : ByteArray := prog_4_method_1_code
def yX2_init : MethodName := ⟨RX2, "<init>", "()V"⟩
abbrev cX2_remember : ByteArray := prog_4_method_2_code
def yX2_remember : MethodName := ⟨RX2, "remember", "(LSignReforms$State;)V"⟩
abbrev cX2_takeBack : ByteArray := prog_4_method_3_code
def yX2_takeBack : MethodName := ⟨RX2, "takeBack", "(LSignReforms$State;)V"⟩
abbrev cX2_forgetStates : ByteArray := prog_4_method_4_code
def yX2_forgetStates : MethodName := ⟨RX2, "forgetStates", "()V"⟩
abbrev cX2_isFilled : ByteArray := prog_4_method_5_code
def yX2_isFilled : MethodName := ⟨RX2, "isFilled", "(I)Z"⟩
abbrev cX2_fillSlot : ByteArray := prog_4_method_6_code
def yX2_fillSlot : MethodName := ⟨RX2, "fillSlot", "(ILSignReforms$State;)V"⟩
abbrev cX2_copySlot : ByteArray := prog_4_method_7_code
def yX2_copySlot : MethodName := ⟨RX2, "copySlot", "(ILSignReforms$State;)V"⟩
abbrev cX2_emptySlots : ByteArray := prog_4_method_8_code
def yX2_emptySlots : MethodName := ⟨RX2, "emptySlots", "()V"⟩
def RX3 : String := "SignReforms$ReformText"
def TX3 : u_T := fun k => match k with
  | 0 => ("SignReforms$ReformText", "characters", "[I", true)
  | 1 => ("SignReforms$ReformText", "length", "I", false)
  | 2 => ("SignReforms$ReformText", "at", "I", false)
  | 3 => ("SignReforms$ReformText", "command", "I", false)
  | 4 => ("SignReforms$ReformText", "guild", "I", false)
  | _ => ("SignReforms$ReformText", "number", "I", false)
def tyX3 : Nat → FieldType := fun k => match k with
  | 0 => .array .int
  | 1 => .int
  | 2 => .int
  | 3 => .int
  | 4 => .int
  | _ => .int
abbrev wsX30 : List Cond := u_ws RX3 TX3 6
theorem nmX3 : ∀ a, a < 6 → ∀ b, b < 6 → a ≠ b → (TX3 a).2.1 ≠ (TX3 b).2.1 := by decide +kernel
theorem tyX3_ok : ∀ k, k < 6 → parseFieldDescriptor (TX3 k).2.2.1 = some (tyX3 k) := by decide +kernel
abbrev cX3_init : ByteArray := prog_5_method_1_code
def yX3_init : MethodName := ⟨RX3, "<init>", "()V"⟩
abbrev cX3_put : ByteArray := prog_5_method_2_code
def yX3_put : MethodName := ⟨RX3, "put", "(I)V"⟩
abbrev cX3_firstError : ByteArray := prog_5_method_3_code
def yX3_firstError : MethodName := ⟨RX3, "firstError", "()I"⟩
abbrev cX3_restart : ByteArray := prog_5_method_4_code
def yX3_restart : MethodName := ⟨RX3, "restart", "()Z"⟩
abbrev cX3_hasMore : ByteArray := prog_5_method_5_code
def yX3_hasMore : MethodName := ⟨RX3, "hasMore", "()Z"⟩
abbrev cX3_readCommand : ByteArray := prog_5_method_6_code
def yX3_readCommand : MethodName := ⟨RX3, "readCommand", "()Z"⟩
abbrev cX3_readWord : ByteArray := prog_5_method_7_code
def yX3_readWord : MethodName := ⟨RX3, "readWord", "()Z"⟩
abbrev cX3_readMonths : ByteArray := prog_5_method_8_code
def yX3_readMonths : MethodName := ⟨RX3, "readMonths", "()Z"⟩
abbrev cX3_readLetter : ByteArray := prog_5_method_9_code
def yX3_readLetter : MethodName := ⟨RX3, "readLetter", "()Z"⟩
abbrev cX3_readDigit : ByteArray := prog_5_method_10_code
def yX3_readDigit : MethodName := ⟨RX3, "readDigit", "(II)Z"⟩
abbrev cX3_readMark : ByteArray := prog_5_method_11_code
def yX3_readMark : MethodName := ⟨RX3, "readMark", "(I)Z"⟩
def RX4 : String := "SignReforms$Ruler"
def TX4 : u_T := fun k => match k with
  | _ => ("SignReforms$Ruler", "row", "[I", true)
def tyX4 : Nat → FieldType := fun k => match k with
  | _ => .array .int
abbrev wsX40 : List Cond := u_ws RX4 TX4 1
theorem nmX4 : ∀ a, a < 1 → ∀ b, b < 1 → a ≠ b → (TX4 a).2.1 ≠ (TX4 b).2.1 := by decide +kernel
theorem tyX4_ok : ∀ k, k < 1 → parseFieldDescriptor (TX4 k).2.2.1 = some (tyX4 k) := by decide +kernel
abbrev cX4_init : ByteArray := prog_6_method_1_code
def yX4_init : MethodName := ⟨RX4, "<init>", "()V"⟩
abbrev cX4_measured : ByteArray := prog_6_method_2_code
def yX4_measured : MethodName := ⟨RX4, "measured", "(II)I"⟩
abbrev cX4_nextRow : ByteArray := prog_6_method_3_code
def yX4_nextRow : MethodName := ⟨RX4, "nextRow", "(II)V"⟩
def RX5 : String := "SignReforms$Scripts"
def TX5 : u_T := fun k => match k with
  | _ => ("", "", "", false)
def tyX5 : Nat → FieldType := fun k => match k with
  | _ => .int
abbrev wsX50 : List Cond := u_ws RX5 TX5 0
theorem nmX5 : ∀ a, a < 0 → ∀ b, b < 0 → a ≠ b → (TX5 a).2.1 ≠ (TX5 b).2.1 := by decide +kernel
theorem tyX5_ok : ∀ k, k < 0 → parseFieldDescriptor (TX5 k).2.2.1 = some (tyX5 k) := by decide +kernel
abbrev cX5_succeeds : ByteArray := prog_7_method_2_code
def yX5_succeeds : MethodName := ⟨RX5, "succeeds", "(LSignReforms$Town;I)Z"⟩
abbrev cX5_isGiven : ByteArray := prog_7_method_3_code
def yX5_isGiven : MethodName := ⟨RX5, "isGiven", "(LSignReforms$Town;IIII)Z"⟩
abbrev cX5_monthsPass : ByteArray := prog_7_method_4_code
def yX5_monthsPass : MethodName := ⟨RX5, "monthsPass", "(LSignReforms$Town;I)Z"⟩
def RX6 : String := "SignReforms$Simulations"
def TX6 : u_T := fun k => match k with
  | _ => ("", "", "", false)
def tyX6 : Nat → FieldType := fun k => match k with
  | _ => .int
abbrev wsX60 : List Cond := u_ws RX6 TX6 0
theorem nmX6 : ∀ a, a < 0 → ∀ b, b < 0 → a ≠ b → (TX6 a).2.1 ≠ (TX6 b).2.1 := by decide +kernel
theorem tyX6_ok : ∀ k, k < 0 → parseFieldDescriptor (TX6 k).2.2.1 = some (tyX6 k) := by decide +kernel
abbrev cX6_takeTurn : ByteArray := prog_8_method_2_code
def yX6_takeTurn : MethodName := ⟨RX6, "takeTurn", "(LSignReforms$Town;I)V"⟩
abbrev cX6_wordFrom : ByteArray := prog_8_method_3_code
def yX6_wordFrom : MethodName := ⟨RX6, "wordFrom", "(I)I"⟩
def RX7 : String := "SignReforms$State"
def TX7 : u_T := fun k => match k with
  | 0 => ("SignReforms$State", "decrees", "LSignReforms$Decrees;", true)
  | 1 => ("SignReforms$State", "signs", "I", false)
  | 2 => ("SignReforms$State", "guilds", "[I", true)
  | 3 => ("SignReforms$State", "words", "[I", true)
  | 4 => ("SignReforms$State", "painted", "[I", true)
  | 5 => ("SignReforms$State", "rights", "[I", true)
  | 6 => ("SignReforms$State", "paintings", "[I", true)
  | 7 => ("SignReforms$State", "signFines", "[I", true)
  | 8 => ("SignReforms$State", "guildFines", "[I", true)
  | 9 => ("SignReforms$State", "guildPaint", "[I", true)
  | 10 => ("SignReforms$State", "settings", "[I", true)
  | 11 => ("SignReforms$State", "month", "I", false)
  | 12 => ("SignReforms$State", "amnestyLeft", "I", false)
  | 13 => ("SignReforms$State", "amnestyMonth", "I", false)
  | _ => ("SignReforms$State", "refusals", "I", false)
def tyX7 : Nat → FieldType := fun k => match k with
  | 0 => .object "SignReforms$Decrees"
  | 1 => .int
  | 2 => .array .int
  | 3 => .array .int
  | 4 => .array .int
  | 5 => .array .int
  | 6 => .array .int
  | 7 => .array .int
  | 8 => .array .int
  | 9 => .array .int
  | 10 => .array .int
  | 11 => .int
  | 12 => .int
  | 13 => .int
  | _ => .int
abbrev wsX70 : List Cond := u_ws RX7 TX7 15
theorem nmX7 : ∀ a, a < 15 → ∀ b, b < 15 → a ≠ b → (TX7 a).2.1 ≠ (TX7 b).2.1 := by decide +kernel
theorem tyX7_ok : ∀ k, k < 15 → parseFieldDescriptor (TX7 k).2.2.1 = some (tyX7 k) := by decide +kernel
abbrev cX7_init : ByteArray := prog_9_method_1_code
def yX7_init : MethodName := ⟨RX7, "<init>", "()V"⟩
abbrev cX7_clear : ByteArray := prog_9_method_2_code
def yX7_clear : MethodName := ⟨RX7, "clear", "()V"⟩
abbrev cX7_copyFrom : ByteArray := prog_9_method_3_code
def yX7_copyFrom : MethodName := ⟨RX7, "copyFrom", "(LSignReforms$State;)V"⟩
def RX8 : String := "SignReforms$Town"
def TX8 : u_T := fun k => match k with
  | 0 => ("SignReforms$Town", "state", "LSignReforms$State;", true)
  | 1 => ("SignReforms$Town", "ruler", "LSignReforms$Ruler;", true)
  | 2 => ("SignReforms$Town", "flow", "LSignReforms$Flow;", true)
  | _ => ("SignReforms$Town", "planned", "[I", true)
def tyX8 : Nat → FieldType := fun k => match k with
  | 0 => .object "SignReforms$State"
  | 1 => .object "SignReforms$Ruler"
  | 2 => .object "SignReforms$Flow"
  | _ => .array .int
abbrev wsX80 : List Cond := u_ws RX8 TX8 4
theorem nmX8 : ∀ a, a < 4 → ∀ b, b < 4 → a ≠ b → (TX8 a).2.1 ≠ (TX8 b).2.1 := by decide +kernel
theorem tyX8_ok : ∀ k, k < 4 → parseFieldDescriptor (TX8 k).2.2.1 = some (tyX8 k) := by decide +kernel
abbrev cX8_init : ByteArray := prog_10_method_1_code
def yX8_init : MethodName := ⟨RX8, "<init>", "()V"⟩
abbrev cX8_hasSign : ByteArray := prog_10_method_2_code
def yX8_hasSign : MethodName := ⟨RX8, "hasSign", "(I)Z"⟩
abbrev cX8_isWrong : ByteArray := prog_10_method_3_code
def yX8_isWrong : MethodName := ⟨RX8, "isWrong", "(I)Z"⟩
abbrev cX8_lettersWrong : ByteArray := prog_10_method_4_code
def yX8_lettersWrong : MethodName := ⟨RX8, "lettersWrong", "(I)I"⟩
abbrev cX8_costOf : ByteArray := prog_10_method_5_code
def yX8_costOf : MethodName := ⟨RX8, "costOf", "(I)I"⟩
abbrev cX8_spelled : ByteArray := prog_10_method_6_code
def yX8_spelled : MethodName := ⟨RX8, "spelled", "(IZ)I"⟩
abbrev cX8_spellingsApart : ByteArray := prog_10_method_7_code
def yX8_spellingsApart : MethodName := ⟨RX8, "spellingsApart", "(II)I"⟩
abbrev cX8_bringSign : ByteArray := prog_10_method_8_code
def yX8_bringSign : MethodName := ⟨RX8, "bringSign", "(II)I"⟩
abbrev cX8_reasonAgainstSign : ByteArray := prog_10_method_9_code
def yX8_reasonAgainstSign : MethodName := ⟨RX8, "reasonAgainstSign", "(II)I"⟩
abbrev cX8_giveDecree : ByteArray := prog_10_method_10_code
def yX8_giveDecree : MethodName := ⟨RX8, "giveDecree", "(IIII)I"⟩
abbrev cX8_takeDecree : ByteArray := prog_10_method_11_code
def yX8_takeDecree : MethodName := ⟨RX8, "takeDecree", "(I)I"⟩
abbrev cX8_reasonAgainstDecree : ByteArray := prog_10_method_12_code
def yX8_reasonAgainstDecree : MethodName := ⟨RX8, "reasonAgainstDecree", "(IIII)I"⟩
abbrev cX8_reasonAgainstPlan : ByteArray := prog_10_method_13_code
def yX8_reasonAgainstPlan : MethodName := ⟨RX8, "reasonAgainstPlan", "()I"⟩
abbrev cX8_counted : ByteArray := prog_10_method_14_code
def yX8_counted : MethodName := ⟨RX8, "counted", "(I)I"⟩
abbrev cX8_repaint : ByteArray := prog_10_method_15_code
def yX8_repaint : MethodName := ⟨RX8, "repaint", "(I)I"⟩
abbrev cX8_passMonths : ByteArray := prog_10_method_16_code
def yX8_passMonths : MethodName := ⟨RX8, "passMonths", "(I)I"⟩
abbrev cX8_fineWrongSigns : ByteArray := prog_10_method_17_code
def yX8_fineWrongSigns : MethodName := ⟨RX8, "fineWrongSigns", "()V"⟩
abbrev cX8_canForgive : ByteArray := prog_10_method_18_code
def yX8_canForgive : MethodName := ⟨RX8, "canForgive", "()Z"⟩
abbrev cX8_forgive : ByteArray := prog_10_method_19_code
def yX8_forgive : MethodName := ⟨RX8, "forgive", "(I)I"⟩
abbrev cX8_signsPaidBy : ByteArray := prog_10_method_20_code
def yX8_signsPaidBy : MethodName := ⟨RX8, "signsPaidBy", "(I)I"⟩
abbrev cX8_monthsTillFinesAreMore : ByteArray := prog_10_method_21_code
def yX8_monthsTillFinesAreMore : MethodName := ⟨RX8, "monthsTillFinesAreMore", "(I)I"⟩
abbrev cX8_wrongSigns : ByteArray := prog_10_method_22_code
def yX8_wrongSigns : MethodName := ⟨RX8, "wrongSigns", "()I"⟩
abbrev cX8_allFines : ByteArray := prog_10_method_23_code
def yX8_allFines : MethodName := ⟨RX8, "allFines", "()I"⟩
abbrev cX8_lettersOfRights : ByteArray := prog_10_method_24_code
def yX8_lettersOfRights : MethodName := ⟨RX8, "lettersOfRights", "()I"⟩
abbrev cX8_lettersOf : ByteArray := prog_10_method_25_code
def yX8_lettersOf : MethodName := ⟨RX8, "lettersOf", "([I)I"⟩
abbrev cX8_costOfAll : ByteArray := prog_10_method_26_code
def yX8_costOfAll : MethodName := ⟨RX8, "costOfAll", "()I"⟩
abbrev cX8_signsOfGuild : ByteArray := prog_10_method_27_code
def yX8_signsOfGuild : MethodName := ⟨RX8, "signsOfGuild", "(IZ)I"⟩
abbrev cX8_sum : ByteArray := prog_10_method_28_code
def yX8_sum : MethodName := ⟨RX8, "sum", "([I)I"⟩
abbrev cX8_numberOfTown : ByteArray := prog_10_method_29_code
def yX8_numberOfTown : MethodName := ⟨RX8, "numberOfTown", "(I)I"⟩
abbrev cX8_numberOfSign : ByteArray := prog_10_method_30_code
def yX8_numberOfSign : MethodName := ⟨RX8, "numberOfSign", "(II)I"⟩
abbrev cX8_numberOfGuild : ByteArray := prog_10_method_31_code
def yX8_numberOfGuild : MethodName := ⟨RX8, "numberOfGuild", "(II)I"⟩
def RX9 : String := "SignReforms$Words"
def TX9 : u_T := fun k => match k with
  | _ => ("", "", "", false)
def tyX9 : Nat → FieldType := fun k => match k with
  | _ => .int
abbrev wsX90 : List Cond := u_ws RX9 TX9 0
theorem nmX9 : ∀ a, a < 0 → ∀ b, b < 0 → a ≠ b → (TX9 a).2.1 ≠ (TX9 b).2.1 := by decide +kernel
theorem tyX9_ok : ∀ k, k < 0 → parseFieldDescriptor (TX9 k).2.2.1 = some (tyX9 k) := by decide +kernel
abbrev cX9_isLetter : ByteArray := prog_11_method_2_code
def yX9_isLetter : MethodName := ⟨RX9, "isLetter", "(I)Z"⟩
abbrev cX9_isWord : ByteArray := prog_11_method_3_code
def yX9_isWord : MethodName := ⟨RX9, "isWord", "(I)Z"⟩
abbrev cX9_letters : ByteArray := prog_11_method_4_code
def yX9_letters : MethodName := ⟨RX9, "letters", "(I)I"⟩
abbrev cX9_mirrored : ByteArray := prog_11_method_5_code
def yX9_mirrored : MethodName := ⟨RX9, "mirrored", "(I)I"⟩
abbrev cX9_decreed : ByteArray := prog_11_method_6_code
def yX9_decreed : MethodName := ⟨RX9, "decreed", "(IIIII)I"⟩
abbrev cX9_dropped : ByteArray := prog_11_method_7_code
def yX9_dropped : MethodName := ⟨RX9, "dropped", "(II)I"⟩
abbrev cX9_joined : ByteArray := prog_11_method_8_code
def yX9_joined : MethodName := ⟨RX9, "joined", "(IIII)I"⟩
abbrev cX9_single : ByteArray := prog_11_method_9_code
def yX9_single : MethodName := ⟨RX9, "single", "(II)I"⟩
def RX10 : String := "SignReforms"
def TX10 : u_T := fun k => match k with
  | 0 => ("SignReforms", "text", "LSignReforms$ReformText;", true)
  | 1 => ("SignReforms", "town", "LSignReforms$Town;", true)
  | 2 => ("SignReforms", "draft", "LSignReforms$Town;", true)
  | _ => ("SignReforms", "memory", "LSignReforms$Memory;", true)
def tyX10 : Nat → FieldType := fun k => match k with
  | 0 => .object "SignReforms$ReformText"
  | 1 => .object "SignReforms$Town"
  | 2 => .object "SignReforms$Town"
  | _ => .object "SignReforms$Memory"
abbrev wsX100 : List Cond := u_ws RX10 TX10 4
theorem nmX10 : ∀ a, a < 4 → ∀ b, b < 4 → a ≠ b → (TX10 a).2.1 ≠ (TX10 b).2.1 := by decide +kernel
theorem tyX10_ok : ∀ k, k < 4 → parseFieldDescriptor (TX10 k).2.2.1 = some (tyX10 k) := by decide +kernel
abbrev cX10_init : ByteArray := prog_1_method_1_code
def yX10_init : MethodName := ⟨RX10, "<init>", "()V"⟩
abbrev cX10_append : ByteArray := prog_1_method_2_code
def yX10_append : MethodName := ⟨RX10, "append", "(I)I"⟩
abbrev cX10_clearText : ByteArray := prog_1_method_3_code
def yX10_clearText : MethodName := ⟨RX10, "clearText", "()I"⟩
abbrev cX10_errorPosition : ByteArray := prog_1_method_4_code
def yX10_errorPosition : MethodName := ⟨RX10, "errorPosition", "()I"⟩
abbrev cX10_load : ByteArray := prog_1_method_5_code
def yX10_load : MethodName := ⟨RX10, "load", "()I"⟩
abbrev cX10_doneInTown : ByteArray := prog_1_method_6_code
def yX10_doneInTown : MethodName := ⟨RX10, "doneInTown", "()Z"⟩
abbrev cX10_about : ByteArray := prog_1_method_7_code
def yX10_about : MethodName := ⟨RX10, "about", "(I)I"⟩
abbrev cX10_signOf : ByteArray := prog_1_method_8_code
def yX10_signOf : MethodName := ⟨RX10, "signOf", "(II)I"⟩
abbrev cX10_decreeOf : ByteArray := prog_1_method_9_code
def yX10_decreeOf : MethodName := ⟨RX10, "decreeOf", "(II)I"⟩
abbrev cX10_guildOf : ByteArray := prog_1_method_10_code
def yX10_guildOf : MethodName := ⟨RX10, "guildOf", "(II)I"⟩
abbrev cX10_right : ByteArray := prog_1_method_11_code
def yX10_right : MethodName := ⟨RX10, "right", "(II)I"⟩
abbrev cX10_setting : ByteArray := prog_1_method_12_code
def yX10_setting : MethodName := ⟨RX10, "setting", "(I)I"⟩
abbrev cX10_sign : ByteArray := prog_1_method_13_code
def yX10_sign : MethodName := ⟨RX10, "sign", "(II)I"⟩
abbrev cX10_decree : ByteArray := prog_1_method_14_code
def yX10_decree : MethodName := ⟨RX10, "decree", "(IIII)I"⟩
abbrev cX10_revoke : ByteArray := prog_1_method_15_code
def yX10_revoke : MethodName := ⟨RX10, "revoke", "(I)I"⟩
abbrev cX10_paint : ByteArray := prog_1_method_16_code
def yX10_paint : MethodName := ⟨RX10, "paint", "(I)I"⟩
abbrev cX10_months : ByteArray := prog_1_method_17_code
def yX10_months : MethodName := ⟨RX10, "months", "(I)I"⟩
abbrev cX10_amnesty : ByteArray := prog_1_method_18_code
def yX10_amnesty : MethodName := ⟨RX10, "amnesty", "(I)I"⟩
abbrev cX10_set : ByteArray := prog_1_method_19_code
def yX10_set : MethodName := ⟨RX10, "set", "(II)I"⟩
abbrev cX10_undo : ByteArray := prog_1_method_20_code
def yX10_undo : MethodName := ⟨RX10, "undo", "()I"⟩
abbrev cX10_why : ByteArray := prog_1_method_21_code
def yX10_why : MethodName := ⟨RX10, "why", "(IIII)I"⟩
abbrev cX10_droppable : ByteArray := prog_1_method_22_code
def yX10_droppable : MethodName := ⟨RX10, "droppable", "()I"⟩
abbrev cX10_apart : ByteArray := prog_1_method_23_code
def yX10_apart : MethodName := ⟨RX10, "apart", "(II)I"⟩
abbrev cX10_payable : ByteArray := prog_1_method_24_code
def yX10_payable : MethodName := ⟨RX10, "payable", "(I)I"⟩
abbrev cX10_worthIn : ByteArray := prog_1_method_25_code
def yX10_worthIn : MethodName := ⟨RX10, "worthIn", "(I)I"⟩
abbrev cX10_runScript : ByteArray := prog_1_method_26_code
def yX10_runScript : MethodName := ⟨RX10, "runScript", "(IJ)I"⟩
abbrev cX10_simulate : ByteArray := prog_1_method_27_code
def yX10_simulate : MethodName := ⟨RX10, "simulate", "(JI)I"⟩
abbrev cX10_save : ByteArray := prog_1_method_28_code
def yX10_save : MethodName := ⟨RX10, "save", "(I)I"⟩
abbrev cX10_restore : ByteArray := prog_1_method_29_code
def yX10_restore : MethodName := ⟨RX10, "restore", "(I)I"⟩
abbrev cX10_requireSign : ByteArray := prog_1_method_30_code
def yX10_requireSign : MethodName := ⟨RX10, "requireSign", "(I)V"⟩
abbrev cX10_requireDecree : ByteArray := prog_1_method_31_code
def yX10_requireDecree : MethodName := ⟨RX10, "requireDecree", "(I)V"⟩
abbrev cX10_requireGuild : ByteArray := prog_1_method_32_code
def yX10_requireGuild : MethodName := ⟨RX10, "requireGuild", "(I)V"⟩
abbrev cX10_requireSlot : ByteArray := prog_1_method_33_code
def yX10_requireSlot : MethodName := ⟨RX10, "requireSlot", "(I)V"⟩
abbrev cX10_requireSetting : ByteArray := prog_1_method_34_code
def yX10_requireSetting : MethodName := ⟨RX10, "requireSetting", "(I)V"⟩
abbrev cX10_requireDecreeArguments : ByteArray := prog_1_method_35_code
def yX10_requireDecreeArguments : MethodName := ⟨RX10, "requireDecreeArguments", "(IIII)V"⟩
def RX11 : String := "SignReformsModel"
def TX11 : u_T := fun k => match k with
  | 0 => ("SignReformsModel", "thrown", "I", false)
  | 1 => ("SignReformsModel", "s", "[I", true)
  | 2 => ("SignReformsModel", "aside", "[I", true)
  | 3 => ("SignReformsModel", "history", "[I", true)
  | 4 => ("SignReformsModel", "known", "I", false)
  | 5 => ("SignReformsModel", "slots", "[I", true)
  | 6 => ("SignReformsModel", "kept", "I", false)
  | 7 => ("SignReformsModel", "text", "[I", true)
  | 8 => ("SignReformsModel", "length", "I", false)
  | 9 => ("SignReformsModel", "table", "[I", true)
  | 10 => ("SignReformsModel", "decrees", "[I", true)
  | 11 => ("SignReformsModel", "letter", "I", false)
  | 12 => ("SignReformsModel", "first", "I", false)
  | 13 => ("SignReformsModel", "second", "I", false)
  | 14 => ("SignReformsModel", "third", "I", false)
  | 15 => ("SignReformsModel", "spot", "I", false)
  | 16 => ("SignReformsModel", "isBad", "Z", false)
  | _ => ("SignReformsModel", "words", "[I", true)
def tyX11 : Nat → FieldType := fun k => match k with
  | 0 => .int
  | 1 => .array .int
  | 2 => .array .int
  | 3 => .array .int
  | 4 => .int
  | 5 => .array .int
  | 6 => .int
  | 7 => .array .int
  | 8 => .int
  | 9 => .array .int
  | 10 => .array .int
  | 11 => .int
  | 12 => .int
  | 13 => .int
  | 14 => .int
  | 15 => .int
  | 16 => .boolean
  | _ => .array .int
abbrev wsX110 : List Cond := u_ws RX11 TX11 18
theorem nmX11 : ∀ a, a < 18 → ∀ b, b < 18 → a ≠ b → (TX11 a).2.1 ≠ (TX11 b).2.1 := by decide +kernel
theorem tyX11_ok : ∀ k, k < 18 → parseFieldDescriptor (TX11 k).2.2.1 = some (tyX11 k) := by decide +kernel
abbrev cX11_init : ByteArray := prog_13_method_1_code
def yX11_init : MethodName := ⟨RX11, "<init>", "()V"⟩
abbrev cX11_thrown : ByteArray := prog_13_method_2_code
def yX11_thrown : MethodName := ⟨RX11, "thrown", "()I"⟩
abbrev cX11_in : ByteArray := prog_13_method_3_code
def yX11_in : MethodName := ⟨RX11, "in", "(III)Z"⟩
abbrev cX11_holds : ByteArray := prog_13_method_4_code
def yX11_holds : MethodName := ⟨RX11, "holds", "(I)Z"⟩
abbrev cX11_begins : ByteArray := prog_13_method_5_code
def yX11_begins : MethodName := ⟨RX11, "begins", "()V"⟩
abbrev cX11_of : ByteArray := prog_13_method_6_code
def yX11_of : MethodName := ⟨RX11, "of", "(II)I"⟩
abbrev cX11_ofDecree : ByteArray := prog_13_method_7_code
def yX11_ofDecree : MethodName := ⟨RX11, "ofDecree", "(II)I"⟩
abbrev cX11_isSign : ByteArray := prog_13_method_8_code
def yX11_isSign : MethodName := ⟨RX11, "isSign", "(I)Z"⟩
abbrev cX11_isDecree : ByteArray := prog_13_method_9_code
def yX11_isDecree : MethodName := ⟨RX11, "isDecree", "(I)Z"⟩
abbrev cX11_isLetter : ByteArray := prog_13_method_10_code
def yX11_isLetter : MethodName := ⟨RX11, "isLetter", "(I)Z"⟩
abbrev cX11_isWord : ByteArray := prog_13_method_11_code
def yX11_isWord : MethodName := ⟨RX11, "isWord", "(I)Z"⟩
abbrev cX11_remember : ByteArray := prog_13_method_12_code
def yX11_remember : MethodName := ⟨RX11, "remember", "()V"⟩
abbrev cX11_putAside : ByteArray := prog_13_method_13_code
def yX11_putAside : MethodName := ⟨RX11, "putAside", "()V"⟩
abbrev cX11_putBack : ByteArray := prog_13_method_14_code
def yX11_putBack : MethodName := ⟨RX11, "putBack", "()V"⟩
abbrev cX11_lettersOf : ByteArray := prog_13_method_15_code
def yX11_lettersOf : MethodName := ⟨RX11, "lettersOf", "(I)I"⟩
abbrev cX11_letterAt : ByteArray := prog_13_method_16_code
def yX11_letterAt : MethodName := ⟨RX11, "letterAt", "(II)I"⟩
abbrev cX11_made : ByteArray := prog_13_method_17_code
def yX11_made : MethodName := ⟨RX11, "made", "(II)I"⟩
abbrev cX11_spelled : ByteArray := prog_13_method_18_code
def yX11_spelled : MethodName := ⟨RX11, "spelled", "(I)I"⟩
abbrev cX11_rightOf : ByteArray := prog_13_method_19_code
def yX11_rightOf : MethodName := ⟨RX11, "rightOf", "(I)I"⟩
abbrev cX11_hindrance : ByteArray := prog_13_method_20_code
def yX11_hindrance : MethodName := ⟨RX11, "hindrance", "()I"⟩
abbrev cX11_lesser : ByteArray := prog_13_method_21_code
def yX11_lesser : MethodName := ⟨RX11, "lesser", "(II)I"⟩
abbrev cX11_apartOf : ByteArray := prog_13_method_22_code
def yX11_apartOf : MethodName := ⟨RX11, "apartOf", "(II)I"⟩
abbrev cX11_apartBy : ByteArray := prog_13_method_23_code
def yX11_apartBy : MethodName := ⟨RX11, "apartBy", "(I)I"⟩
abbrev cX11_isWrong : ByteArray := prog_13_method_24_code
def yX11_isWrong : MethodName := ⟨RX11, "isWrong", "(I)Z"⟩
abbrev cX11_costOf : ByteArray := prog_13_method_25_code
def yX11_costOf : MethodName := ⟨RX11, "costOf", "(I)I"⟩
abbrev cX11_wrongs : ByteArray := prog_13_method_26_code
def yX11_wrongs : MethodName := ⟨RX11, "wrongs", "()I"⟩
abbrev cX11_comes : ByteArray := prog_13_method_27_code
def yX11_comes : MethodName := ⟨RX11, "comes", "(II)I"⟩
abbrev cX11_putsDecree : ByteArray := prog_13_method_28_code
def yX11_putsDecree : MethodName := ⟨RX11, "putsDecree", "(IIII)V"⟩
abbrev cX11_keepsDecrees : ByteArray := prog_13_method_29_code
def yX11_keepsDecrees : MethodName := ⟨RX11, "keepsDecrees", "()V"⟩
abbrev cX11_restoresDecrees : ByteArray := prog_13_method_30_code
def yX11_restoresDecrees : MethodName := ⟨RX11, "restoresDecrees", "()V"⟩
abbrev cX11_gives : ByteArray := prog_13_method_31_code
def yX11_gives : MethodName := ⟨RX11, "gives", "(IIII)I"⟩
abbrev cX11_revokes : ByteArray := prog_13_method_32_code
def yX11_revokes : MethodName := ⟨RX11, "revokes", "(I)I"⟩
abbrev cX11_paints : ByteArray := prog_13_method_33_code
def yX11_paints : MethodName := ⟨RX11, "paints", "(I)I"⟩
abbrev cX11_goesOn : ByteArray := prog_13_method_34_code
def yX11_goesOn : MethodName := ⟨RX11, "goesOn", "(I)I"⟩
abbrev cX11_spares : ByteArray := prog_13_method_35_code
def yX11_spares : MethodName := ⟨RX11, "spares", "(I)I"⟩
abbrev cX11_errorOfSign : ByteArray := prog_13_method_36_code
def yX11_errorOfSign : MethodName := ⟨RX11, "errorOfSign", "(II)I"⟩
abbrev cX11_areArguments : ByteArray := prog_13_method_37_code
def yX11_areArguments : MethodName := ⟨RX11, "areArguments", "(IIII)Z"⟩
abbrev cX11_errorOfDecree : ByteArray := prog_13_method_38_code
def yX11_errorOfDecree : MethodName := ⟨RX11, "errorOfDecree", "(IIII)I"⟩
abbrev cX11_errorOfAmnesty : ByteArray := prog_13_method_39_code
def yX11_errorOfAmnesty : MethodName := ⟨RX11, "errorOfAmnesty", "(I)I"⟩
abbrev cX11_does : ByteArray := prog_13_method_40_code
def yX11_does : MethodName := ⟨RX11, "does", "()I"⟩
abbrev cX11_hasReasons : ByteArray := prog_13_method_41_code
def yX11_hasReasons : MethodName := ⟨RX11, "hasReasons", "()Z"⟩
abbrev cX11_append : ByteArray := prog_13_method_42_code
def yX11_append : MethodName := ⟨RX11, "append", "(I)I"⟩
abbrev cX11_clearText : ByteArray := prog_13_method_43_code
def yX11_clearText : MethodName := ⟨RX11, "clearText", "()I"⟩
abbrev cX11_isNext : ByteArray := prog_13_method_44_code
def yX11_isNext : MethodName := ⟨RX11, "isNext", "(II)Z"⟩
abbrev cX11_takes : ByteArray := prog_13_method_45_code
def yX11_takes : MethodName := ⟨RX11, "takes", "(II)I"⟩
abbrev cX11_readWord : ByteArray := prog_13_method_46_code
def yX11_readWord : MethodName := ⟨RX11, "readWord", "()I"⟩
abbrev cX11_readMonths : ByteArray := prog_13_method_47_code
def yX11_readMonths : MethodName := ⟨RX11, "readMonths", "()I"⟩
abbrev cX11_readCommand : ByteArray := prog_13_method_48_code
def yX11_readCommand : MethodName := ⟨RX11, "readCommand", "()V"⟩
abbrev cX11_goesThrough : ByteArray := prog_13_method_49_code
def yX11_goesThrough : MethodName := ⟨RX11, "goesThrough", "(Z)I"⟩
abbrev cX11_errorPosition : ByteArray := prog_13_method_50_code
def yX11_errorPosition : MethodName := ⟨RX11, "errorPosition", "()I"⟩
abbrev cX11_load : ByteArray := prog_13_method_51_code
def yX11_load : MethodName := ⟨RX11, "load", "()I"⟩
abbrev cX11_sumOf : ByteArray := prog_13_method_52_code
def yX11_sumOf : MethodName := ⟨RX11, "sumOf", "(I)I"⟩
abbrev cX11_told : ByteArray := prog_13_method_53_code
def yX11_told : MethodName := ⟨RX11, "told", "(I)I"⟩
abbrev cX11_about : ByteArray := prog_13_method_54_code
def yX11_about : MethodName := ⟨RX11, "about", "(I)I"⟩
abbrev cX11_ofSign : ByteArray := prog_13_method_55_code
def yX11_ofSign : MethodName := ⟨RX11, "ofSign", "(II)I"⟩
abbrev cX11_signOf : ByteArray := prog_13_method_56_code
def yX11_signOf : MethodName := ⟨RX11, "signOf", "(II)I"⟩
abbrev cX11_decreeOf : ByteArray := prog_13_method_57_code
def yX11_decreeOf : MethodName := ⟨RX11, "decreeOf", "(II)I"⟩
abbrev cX11_ofGuild : ByteArray := prog_13_method_58_code
def yX11_ofGuild : MethodName := ⟨RX11, "ofGuild", "(II)I"⟩
abbrev cX11_guildOf : ByteArray := prog_13_method_59_code
def yX11_guildOf : MethodName := ⟨RX11, "guildOf", "(II)I"⟩
abbrev cX11_right : ByteArray := prog_13_method_60_code
def yX11_right : MethodName := ⟨RX11, "right", "(II)I"⟩
abbrev cX11_setting : ByteArray := prog_13_method_61_code
def yX11_setting : MethodName := ⟨RX11, "setting", "(I)I"⟩
abbrev cX11_acts : ByteArray := prog_13_method_62_code
def yX11_acts : MethodName := ⟨RX11, "acts", "(IIII)I"⟩
abbrev cX11_sign : ByteArray := prog_13_method_63_code
def yX11_sign : MethodName := ⟨RX11, "sign", "(II)I"⟩
abbrev cX11_decree : ByteArray := prog_13_method_64_code
def yX11_decree : MethodName := ⟨RX11, "decree", "(IIII)I"⟩
abbrev cX11_revoke : ByteArray := prog_13_method_65_code
def yX11_revoke : MethodName := ⟨RX11, "revoke", "(I)I"⟩
abbrev cX11_paint : ByteArray := prog_13_method_66_code
def yX11_paint : MethodName := ⟨RX11, "paint", "(I)I"⟩
abbrev cX11_months : ByteArray := prog_13_method_67_code
def yX11_months : MethodName := ⟨RX11, "months", "(I)I"⟩
abbrev cX11_amnesty : ByteArray := prog_13_method_68_code
def yX11_amnesty : MethodName := ⟨RX11, "amnesty", "(I)I"⟩
abbrev cX11_set : ByteArray := prog_13_method_69_code
def yX11_set : MethodName := ⟨RX11, "set", "(II)I"⟩
abbrev cX11_undo : ByteArray := prog_13_method_70_code
def yX11_undo : MethodName := ⟨RX11, "undo", "()I"⟩
abbrev cX11_wouldHinder : ByteArray := prog_13_method_71_code
def yX11_wouldHinder : MethodName := ⟨RX11, "wouldHinder", "(IIII)I"⟩
abbrev cX11_wouldHinderMore : ByteArray := prog_13_method_72_code
def yX11_wouldHinderMore : MethodName := ⟨RX11, "wouldHinderMore", "(IIII)I"⟩
abbrev cX11_why : ByteArray := prog_13_method_73_code
def yX11_why : MethodName := ⟨RX11, "why", "(IIII)I"⟩
abbrev cX11_droppable : ByteArray := prog_13_method_74_code
def yX11_droppable : MethodName := ⟨RX11, "droppable", "()I"⟩
abbrev cX11_apart : ByteArray := prog_13_method_75_code
def yX11_apart : MethodName := ⟨RX11, "apart", "(II)I"⟩
abbrev cX11_paidBy : ByteArray := prog_13_method_76_code
def yX11_paidBy : MethodName := ⟨RX11, "paidBy", "(I)I"⟩
abbrev cX11_payable : ByteArray := prog_13_method_77_code
def yX11_payable : MethodName := ⟨RX11, "payable", "(I)I"⟩
abbrev cX11_worthBehind : ByteArray := prog_13_method_78_code
def yX11_worthBehind : MethodName := ⟨RX11, "worthBehind", "(I)I"⟩
abbrev cX11_worthIn : ByteArray := prog_13_method_79_code
def yX11_worthIn : MethodName := ⟨RX11, "worthIn", "(I)I"⟩
abbrev cX11_succeeds : ByteArray := prog_13_method_80_code
def yX11_succeeds : MethodName := ⟨RX11, "succeeds", "(I)Z"⟩
abbrev cX11_runs : ByteArray := prog_13_method_81_code
def yX11_runs : MethodName := ⟨RX11, "runs", "(IJ)I"⟩
abbrev cX11_runScript : ByteArray := prog_13_method_82_code
def yX11_runScript : MethodName := ⟨RX11, "runScript", "(IJ)I"⟩
abbrev cX11_wordBy : ByteArray := prog_13_method_83_code
def yX11_wordBy : MethodName := ⟨RX11, "wordBy", "(I)I"⟩
abbrev cX11_turns : ByteArray := prog_13_method_84_code
def yX11_turns : MethodName := ⟨RX11, "turns", "(I)I"⟩
abbrev cX11_simulates : ByteArray := prog_13_method_85_code
def yX11_simulates : MethodName := ⟨RX11, "simulates", "(JI)I"⟩
abbrev cX11_simulate : ByteArray := prog_13_method_86_code
def yX11_simulate : MethodName := ⟨RX11, "simulate", "(JI)I"⟩
abbrev cX11_save : ByteArray := prog_13_method_87_code
def yX11_save : MethodName := ⟨RX11, "save", "(I)I"⟩
abbrev cX11_restore : ByteArray := prog_13_method_88_code
def yX11_restore : MethodName := ⟨RX11, "restore", "(I)I"⟩
def RJx145de : String := "java/io/Serializable"
def TJx145de : u_T := fun k => match k with
  | _ => ("", "", "", false)
def tyJx145de : Nat → FieldType := fun k => match k with
  | _ => .int
abbrev wsJx145de0 : List Cond := u_ws RJx145de TJx145de 0
theorem nmJx145de : ∀ a, a < 0 → ∀ b, b < 0 → a ≠ b → (TJx145de a).2.1 ≠ (TJx145de b).2.1 := by decide +kernel
theorem tyJx145de_ok : ∀ k, k < 0 → parseFieldDescriptor (TJx145de k).2.2.1 = some (tyJx145de k) := by decide +kernel
def RJx9f9b0 : String := "java/lang/CharSequence"
def TJx9f9b0 : u_T := fun k => match k with
  | _ => ("", "", "", false)
def tyJx9f9b0 : Nat → FieldType := fun k => match k with
  | _ => .int
abbrev wsJx9f9b00 : List Cond := u_ws RJx9f9b0 TJx9f9b0 0
theorem nmJx9f9b0 : ∀ a, a < 0 → ∀ b, b < 0 → a ≠ b → (TJx9f9b0 a).2.1 ≠ (TJx9f9b0 b).2.1 := by decide +kernel
theorem tyJx9f9b0_ok : ∀ k, k < 0 → parseFieldDescriptor (TJx9f9b0 k).2.2.1 = some (tyJx9f9b0 k) := by decide +kernel
def RJ11 : String := "java/lang/Character"
def TJ11 : u_T := fun k => match k with
  | _ => ("", "", "", false)
def tyJ11 : Nat → FieldType := fun k => match k with
  | _ => .int
abbrev wsJ110 : List Cond := u_ws RJ11 TJ11 0
theorem nmJ11 : ∀ a, a < 0 → ∀ b, b < 0 → a ≠ b → (TJ11 a).2.1 ≠ (TJ11 b).2.1 := by decide +kernel
theorem tyJ11_ok : ∀ k, k < 0 → parseFieldDescriptor (TJ11 k).2.2.1 = some (tyJ11 k) := by decide +kernel
abbrev cJ11_isValidCodePoint_9a6ad : ByteArray := prog_14_method_11_code
def yJ11_isValidCodePoint_9a6ad : MethodName := ⟨RJ11, "isValidCodePoint", "(I)Z"⟩
abbrev cJ11_highSurrogate_5068e : ByteArray := prog_14_method_28_code
def yJ11_highSurrogate_5068e : MethodName := ⟨RJ11, "highSurrogate", "(I)C"⟩
abbrev cJ11_lowSurrogate_5068e : ByteArray := prog_14_method_29_code
def yJ11_lowSurrogate_5068e : MethodName := ⟨RJ11, "lowSurrogate", "(I)C"⟩
def RJxb160c : String := "java/lang/Comparable"
def TJxb160c : u_T := fun k => match k with
  | _ => ("", "", "", false)
def tyJxb160c : Nat → FieldType := fun k => match k with
  | _ => .int
abbrev wsJxb160c0 : List Cond := u_ws RJxb160c TJxb160c 0
theorem nmJxb160c : ∀ a, a < 0 → ∀ b, b < 0 → a ≠ b → (TJxb160c a).2.1 ≠ (TJxb160c b).2.1 := by decide +kernel
theorem tyJxb160c_ok : ∀ k, k < 0 → parseFieldDescriptor (TJxb160c k).2.2.1 = some (tyJxb160c k) := by decide +kernel
def RJ9 : String := "java/lang/Math"
def TJ9 : u_T := fun k => match k with
  | _ => ("", "", "", false)
def tyJ9 : Nat → FieldType := fun k => match k with
  | _ => .int
abbrev wsJ90 : List Cond := u_ws RJ9 TJ9 0
theorem nmJ9 : ∀ a, a < 0 → ∀ b, b < 0 → a ≠ b → (TJ9 a).2.1 ≠ (TJ9 b).2.1 := by decide +kernel
theorem tyJ9_ok : ∀ k, k < 0 → parseFieldDescriptor (TJ9 k).2.2.1 = some (tyJ9 k) := by decide +kernel
abbrev cJ9_max_7cf53 : ByteArray := prog_19_method_65_code
def yJ9_max_7cf53 : MethodName := ⟨RJ9, "max", "(II)I"⟩
abbrev cJ9_min_7cf53 : ByteArray := prog_19_method_69_code
def yJ9_min_7cf53 : MethodName := ⟨RJ9, "min", "(II)I"⟩
def RJ0 : String := "java/lang/String"
def TJ0 : u_T := fun k => match k with
  | _ => ("", "", "", false)
def tyJ0 : Nat → FieldType := fun k => match k with
  | _ => .int
abbrev wsJ00 : List Cond := u_ws RJ0 TJ0 0
theorem nmJ0 : ∀ a, a < 0 → ∀ b, b < 0 → a ≠ b → (TJ0 a).2.1 ≠ (TJ0 b).2.1 := by decide +kernel
theorem tyJ0_ok : ∀ k, k < 0 → parseFieldDescriptor (TJ0 k).2.2.1 = some (tyJ0 k) := by decide +kernel
abbrev cJ0_length_8abf5 : ByteArray := prog_21_method_54_code
def yJ0_length_8abf5 : MethodName := ⟨RJ0, "length", "()I"⟩
abbrev cJ0_indexOf_0f7a4 : ByteArray := prog_21_method_79_code
def yJ0_indexOf_0f7a4 : MethodName := ⟨RJ0, "indexOf", "(I)I"⟩
abbrev cJ0_indexOf_7cf53 : ByteArray := prog_21_method_80_code
def yJ0_indexOf_7cf53 : MethodName := ⟨RJ0, "indexOf", "(II)I"⟩
abbrev cJ0_coder_7d493 : ByteArray := prog_21_method_152_code
def yJ0_coder_7d493 : MethodName := ⟨RJ0, "coder", "()B"⟩
abbrev cJ0_isLatin1_aae02 : ByteArray := prog_21_method_154_code
def yJ0_isLatin1_aae02 : MethodName := ⟨RJ0, "isLatin1", "()Z"⟩
abbrev cJ0_checkBoundsBeginEnd_23922 : ByteArray := prog_21_method_158_code
def yJ0_checkBoundsBeginEnd_23922 : MethodName := ⟨RJ0, "checkBoundsBeginEnd", "(III)V"⟩
def RJ1 : String := "java/lang/StringLatin1"
def TJ1 : u_T := fun k => match k with
  | _ => ("", "", "", false)
def tyJ1 : Nat → FieldType := fun k => match k with
  | _ => .int
abbrev wsJ10 : List Cond := u_ws RJ1 TJ1 0
theorem nmJ1 : ∀ a, a < 0 → ∀ b, b < 0 → a ≠ b → (TJ1 a).2.1 ≠ (TJ1 b).2.1 := by decide +kernel
theorem tyJ1_ok : ∀ k, k < 0 → parseFieldDescriptor (TJ1 k).2.2.1 = some (tyJ1 k) := by decide +kernel
abbrev cJ1_canEncode_9a6ad : ByteArray := prog_22_method_4_code
def yJ1_canEncode_9a6ad : MethodName := ⟨RJ1, "canEncode", "(I)Z"⟩
abbrev cJ1_indexOf_4cfef : ByteArray := prog_22_method_22_code
def yJ1_indexOf_4cfef : MethodName := ⟨RJ1, "indexOf", "([BIII)I"⟩
abbrev cJ1_indexOfChar_4cfef : ByteArray := prog_22_method_23_code
def yJ1_indexOfChar_4cfef : MethodName := ⟨RJ1, "indexOfChar", "([BIII)I"⟩
def RJ2 : String := "java/lang/StringUTF16"
def TJ2 : u_T := fun k => match k with
  | _ => ("", "", "", false)
def tyJ2 : Nat → FieldType := fun k => match k with
  | _ => .int
abbrev wsJ20 : List Cond := u_ws RJ2 TJ2 0
theorem nmJ2 : ∀ a, a < 0 → ∀ b, b < 0 → a ≠ b → (TJ2 a).2.1 ≠ (TJ2 b).2.1 := by decide +kernel
theorem tyJ2_ok : ∀ k, k < 0 → parseFieldDescriptor (TJ2 k).2.2.1 = some (tyJ2 k) := by decide +kernel
abbrev cJ2_getChar_3b067 : ByteArray := prog_23_method_5_code
def yJ2_getChar_3b067 : MethodName := ⟨RJ2, "getChar", "([BI)C"⟩
abbrev cJ2_length_9d52b : ByteArray := prog_23_method_6_code
def yJ2_length_9d52b : MethodName := ⟨RJ2, "length", "([B)I"⟩
abbrev cJ2_indexOf_4cfef : ByteArray := prog_23_method_40_code
def yJ2_indexOf_4cfef : MethodName := ⟨RJ2, "indexOf", "([BIII)I"⟩
abbrev cJ2_indexOfChar_4cfef : ByteArray := prog_23_method_47_code
def yJ2_indexOfChar_4cfef : MethodName := ⟨RJ2, "indexOfChar", "([BIII)I"⟩
abbrev cJ2_indexOfCharUnsafe_4cfef : ByteArray := prog_23_method_48_code
def yJ2_indexOfCharUnsafe_4cfef : MethodName := ⟨RJ2, "indexOfCharUnsafe", "([BIII)I"⟩
abbrev cJ2_indexOfSupplementary_4cfef : ByteArray := prog_23_method_49_code
def yJ2_indexOfSupplementary_4cfef : MethodName := ⟨RJ2, "indexOfSupplementary", "([BIII)I"⟩
abbrev cJ2_checkBoundsBeginEnd_d044e : ByteArray := prog_23_method_93_code
def yJ2_checkBoundsBeginEnd_d044e : MethodName := ⟨RJ2, "checkBoundsBeginEnd", "(II[B)V"⟩
def RJ10 : String := "java/lang/System"
def TJ10 : u_T := fun k => match k with
  | _ => ("", "", "", false)
def tyJ10 : Nat → FieldType := fun k => match k with
  | _ => .int
abbrev wsJ100 : List Cond := u_ws RJ10 TJ10 0
theorem nmJ10 : ∀ a, a < 0 → ∀ b, b < 0 → a ≠ b → (TJ10 a).2.1 ≠ (TJ10 b).2.1 := by decide +kernel
theorem tyJ10_ok : ∀ k, k < 0 → parseFieldDescriptor (TJ10 k).2.2.1 = some (tyJ10 k) := by decide +kernel
def RJxfd54e : String := "java/lang/constant/Constable"
def TJxfd54e : u_T := fun k => match k with
  | _ => ("", "", "", false)
def tyJxfd54e : Nat → FieldType := fun k => match k with
  | _ => .int
abbrev wsJxfd54e0 : List Cond := u_ws RJxfd54e TJxfd54e 0
theorem nmJxfd54e : ∀ a, a < 0 → ∀ b, b < 0 → a ≠ b → (TJxfd54e a).2.1 ≠ (TJxfd54e b).2.1 := by decide +kernel
theorem tyJxfd54e_ok : ∀ k, k < 0 → parseFieldDescriptor (TJxfd54e k).2.2.1 = some (tyJxfd54e k) := by decide +kernel
def RJx3cf43 : String := "java/lang/constant/ConstantDesc"
def TJx3cf43 : u_T := fun k => match k with
  | _ => ("", "", "", false)
def tyJx3cf43 : Nat → FieldType := fun k => match k with
  | _ => .int
abbrev wsJx3cf430 : List Cond := u_ws RJx3cf43 TJx3cf43 0
theorem nmJx3cf43 : ∀ a, a < 0 → ∀ b, b < 0 → a ≠ b → (TJx3cf43 a).2.1 ≠ (TJx3cf43 b).2.1 := by decide +kernel
theorem tyJx3cf43_ok : ∀ k, k < 0 → parseFieldDescriptor (TJx3cf43 k).2.2.1 = some (tyJx3cf43 k) := by decide +kernel
def RJ7 : String := "java/util/Arrays"
def TJ7 : u_T := fun k => match k with
  | _ => ("", "", "", false)
def tyJ7 : Nat → FieldType := fun k => match k with
  | _ => .int
abbrev wsJ70 : List Cond := u_ws RJ7 TJ7 0
theorem nmJ7 : ∀ a, a < 0 → ∀ b, b < 0 → a ≠ b → (TJ7 a).2.1 ≠ (TJ7 b).2.1 := by decide +kernel
theorem tyJ7_ok : ∀ k, k < 0 → parseFieldDescriptor (TJ7 k).2.2.1 = some (tyJ7 k) := by decide +kernel
abbrev cJ7_fill_53178 : ByteArray := prog_26_method_103_code
def yJ7_fill_53178 : MethodName := ⟨RJ7, "fill", "([II)V"⟩
abbrev cJ7_fill_49daa : ByteArray := prog_26_method_111_code
def yJ7_fill_49daa : MethodName := ⟨RJ7, "fill", "([ZZ)V"⟩
def RJ3 : String := "jdk/internal/util/Preconditions"
def TJ3 : u_T := fun k => match k with
  | _ => ("", "", "", false)
def tyJ3 : Nat → FieldType := fun k => match k with
  | _ => .int
abbrev wsJ30 : List Cond := u_ws RJ3 TJ3 0
theorem nmJ3 : ∀ a, a < 0 → ∀ b, b < 0 → a ≠ b → (TJ3 a).2.1 ≠ (TJ3 b).2.1 := by decide +kernel
theorem tyJ3_ok : ∀ k, k < 0 → parseFieldDescriptor (TJ3 k).2.2.1 = some (tyJ3 k) := by decide +kernel
abbrev cJ3_checkFromToIndex_8c36e : ByteArray := prog_27_method_12_code
def yJ3_checkFromToIndex_8c36e : MethodName := ⟨RJ3, "checkFromToIndex", "(IIILjava/util/function/BiFunction;)I"⟩
def RL : String := "SignReformsLaw"
abbrev cL_append : ByteArray := method_3_code
def yL_append : MethodName := ⟨RL, "append", "(LSignReforms;I[J)I"⟩
abbrev cL_load : ByteArray := method_4_code
def yL_load : MethodName := ⟨RL, "load", "(LSignReforms;[J)I"⟩
abbrev cL_about : ByteArray := method_5_code
def yL_about : MethodName := ⟨RL, "about", "(LSignReforms;I[J)I"⟩
abbrev cL_signOf : ByteArray := method_6_code
def yL_signOf : MethodName := ⟨RL, "signOf", "(LSignReforms;II[J)I"⟩
abbrev cL_decreeOf : ByteArray := method_7_code
def yL_decreeOf : MethodName := ⟨RL, "decreeOf", "(LSignReforms;II[J)I"⟩
abbrev cL_guildOf : ByteArray := method_8_code
def yL_guildOf : MethodName := ⟨RL, "guildOf", "(LSignReforms;II[J)I"⟩
abbrev cL_right : ByteArray := method_9_code
def yL_right : MethodName := ⟨RL, "right", "(LSignReforms;II[J)I"⟩
abbrev cL_setting : ByteArray := method_10_code
def yL_setting : MethodName := ⟨RL, "setting", "(LSignReforms;I[J)I"⟩
abbrev cL_sign : ByteArray := method_11_code
def yL_sign : MethodName := ⟨RL, "sign", "(LSignReforms;II[J)I"⟩
abbrev cL_decree : ByteArray := method_12_code
def yL_decree : MethodName := ⟨RL, "decree", "(LSignReforms;IIII[J)I"⟩
abbrev cL_revoke : ByteArray := method_13_code
def yL_revoke : MethodName := ⟨RL, "revoke", "(LSignReforms;I[J)I"⟩
abbrev cL_paint : ByteArray := method_14_code
def yL_paint : MethodName := ⟨RL, "paint", "(LSignReforms;I[J)I"⟩
abbrev cL_months : ByteArray := method_15_code
def yL_months : MethodName := ⟨RL, "months", "(LSignReforms;I[J)I"⟩
abbrev cL_amnesty : ByteArray := method_16_code
def yL_amnesty : MethodName := ⟨RL, "amnesty", "(LSignReforms;I[J)I"⟩
abbrev cL_set : ByteArray := method_17_code
def yL_set : MethodName := ⟨RL, "set", "(LSignReforms;II[J)I"⟩
abbrev cL_undo : ByteArray := method_18_code
def yL_undo : MethodName := ⟨RL, "undo", "(LSignReforms;[J)I"⟩
abbrev cL_why : ByteArray := method_19_code
def yL_why : MethodName := ⟨RL, "why", "(LSignReforms;IIII[J)I"⟩
abbrev cL_apart : ByteArray := method_20_code
def yL_apart : MethodName := ⟨RL, "apart", "(LSignReforms;II[J)I"⟩
abbrev cL_payable : ByteArray := method_21_code
def yL_payable : MethodName := ⟨RL, "payable", "(LSignReforms;I[J)I"⟩
abbrev cL_worthIn : ByteArray := method_22_code
def yL_worthIn : MethodName := ⟨RL, "worthIn", "(LSignReforms;I[J)I"⟩
abbrev cL_runScript : ByteArray := method_23_code
def yL_runScript : MethodName := ⟨RL, "runScript", "(LSignReforms;IJ[J)I"⟩
abbrev cL_simulate : ByteArray := method_24_code
def yL_simulate : MethodName := ⟨RL, "simulate", "(LSignReforms;JI[J)I"⟩
abbrev cL_save : ByteArray := method_25_code
def yL_save : MethodName := ⟨RL, "save", "(LSignReforms;I[J)I"⟩
abbrev cL_restore : ByteArray := method_26_code
def yL_restore : MethodName := ⟨RL, "restore", "(LSignReforms;I[J)I"⟩
abbrev cL_law : ByteArray := code
def yL_law : MethodName := ⟨RL, "law", "([I)Z"⟩
end
section
/-! THE FRAME: an own judgement KK over a memory of ints. The world is a pool of objects, numbered 0, 1, .. from the address B.1 on; L says how many there are, of which kind, how long the arrays are, and what the fields and elements that are references hold; the memory M holds what is a number. -/
def GT : List Cond := lw_tbl.filter goodWord
theorem gt_in {w : Cond} (i : Nat) (h : lw_tbl[i]? = some w) (hg : goodWord w = true) : w ∈ GT := List.mem_filter.mpr ⟨List.mem_of_getElem? h, hg⟩
theorem gt_good {w : Cond} (h : w ∈ GT) : (w.onTables && w.keeps) = true ∨ ∃ ty, w = .arrayClass ty := good_of_word (List.mem_filter.mp h).2
abbrev kCl : List vw_C := [(RX0, TX0, 2), (RX1, TX1, 1), (RX2, TX2, 5), (RX3, TX3, 6), (RX4, TX4, 1), (RX7, TX7, 15), (RX8, TX8, 4), (RX10, TX10, 4), (RX11, TX11, 18)]
abbrev KMem : Type := Nat → Nat → Int32
abbrev KLay : Type := Nat × (Nat → Nat) × (Nat → Nat) × (Nat → Nat → Option Nat)
abbrev KB : Type := Nat × va_G × (ClassId × ClassId × ClassId × ClassId) × Bool
abbrev KX : Type := Program × Launch × Env × Room × State × MethodId × Array Value × List Frame × Method × Code × (State → Prop)
abbrev xP (X : KX) : Program := X.1
abbrev xL (X : KX) : Launch := X.2.1
abbrev xE (X : KX) : Env := X.2.2.1
abbrev xR (X : KX) : Room := X.2.2.2.1
abbrev xS (X : KX) : State := X.2.2.2.2.1
abbrev xM (X : KX) : MethodId := X.2.2.2.2.2.1
abbrev xA (X : KX) : Array Value := X.2.2.2.2.2.2.1
abbrev xW (X : KX) : List Frame := X.2.2.2.2.2.2.2.1
abbrev xH (X : KX) : Method := X.2.2.2.2.2.2.2.2.1
abbrev xC (X : KX) : Code := X.2.2.2.2.2.2.2.2.2.1
abbrev xQ (X : KX) : State → Prop := X.2.2.2.2.2.2.2.2.2.2
/-- how many fields an object of a kind has, which of them are references -/
def kN : Nat → Nat
  | 0 => 2 | 1 => 1 | 2 => 5 | 3 => 6 | 4 => 1 | 5 => 15 | 6 => 4 | 7 => 4 | 8 => 18 | _ => 0
def kR : Nat → Nat → Bool
  | 0, j => j == 1
  | 1, _ => true
  | 2, j => j == 0 || (j == 3 || j == 4)
  | 3, j => j == 0
  | 4, _ => true
  | 5, j => j == 0 || (Nat.ble 2 j && Nat.ble j 10)
  | 6, _ => true
  | 7, _ => true
  | 8, j => j == 1 || (j == 2 || (j == 3 || (j == 5 || (j == 7 || (j == 9 || (j == 10 || j == 17))))))
  | _, _ => false
def kV (b : Nat) (L : KLay) (M : KMem) (k j : Nat) : Value := if kR (L.2.1 k) j = true then va_rf ((L.2.2.2 k j).map (b + ·)) else .int (M k j)
def kE (B : KB) (L : KLay) (M : KMem) (k : Nat) : va_E :=
  if L.2.1 k = 9 then .inl (B.2.2.1.1, L.2.2.1 k, .inl (M k))
  else if L.2.1 k = 10 then .inl (B.2.2.1.2.1, L.2.2.1 k, .inl (M k))
  else if L.2.1 k = 11 then .inl (B.2.2.1.2.2.1, L.2.2.1 k, .inr (.inr (.inr (.inr (fun j => (L.2.2.2 k j).map (B.1 + ·))))))
  else if L.2.1 k = 12 then .inl (B.2.2.1.2.2.2, L.2.2.1 k, .inr (.inl (fun j => (M k j).toInt64)))
  else .inr (L.2.1 k, (List.range (kN (L.2.1 k))).map (kV B.1 L M k))
def kW (B : KB) (L : KLay) (M : KMem) : va_W := (List.range L.1).map (fun k => (B.1 + k, kE B L M k))
def kA (B : KB) : Nat → Prop := fun q => B.1 ≤ q
abbrev kty (B : KB) : List (ClassId × FieldType) := [(B.2.2.1.1, .int), (B.2.2.1.2.1, .boolean), (B.2.2.1.2.2.1, .object "SignReforms$State"), (B.2.2.1.2.2.2, .long)]
theorem kW_len {B : KB} {L : KLay} {M : KMem} : (kW B L M).length = L.1 := by simp [kW]
theorem kW_get {B : KB} {L : KLay} {M : KMem} {k : Nat} (h : k < L.1) : (kW B L M)[k]? = some (B.1 + k, kE B L M k) := by
  simp [kW, h]
theorem kW_some {B : KB} {L : KLay} {M : KMem} {k : Nat} {q : Nat × va_E} (h : (kW B L M)[k]? = some q) : k < L.1 ∧ q = (B.1 + k, kE B L M k) := by
  have h1 : k < (kW B L M).length := (List.getElem?_eq_some_iff.mp h).1
  rw [kW_len] at h1
  rw [kW_get h1] at h
  exact ⟨h1, (Option.some.inj h).symm⟩
theorem kW_D (B : KB) (L : KLay) (M : KMem) : va_D (kA B) (kW B L M) := by
  refine ⟨fun i j p q hp hq h => ?_, fun k q h => ?_⟩
  · obtain ⟨-, rfl⟩ := kW_some hp
    obtain ⟨-, rfl⟩ := kW_some hq
    have h : B.1 + i = B.1 + j := h
    omega
  · obtain ⟨-, rfl⟩ := kW_some h
    exact Nat.le_add_right _ _
theorem kW_set {B : KB} {L L' : KLay} {M M' : KMem} {k : Nat} {e : va_E} (hk : k < L.1) (hn : L'.1 = L.1) (he : kE B L' M' k = e) (ho : ∀ j, j ≠ k → kE B L' M' j = kE B L M j) : (kW B L M).set k (B.1 + k, e) = kW B L' M' := by
  refine List.ext_getElem? fun i => ?_
  rw [List.getElem?_set, kW_len]
  by_cases h : k = i
  · subst h
    rw [if_pos rfl, if_pos hk, kW_get (by rw [hn]; exact hk), he]
  · rw [if_neg h]
    by_cases hi : i < L.1
    · rw [kW_get hi, kW_get (by rw [hn]; exact hi), ho i (fun e => h e.symm)]
    · rw [List.getElem?_eq_none (by rw [kW_len]; omega), List.getElem?_eq_none (by rw [kW_len]; omega)]
/-- writing a number -/
def kup (M : KMem) (o j : Nat) (v : Int32) : KMem := fun o' => if o' = o then upd (M o) j v else M o'
theorem kup_o (M : KMem) (o j : Nat) (v : Int32) : kup M o j v o = upd (M o) j v := if_pos rfl
theorem kup_n (M : KMem) {o o' : Nat} (j : Nat) (v : Int32) (h : o' ≠ o) : kup M o j v o' = M o' := if_neg h
theorem kup_s (M : KMem) (o j : Nat) (v : Int32) : kup M o j v o j = v := by rw [kup_o]; exact if_pos rfl
theorem kup_j (M : KMem) (o : Nat) {j j' : Nat} (v : Int32) (h : j' ≠ j) : kup M o j v o j' = M o j' := by rw [kup_o]; exact if_neg h
theorem kE_n {B : KB} {L : KLay} {M M' : KMem} {k : Nat} (h : M' k = M k) : kE B L M' k = kE B L M k := by
  have hv : kV B.1 L M' k = kV B.1 L M k := by
    funext j
    simp [kV, h]
  simp [kE, h, hv]
/-- the world: the pool, and (where it must be exact) the heap's end -/
def KW (B : KB) (L : KLay) (M : KMem) (H : Heap) : Prop := va_P B.2.1 kCl (kW B L M) H ∧ (B.2.2.2 = true → H.size = B.1 + L.1) ∧ B.1 ≤ H.size
/-- the words that are no premises of a method: links between nest mates, casts -/
def nwWord : Cond → Bool
  | .castable .. => true
  | .fieldLinkNest .. => true
  | .methodLinkNest .. => true
  | .declares _ => true
  | _ => false
def kNC : List (String × String) := [("java/lang/IllegalStateException", "java/lang/IllegalArgumentException"), ("java/lang/IllegalArgumentException", "java/lang/IndexOutOfBoundsException"), ("java/lang/IllegalStateException", "java/lang/IndexOutOfBoundsException")]
def KN (U : State) : Prop := (∀ w ∈ lw_tbl, nwWord w = true → va_Nw w U) ∧ (∀ q ∈ kNC, va_Nc q.1 q.2 U) ∧ (∀ own k tx, Cond.stringRef own k tx ∈ lw_tbl → ∃ a, vk_R own k tx a U)
theorem KN.moved {u U : State} (hW : u.WarmedH U.vm) (h : KN u) : KN U := by
  obtain ⟨h1, h2, h3⟩ := h
  refine ⟨fun w hw hn => ?_, fun q hq => va_Nc.moved hW.alike (h2 q hq), fun own k tx hm => ?_⟩
  · have h4 := h1 w hw hn
    cases w <;> first | (cases hn; done) | exact va_Nw.warmC hW h4 | exact va_Nw.warmF hW h4 | exact va_Nw.warmM hW h4 | exact va_Nw.warmD hW h4
  · obtain ⟨a, ha⟩ := h3 own k tx hm
    exact ⟨a, vk_R.warm hW ha⟩
theorem nw_tabs {w : Cond} (h : nwWord w = true) : w.onTables = true := by
  cases w <;> first | (cases h; done) | rfl
theorem KN.vmEq {u U : State} (hv : U.vm = u.vm) (h : KN u) : KN U := by
  obtain ⟨h1, h2, h3⟩ := h
  have ha : u.vm.Alike U.vm := by rw [hv]; exact Vm.Alike.refl _
  refine ⟨fun w hw hn => va_Nw.same (nw_tabs hn) hv.symm (h1 w hw hn), fun q hq => va_Nc.moved ha (h2 q hq), fun own k tx hm => ?_⟩
  obtain ⟨a, ha⟩ := h3 own k tx hm
  exact ⟨a, vk_R.same hv ha⟩
def KS (B : KB) (U : State) (H : Heap) : Prop :=
  KN U ∧ vx_Zq Bundle.tN "UNASSIGNED_STACK" Bundle.steD (kA B) U H ∧ vx_Zq Bundle.tN "SUPPRESSED_SENTINEL" Bundle.listD (kA B) U H ∧
  va_Z "java/lang/String" "COMPACT_STRINGS" "Z" (.int 1) (kA B) U H ∧
  ∃ (adK adV : Nat → Nat), vk_R "SignReforms$ReformText" 39 "sdjorpmy" (adK 0) U ∧ vk_S 1 [8] [[115, 100, 106, 111, 114, 112, 109, 121]] adK adV (kA B) U H
theorem KS.moved {B : KB} {u U : State} {H : Heap} (hW : u.WarmedH U.vm) (h : KS B u H) : KS B U H := by
  obtain ⟨h0, h1, h2, h4, adK, adV, h5, h6⟩ := h
  exact ⟨h0.moved hW, vx_Zq.moved hW.alike h1, vx_Zq.moved hW.alike h2, va_Z.moved hW.alike h4, adK, adV, vk_R.warm hW h5, vk_S.moved hW.alike h6⟩
theorem KS.vmEq {B : KB} {u U : State} {H : Heap} (hv : U.vm = u.vm) (h : KS B u H) : KS B U H := by
  have ha : u.vm.Alike U.vm := by rw [hv]; exact Vm.Alike.refl _
  obtain ⟨h0, h1, h2, h4, adK, adV, h5, h6⟩ := h
  exact ⟨h0.vmEq hv, vx_Zq.moved ha h1, vx_Zq.moved ha h2, va_Z.moved ha h4, adK, adV, vk_R.same hv h5, vk_S.moved ha h6⟩
theorem KS.kept {B : KB} {U : State} {H H1 : Heap} (h : KS B U H) (hq : ∀ a : Nat, a < H.size → ¬ kA B a → H1[a]? = H[a]?) : KS B U H1 := by
  obtain ⟨h0, h1, h2, h4, adK, adV, h5, h6⟩ := h
  exact ⟨h0, vx_Zq.kept h1 hq, vx_Zq.kept h2 hq, va_Z.kept h4 hq, adK, adV, h5, vk_S.kept h6 hq⟩
def KWO (B : KB) (L : KLay) (M : KMem) (U : State) : Prop := KW B L M U.heap ∧ va_K B.2.1 kCl (kty B) U ∧ KS B U U.heap
def Good (X : KX) (B : KB) (own : String) (cc : ByteArray) (nL : Nat) (rm : Room) : Prop :=
  (xP X).tables.exec = Jvm.exec ∧ (xC X).code = cc ∧ (xC X).maxLocals = nL ∧ (xS X).vm.findClass own = some (xM X).cls ∧ (∀ w ∈ GT, w.before (xA X) (xS X) = true) ∧
  va_K B.2.1 kCl (kty B) (xS X) ∧ KS B (xS X) (xS X).heap ∧ B.1 ≤ (xS X).heap.size ∧ (xH X).locks = false ∧ (xL X).stackTraces = false ∧ xR X = rm
/-- the judgement: from the heap that holds L and M, the locals ls, the stack st, at pc, the machine comes to its end -/
def KK (X : KX) (B : KB) (L : KLay) (nL cn sn : Nat) (M : KMem) (pc : Nat) (ls : List (Nat × Value)) (st : List Value) : Prop :=
  ∀ (H : Heap) (locs : List Loc) (la : Array Slot), KW B L M H → va_S (kA B) (xS X).heap H locs → lv_has la nL ls →
    W (xP X) (xL X) (xE X) (xR X) (xS X) (xM X) (xA X) (xW X) (xH X) (xC X) H locs cn sn (xQ X) (F0 (xM X) pc la st)
/-- the same where E is thrown -/
def KT (X : KX) (B : KB) (L : KLay) (nL cn sn : Nat) (M : KMem) (pc : Nat) (ls : List (Nat × Value)) (st : List Value) (E : String) : Prop :=
  ∀ (H : Heap) (locs : List Loc) (la : Array Slot) (q : Addr) (ce : Cell), KW B L M H → va_S (kA B) (xS X).heap H locs → lv_has la nL ls → H[q]? = some ce → ce.vm = .none → (xS X).vm.findClass E = some ce.cls →
    vx_W (xP X) (xL X) (xE X) (xR X) (xS X) (xM X) (xA X) (xW X) (xH X) (xC X) H locs cn sn (xQ X) (F0 (xM X) pc la st) q
/-- an answer that is there, and what holds of it -/
def kOk {α : Type} (o : Option α) (P : α → Prop) : Prop := ∃ r, o = some r ∧ P r
theorem kOk_b {α β : Type} {o : Option α} {f : α → Option β} {P : β → Prop} (h : kOk (o.bind f) P) : ∃ x, o = some x ∧ kOk (f x) P := by
  obtain ⟨r, h, hp⟩ := h
  obtain ⟨x, h1, h2⟩ := Option.bind_eq_some_iff.mp h
  exact ⟨x, h1, r, h2, hp⟩
theorem kOk_j {α β : Type} {o : Option α} {f : α → Option β} {P : β → Prop} (h : kOk (o.bind f) P) : kOk o (fun x => kOk (f x) P) := by
  obtain ⟨x, h1, h2⟩ := kOk_b h
  exact ⟨x, h1, h2⟩
theorem kOk_p {α : Type} {c : Prop} {d : Decidable c} {a b : Option α} {P : α → Prop} (hc : c) (h : kOk (@ite _ c d a b) P) : kOk a P := by rw [if_pos hc] at h; exact h
theorem kOk_n {α : Type} {c : Prop} {d : Decidable c} {a b : Option α} {P : α → Prop} (hc : ¬ c) (h : kOk (@ite _ c d a b) P) : kOk b P := by rw [if_neg hc] at h; exact h
theorem kOk_s {α : Type} {a : α} {P : α → Prop} (h : kOk (some a) P) : P a := by
  obtain ⟨r, h, hp⟩ := h
  cases h
  exact hp
theorem kOk_i {α : Type} {a : α} {P : α → Prop} (h : P a) : kOk (some a) P := ⟨a, rfl, h⟩
/-- a loop: a step goes on (inl) or leaves (inr) -/
def kLp {σ ρ : Type} (f : σ → Option (σ ⊕ ρ)) : Nat → σ → Option ρ
  | 0, _ => none
  | n + 1, s => (f s).bind (fun r => match r with | .inl s' => kLp f n s' | .inr r => some r)
theorem kLp_ok {σ ρ : Type} {f : σ → Option (σ ⊕ ρ)} {P : σ → Prop} {Q : ρ → Prop} (hs : ∀ s, kOk (f s) (fun r => match r with | .inl s' => P s' | .inr r => Q r) → P s) : ∀ (n : Nat) (s : σ), kOk (kLp f n s) Q → P s := by
  intro n
  induction n with
  | zero =>
    intro s h
    obtain ⟨r, h, -⟩ := h
    cases h
  | succ n ih =>
    intro s h
    refine hs s ?_
    obtain ⟨x, h1, h2⟩ := kOk_b h
    refine ⟨x, h1, ?_⟩
    cases x with
    | inl s' => exact ih s' h2
    | inr r =>
      have h3 : kOk (some r) Q := h2
      exact kOk_s (P := Q) (a := r) h3
def kFU : Nat := 100000
end
section
/-! ONE ROW AN INSTRUCTION, for KK -/
/-- a method's instructions, decoded: by their places in a list -/
def decA (cc : ByteArray) (l : List (Nat × Instr × Nat)) : Bool := l.all (fun q => decide (decode cc q.1 = .ok (q.2.1, q.2.2)))
theorem dc {cc : ByteArray} {l : List (Nat × Instr × Nat)} (h : decA cc l = true) (k : Nat) {pc n : Nat} {i : Instr} (hk : l[k]? = some (pc, i, n)) : decode cc pc = .ok (i, n) := by
  have h1 := List.all_eq_true.mp h _ (List.mem_of_getElem? hk)
  exact of_decide_eq_true h1
def jrem (x y : Int32) : Int32 := x - x / y * y
def jremL (x y : Int64) : Int64 := x - x / y * y
def jshl (x y : Int32) : Int32 := x <<< (y &&& 31)
def jshr (x y : Int32) : Int32 := x >>> (y &&& 31)
def jushrL (x : Int64) (y : Int32) : Int64 := (x.toUInt64 >>> (y.toInt64.toUInt64 &&& Int64.toUInt64 63)).toInt64
def jshlL (x : Int64) (y : Int32) : Int64 := x <<< (y.toInt64 &&& 63)
def jchar (x : Int32) : Int32 := (x.toUInt32 % 65536).toInt32
section KRows
variable {X : KX} {B : KB} {L : KLay} {own : String} {cc : ByteArray} {nL : Nat} {rm : Room} {cn sn : Nat} {M : KMem} {pc : Nat} {ls : List (Nat × Value)} {st : List Value}
theorem k_iconst (G : Good X B own cc nL rm) {n : Int} {v : Int32} (d : decode cc pc = .ok (.iconst n, 1)) (hv : Int32.ofInt n = v) (k : KK X B L nL cn sn M (pc + 1) ls (.int v :: st)) : KK X B L nL cn sn M pc ls st := fun H locs la hW hS hl => lv_iconst G.1 G.2.1 d hv (k H locs la hW hS hl)
theorem k_bipush (G : Good X B own cc nL rm) {n : Int} {v : Int32} (d : decode cc pc = .ok (.bipush n, 2)) (hv : (Int8.ofInt n).toInt32 = v) (k : KK X B L nL cn sn M (pc + 2) ls (.int v :: st)) : KK X B L nL cn sn M pc ls st := fun H locs la hW hS hl => lv_bipush G.1 G.2.1 d hv (k H locs la hW hS hl)
theorem k_sipush (G : Good X B own cc nL rm) {n : Int} {v : Int32} (d : decode cc pc = .ok (.sipush n, 3)) (hv : (Int16.ofInt n).toInt32 = v) (k : KK X B L nL cn sn M (pc + 3) ls (.int v :: st)) : KK X B L nL cn sn M pc ls st := fun H locs la hW hS hl => lv_sipush G.1 G.2.1 d hv (k H locs la hW hS hl)
theorem k_lconst (G : Good X B own cc nL rm) {n : Fin 2} {v : Int64} (d : decode cc pc = .ok (.lconst n, 1)) (hv : Int64.ofNat (n : Nat) = v) (k : KK X B L nL cn sn M (pc + 1) ls (.long v :: st)) : KK X B L nL cn sn M pc ls st := fun H locs la hW hS hl => lv_lconst G.1 G.2.1 d hv (k H locs la hW hS hl)
theorem k_ldc (G : Good X B own cc nL rm) {i : Nat} {v : Int32} (d : decode cc pc = .ok (.ldc i, 2)) (hc : Cond.constant own i v ∈ GT) (k : KK X B L nL cn sn M (pc + 2) ls (.int v :: st)) : KK X B L nL cn sn M pc ls st := fun H locs la hW hS hl => lv_ldc G.1 G.2.1 G.2.2.2.1 (G.2.2.2.2.1 _ hc) d (k H locs la hW hS hl)
theorem k_ldc2 (G : Good X B own cc nL rm) {i : Nat} {v : Int64} (d : decode cc pc = .ok (.ldc2_w i, 3)) (hc : Cond.constantLong own i v ∈ GT) (k : KK X B L nL cn sn M (pc + 3) ls (.long v :: st)) : KK X B L nL cn sn M pc ls st := fun H locs la hW hS hl => lv_ldc2 G.1 G.2.1 G.2.2.2.1 (G.2.2.2.2.1 _ hc) d (k H locs la hW hS hl)
theorem k_iload_n (G : Good X B own cc nL rm) {j : Fin 4} {i : Nat} {x : Int32} (d : decode cc pc = .ok (.iload_n j, 1)) (q : Nat) (hi : (j : Nat) = i) (hq : ls[q]? = some (i, .int x)) (k : KK X B L nL cn sn M (pc + 1) ls (.int x :: st)) : KK X B L nL cn sn M pc ls st := fun H locs la hW hS hl => lv_iload_n G.1 G.2.1 d hi (lv_at hl q hq) (k H locs la hW hS hl)
theorem k_iload (G : Good X B own cc nL rm) {i : Nat} {x : Int32} (d : decode cc pc = .ok (.iload i, 2)) (q : Nat) (hq : ls[q]? = some (i, .int x)) (k : KK X B L nL cn sn M (pc + 2) ls (.int x :: st)) : KK X B L nL cn sn M pc ls st := fun H locs la hW hS hl => lv_iload G.1 G.2.1 d (lv_at hl q hq) (k H locs la hW hS hl)
theorem k_aload_n (G : Good X B own cc nL rm) {j : Fin 4} {i : Nat} {x : Nat} (d : decode cc pc = .ok (.aload_n j, 1)) (q : Nat) (hi : (j : Nat) = i) (hq : ls[q]? = some (i, .ref x)) (k : KK X B L nL cn sn M (pc + 1) ls (.ref x :: st)) : KK X B L nL cn sn M pc ls st := fun H locs la hW hS hl => lv_aload_n G.1 G.2.1 d hi (lv_at hl q hq) (k H locs la hW hS hl)
theorem k_aload (G : Good X B own cc nL rm) {i : Nat} {x : Nat} (d : decode cc pc = .ok (.aload i, 2)) (q : Nat) (hq : ls[q]? = some (i, .ref x)) (k : KK X B L nL cn sn M (pc + 2) ls (.ref x :: st)) : KK X B L nL cn sn M pc ls st := fun H locs la hW hS hl => lv_aload G.1 G.2.1 d (lv_at hl q hq) (k H locs la hW hS hl)
theorem k_lload_n (G : Good X B own cc nL rm) {j : Fin 4} {i : Nat} {x : Int64} (d : decode cc pc = .ok (.lload_n j, 1)) (q : Nat) (hi : (j : Nat) = i) (hq : ls[q]? = some (i, .long x)) (k : KK X B L nL cn sn M (pc + 1) ls (.long x :: st)) : KK X B L nL cn sn M pc ls st := fun H locs la hW hS hl => lv_lload_n G.1 G.2.1 d hi (lv_at hl q hq) (k H locs la hW hS hl)
theorem k_lload (G : Good X B own cc nL rm) {i : Nat} {x : Int64} (d : decode cc pc = .ok (.lload i, 2)) (q : Nat) (hq : ls[q]? = some (i, .long x)) (k : KK X B L nL cn sn M (pc + 2) ls (.long x :: st)) : KK X B L nL cn sn M pc ls st := fun H locs la hW hS hl => lv_lload G.1 G.2.1 d (lv_at hl q hq) (k H locs la hW hS hl)
theorem k_istore_n (G : Good X B own cc nL rm) {j : Fin 4} {i : Nat} {x : Int32} {ls' : List (Nat × Value)} (d : decode cc pc = .ok (.istore_n j, 1)) (hi : (j : Nat) = i) (hn : Nat.ble (i + 1) nL = true) (hl' : (i, Value.int x) :: ls.filter (fun q => !(q.1 == i) && !(q.1 + 1 == i && q.2.category == 2)) = ls') (k : KK X B L nL cn sn M (pc + 1) ls' st) : KK X B L nL cn sn M pc ls (.int x :: st) := fun H locs la hW hS hl => lv_istore_n G.1 G.2.1 d hi hl (Nat.le_of_ble_eq_true hn) hl' (fun la' h' => k H locs la' hW hS h')
theorem k_istore (G : Good X B own cc nL rm) {i : Nat} {x : Int32} {ls' : List (Nat × Value)} (d : decode cc pc = .ok (.istore i, 2)) (hn : Nat.ble (i + 1) nL = true) (hl' : (i, Value.int x) :: ls.filter (fun q => !(q.1 == i) && !(q.1 + 1 == i && q.2.category == 2)) = ls') (k : KK X B L nL cn sn M (pc + 2) ls' st) : KK X B L nL cn sn M pc ls (.int x :: st) := fun H locs la hW hS hl => lv_istore G.1 G.2.1 d hl (Nat.le_of_ble_eq_true hn) hl' (fun la' h' => k H locs la' hW hS h')
theorem k_astore_n (G : Good X B own cc nL rm) {j : Fin 4} {i : Nat} {x : Nat} {ls' : List (Nat × Value)} (d : decode cc pc = .ok (.astore_n j, 1)) (hi : (j : Nat) = i) (hn : Nat.ble (i + 1) nL = true) (hl' : (i, Value.ref x) :: ls.filter (fun q => !(q.1 == i) && !(q.1 + 1 == i && q.2.category == 2)) = ls') (k : KK X B L nL cn sn M (pc + 1) ls' st) : KK X B L nL cn sn M pc ls (.ref x :: st) := fun H locs la hW hS hl => lv_astore_n G.1 G.2.1 d hi hl (Nat.le_of_ble_eq_true hn) hl' (fun la' h' => k H locs la' hW hS h')
theorem k_astore (G : Good X B own cc nL rm) {i : Nat} {x : Nat} {ls' : List (Nat × Value)} (d : decode cc pc = .ok (.astore i, 2)) (hn : Nat.ble (i + 1) nL = true) (hl' : (i, Value.ref x) :: ls.filter (fun q => !(q.1 == i) && !(q.1 + 1 == i && q.2.category == 2)) = ls') (k : KK X B L nL cn sn M (pc + 2) ls' st) : KK X B L nL cn sn M pc ls (.ref x :: st) := fun H locs la hW hS hl => lv_astore G.1 G.2.1 d hl (Nat.le_of_ble_eq_true hn) hl' (fun la' h' => k H locs la' hW hS h')
theorem k_lstore_n (G : Good X B own cc nL rm) {j : Fin 4} {i : Nat} {x : Int64} {ls' : List (Nat × Value)} (d : decode cc pc = .ok (.lstore_n j, 1)) (hi : (j : Nat) = i) (hn : Nat.ble (i + 1 + 1) nL = true) (hl' : (i, Value.long x) :: ls.filter (fun q => !(q.1 == i) && (!(q.1 == i + 1) && !(q.1 + 1 == i && q.2.category == 2))) = ls') (k : KK X B L nL cn sn M (pc + 1) ls' st) : KK X B L nL cn sn M pc ls (.long x :: st) := fun H locs la hW hS hl => lv_lstore_n G.1 G.2.1 d hi hl (Nat.le_of_ble_eq_true hn) hl' (fun la' h' => k H locs la' hW hS h')
theorem k_lstore (G : Good X B own cc nL rm) {i : Nat} {x : Int64} {ls' : List (Nat × Value)} (d : decode cc pc = .ok (.lstore i, 2)) (hn : Nat.ble (i + 1 + 1) nL = true) (hl' : (i, Value.long x) :: ls.filter (fun q => !(q.1 == i) && (!(q.1 == i + 1) && !(q.1 + 1 == i && q.2.category == 2))) = ls') (k : KK X B L nL cn sn M (pc + 2) ls' st) : KK X B L nL cn sn M pc ls (.long x :: st) := fun H locs la hW hS hl => lv_lstore G.1 G.2.1 d hl (Nat.le_of_ble_eq_true hn) hl' (fun la' h' => k H locs la' hW hS h')
theorem k_iinc (G : Good X B own cc nL rm) {i : Nat} {n : Int} {x m : Int32} {ls' : List (Nat × Value)} (d : decode cc pc = .ok (.iinc i n, 3)) (q : Nat) (hq : ls[q]? = some (i, .int x)) (hm : Int32.ofInt n = m) (hn : Nat.ble (i + 1) nL = true) (hl' : (i, Value.int (x + m)) :: ls.filter (fun q => !(q.1 == i) && !(q.1 + 1 == i && q.2.category == 2)) = ls') (k : KK X B L nL cn sn M (pc + 3) ls' st) : KK X B L nL cn sn M pc ls st := fun H locs la hW hS hl => lv_iinc G.1 G.2.1 d hl hq (by rw [hm]) (Nat.le_of_ble_eq_true hn) hl' (fun la' h' => k H locs la' hW hS h')
theorem k_iadd (G : Good X B own cc nL rm) {x y : Int32} (d : decode cc pc = .ok (.iadd, 1))  (k : KK X B L nL cn sn M (pc + 1) ls (.int (x + y) :: st)) : KK X B L nL cn sn M pc ls (.int y :: .int x :: st) := fun H locs la hW hS hl => lv_iadd G.1 G.2.1 d  (k H locs la hW hS hl)
theorem k_isub (G : Good X B own cc nL rm) {x y : Int32} (d : decode cc pc = .ok (.isub, 1))  (k : KK X B L nL cn sn M (pc + 1) ls (.int (x - y) :: st)) : KK X B L nL cn sn M pc ls (.int y :: .int x :: st) := fun H locs la hW hS hl => lv_isub G.1 G.2.1 d  (k H locs la hW hS hl)
theorem k_imul (G : Good X B own cc nL rm) {x y : Int32} (d : decode cc pc = .ok (.imul, 1))  (k : KK X B L nL cn sn M (pc + 1) ls (.int (x * y) :: st)) : KK X B L nL cn sn M pc ls (.int y :: .int x :: st) := fun H locs la hW hS hl => lv_imul G.1 G.2.1 d  (k H locs la hW hS hl)
theorem k_iand (G : Good X B own cc nL rm) {x y : Int32} (d : decode cc pc = .ok (.iand, 1))  (k : KK X B L nL cn sn M (pc + 1) ls (.int (x &&& y) :: st)) : KK X B L nL cn sn M pc ls (.int y :: .int x :: st) := fun H locs la hW hS hl => lv_iand G.1 G.2.1 d  (k H locs la hW hS hl)
theorem k_ior (G : Good X B own cc nL rm) {x y : Int32} (d : decode cc pc = .ok (.ior, 1))  (k : KK X B L nL cn sn M (pc + 1) ls (.int (x ||| y) :: st)) : KK X B L nL cn sn M pc ls (.int y :: .int x :: st) := fun H locs la hW hS hl => lv_ior G.1 G.2.1 d  (k H locs la hW hS hl)
theorem k_ishl (G : Good X B own cc nL rm) {x y : Int32} (d : decode cc pc = .ok (.ishl, 1))  (k : KK X B L nL cn sn M (pc + 1) ls (.int (jshl x y) :: st)) : KK X B L nL cn sn M pc ls (.int y :: .int x :: st) := fun H locs la hW hS hl => lv_ishl G.1 G.2.1 d  (k H locs la hW hS hl)
theorem k_ishr (G : Good X B own cc nL rm) {x y : Int32} (d : decode cc pc = .ok (.ishr, 1))  (k : KK X B L nL cn sn M (pc + 1) ls (.int (jshr x y) :: st)) : KK X B L nL cn sn M pc ls (.int y :: .int x :: st) := fun H locs la hW hS hl => lv_ishr G.1 G.2.1 d  (k H locs la hW hS hl)
theorem k_idiv (G : Good X B own cc nL rm) {x y : Int32} (d : decode cc pc = .ok (.idiv, 1)) (hne : ¬ y = 0) (k : KK X B L nL cn sn M (pc + 1) ls (.int (x / y) :: st)) : KK X B L nL cn sn M pc ls (.int y :: .int x :: st) := fun H locs la hW hS hl => lv_idiv G.1 G.2.1 d hne (k H locs la hW hS hl)
theorem k_irem (G : Good X B own cc nL rm) {x y : Int32} (d : decode cc pc = .ok (.irem, 1)) (hne : ¬ y = 0) (k : KK X B L nL cn sn M (pc + 1) ls (.int (jrem x y) :: st)) : KK X B L nL cn sn M pc ls (.int y :: .int x :: st) := fun H locs la hW hS hl => lv_irem G.1 G.2.1 d hne (k H locs la hW hS hl)
theorem k_ladd (G : Good X B own cc nL rm) {x y : Int64} (d : decode cc pc = .ok (.ladd, 1))  (k : KK X B L nL cn sn M (pc + 1) ls (.long (x + y) :: st)) : KK X B L nL cn sn M pc ls (.long y :: .long x :: st) := fun H locs la hW hS hl => lv_ladd G.1 G.2.1 d  (k H locs la hW hS hl)
theorem k_lsub (G : Good X B own cc nL rm) {x y : Int64} (d : decode cc pc = .ok (.lsub, 1))  (k : KK X B L nL cn sn M (pc + 1) ls (.long (x - y) :: st)) : KK X B L nL cn sn M pc ls (.long y :: .long x :: st) := fun H locs la hW hS hl => lv_lsub G.1 G.2.1 d  (k H locs la hW hS hl)
theorem k_lmul (G : Good X B own cc nL rm) {x y : Int64} (d : decode cc pc = .ok (.lmul, 1))  (k : KK X B L nL cn sn M (pc + 1) ls (.long (x * y) :: st)) : KK X B L nL cn sn M pc ls (.long y :: .long x :: st) := fun H locs la hW hS hl => lv_lmul G.1 G.2.1 d  (k H locs la hW hS hl)
theorem k_land (G : Good X B own cc nL rm) {x y : Int64} (d : decode cc pc = .ok (.land, 1))  (k : KK X B L nL cn sn M (pc + 1) ls (.long (x &&& y) :: st)) : KK X B L nL cn sn M pc ls (.long y :: .long x :: st) := fun H locs la hW hS hl => lv_land G.1 G.2.1 d  (k H locs la hW hS hl)
theorem k_lor (G : Good X B own cc nL rm) {x y : Int64} (d : decode cc pc = .ok (.lor, 1))  (k : KK X B L nL cn sn M (pc + 1) ls (.long (x ||| y) :: st)) : KK X B L nL cn sn M pc ls (.long y :: .long x :: st) := fun H locs la hW hS hl => lv_lor G.1 G.2.1 d  (k H locs la hW hS hl)
theorem k_ldiv (G : Good X B own cc nL rm) {x y : Int64} (d : decode cc pc = .ok (.ldiv, 1)) (hne : ¬ y = 0) (k : KK X B L nL cn sn M (pc + 1) ls (.long (x / y) :: st)) : KK X B L nL cn sn M pc ls (.long y :: .long x :: st) := fun H locs la hW hS hl => lv_ldiv G.1 G.2.1 d hne (k H locs la hW hS hl)
theorem k_lrem (G : Good X B own cc nL rm) {x y : Int64} (d : decode cc pc = .ok (.lrem, 1)) (hne : ¬ y = 0) (k : KK X B L nL cn sn M (pc + 1) ls (.long (jremL x y) :: st)) : KK X B L nL cn sn M pc ls (.long y :: .long x :: st) := fun H locs la hW hS hl => lv_lrem G.1 G.2.1 d hne (k H locs la hW hS hl)
theorem k_lushr (G : Good X B own cc nL rm) {x : Int64} {y : Int32} (d : decode cc pc = .ok (.lushr, 1))  (k : KK X B L nL cn sn M (pc + 1) ls (.long (jushrL x y) :: st)) : KK X B L nL cn sn M pc ls (.int y :: .long x :: st) := fun H locs la hW hS hl => lv_lushr G.1 G.2.1 d rfl (k H locs la hW hS hl)
theorem k_lshl (G : Good X B own cc nL rm) {x : Int64} {y : Int32} (d : decode cc pc = .ok (.lshl, 1))  (k : KK X B L nL cn sn M (pc + 1) ls (.long (jshlL x y) :: st)) : KK X B L nL cn sn M pc ls (.int y :: .long x :: st) := fun H locs la hW hS hl => lv_lshl G.1 G.2.1 d rfl (k H locs la hW hS hl)
theorem k_l2i (G : Good X B own cc nL rm) {x : Int64} (d : decode cc pc = .ok (.l2i, 1))  (k : KK X B L nL cn sn M (pc + 1) ls (.int x.toInt32 :: st)) : KK X B L nL cn sn M pc ls (.long x :: st) := fun H locs la hW hS hl => lv_l2i G.1 G.2.1 d rfl (k H locs la hW hS hl)
theorem k_i2l (G : Good X B own cc nL rm) {x : Int32} (d : decode cc pc = .ok (.i2l, 1))  (k : KK X B L nL cn sn M (pc + 1) ls (.long x.toInt64 :: st)) : KK X B L nL cn sn M pc ls (.int x :: st) := fun H locs la hW hS hl => lv_i2l G.1 G.2.1 d rfl (k H locs la hW hS hl)
theorem k_i2c (G : Good X B own cc nL rm) {x : Int32} (d : decode cc pc = .ok (.i2c, 1))  (k : KK X B L nL cn sn M (pc + 1) ls (.int (jchar x) :: st)) : KK X B L nL cn sn M pc ls (.int x :: st) := fun H locs la hW hS hl => lv_i2c G.1 G.2.1 d rfl (k H locs la hW hS hl)
theorem k_lcmp (G : Good X B own cc nL rm) {x y : Int64} (d : decode cc pc = .ok (.lcmp, 1))  (k : KK X B L nL cn sn M (pc + 1) ls (.int (lg_cmp x y) :: st)) : KK X B L nL cn sn M pc ls (.long y :: .long x :: st) := fun H locs la hW hS hl => W.lcmp G.1 G.2.1 d  (k H locs la hW hS hl)
theorem k_dup (G : Good X B own cc nL rm) {v : Value} (d : decode cc pc = .ok (.dup, 1)) (hv : v.category = 1) (k : KK X B L nL cn sn M (pc + 1) ls (v :: v :: st)) : KK X B L nL cn sn M pc ls (v :: st) := fun H locs la hW hS hl => lv_dup G.1 G.2.1 d hv (k H locs la hW hS hl)
theorem k_dup2 (G : Good X B own cc nL rm) {v w : Value} (d : decode cc pc = .ok (.dup2, 1)) (hv : v.category = 1) (hw : w.category = 1) (k : KK X B L nL cn sn M (pc + 1) ls (v :: w :: v :: w :: st)) : KK X B L nL cn sn M pc ls (v :: w :: st) := fun H locs la hW hS hl => lv_dup2_11 G.1 G.2.1 d hv hw (k H locs la hW hS hl)
theorem k_pop (G : Good X B own cc nL rm) {v : Value} (d : decode cc pc = .ok (.pop, 1)) (hv : v.category = 1) (k : KK X B L nL cn sn M (pc + 1) ls st) : KK X B L nL cn sn M pc ls (v :: st) := fun H locs la hW hS hl => lv_pop G.1 G.2.1 d hv (k H locs la hW hS hl)
theorem k_goto (G : Good X B own cc nL rm) {off : Int} {tgt : Nat} (d : decode cc pc = .ok (.goto off, 3)) (ht : (pc : Int) + off = (tgt : Int)) (k : KK X B L nL cn sn M tgt ls st) : KK X B L nL cn sn M pc ls st := fun H locs la hW hS hl => lv_goto G.1 G.2.1 d ht (k H locs la hW hS hl)
theorem k_icmp_eq (G : Good X B own cc nL rm) {x y : Int32} {off : Int} {tgt : Nat} (d : decode cc pc = .ok (.if_icmp .eq off, 3)) (ht : (pc : Int) + off = (tgt : Int)) (kt : x = y → KK X B L nL cn sn M tgt ls st) (kf : ¬ x = y → KK X B L nL cn sn M (pc + 3) ls st) : KK X B L nL cn sn M pc ls (.int y :: .int x :: st) := fun H locs la hW hS hl => lv_icmp_eq G.1 G.2.1 d ht (fun c => kt c H locs la hW hS hl) (fun c => kf c H locs la hW hS hl)
theorem k_icmp_ne (G : Good X B own cc nL rm) {x y : Int32} {off : Int} {tgt : Nat} (d : decode cc pc = .ok (.if_icmp .ne off, 3)) (ht : (pc : Int) + off = (tgt : Int)) (kt : ¬ x = y → KK X B L nL cn sn M tgt ls st) (kf : x = y → KK X B L nL cn sn M (pc + 3) ls st) : KK X B L nL cn sn M pc ls (.int y :: .int x :: st) := fun H locs la hW hS hl => lv_icmp_ne G.1 G.2.1 d ht (fun c => kt c H locs la hW hS hl) (fun c => kf c H locs la hW hS hl)
theorem k_icmp_lt (G : Good X B own cc nL rm) {x y : Int32} {off : Int} {tgt : Nat} (d : decode cc pc = .ok (.if_icmp .lt off, 3)) (ht : (pc : Int) + off = (tgt : Int)) (kt : x < y → KK X B L nL cn sn M tgt ls st) (kf : ¬ x < y → KK X B L nL cn sn M (pc + 3) ls st) : KK X B L nL cn sn M pc ls (.int y :: .int x :: st) := fun H locs la hW hS hl => lv_icmp_lt G.1 G.2.1 d ht (fun c => kt c H locs la hW hS hl) (fun c => kf c H locs la hW hS hl)
theorem k_icmp_ge (G : Good X B own cc nL rm) {x y : Int32} {off : Int} {tgt : Nat} (d : decode cc pc = .ok (.if_icmp .ge off, 3)) (ht : (pc : Int) + off = (tgt : Int)) (kt : y ≤ x → KK X B L nL cn sn M tgt ls st) (kf : ¬ y ≤ x → KK X B L nL cn sn M (pc + 3) ls st) : KK X B L nL cn sn M pc ls (.int y :: .int x :: st) := fun H locs la hW hS hl => lv_icmp_ge G.1 G.2.1 d ht (fun c => kt c H locs la hW hS hl) (fun c => kf c H locs la hW hS hl)
theorem k_icmp_gt (G : Good X B own cc nL rm) {x y : Int32} {off : Int} {tgt : Nat} (d : decode cc pc = .ok (.if_icmp .gt off, 3)) (ht : (pc : Int) + off = (tgt : Int)) (kt : y < x → KK X B L nL cn sn M tgt ls st) (kf : ¬ y < x → KK X B L nL cn sn M (pc + 3) ls st) : KK X B L nL cn sn M pc ls (.int y :: .int x :: st) := fun H locs la hW hS hl => lv_icmp_gt G.1 G.2.1 d ht (fun c => kt c H locs la hW hS hl) (fun c => kf c H locs la hW hS hl)
theorem k_icmp_le (G : Good X B own cc nL rm) {x y : Int32} {off : Int} {tgt : Nat} (d : decode cc pc = .ok (.if_icmp .le off, 3)) (ht : (pc : Int) + off = (tgt : Int)) (kt : x ≤ y → KK X B L nL cn sn M tgt ls st) (kf : ¬ x ≤ y → KK X B L nL cn sn M (pc + 3) ls st) : KK X B L nL cn sn M pc ls (.int y :: .int x :: st) := fun H locs la hW hS hl => lv_icmp_le G.1 G.2.1 d ht (fun c => kt c H locs la hW hS hl) (fun c => kf c H locs la hW hS hl)
theorem k_if_eq (G : Good X B own cc nL rm) {x : Int32} {off : Int} {tgt : Nat} (d : decode cc pc = .ok (.ifCond .eq off, 3)) (ht : (pc : Int) + off = (tgt : Int)) (kt : x = 0 → KK X B L nL cn sn M tgt ls st) (kf : ¬ x = 0 → KK X B L nL cn sn M (pc + 3) ls st) : KK X B L nL cn sn M pc ls (.int x :: st) := fun H locs la hW hS hl => lv_if_eq G.1 G.2.1 d ht (fun c => kt c H locs la hW hS hl) (fun c => kf c H locs la hW hS hl)
theorem k_if_ne (G : Good X B own cc nL rm) {x : Int32} {off : Int} {tgt : Nat} (d : decode cc pc = .ok (.ifCond .ne off, 3)) (ht : (pc : Int) + off = (tgt : Int)) (kt : ¬ x = 0 → KK X B L nL cn sn M tgt ls st) (kf : x = 0 → KK X B L nL cn sn M (pc + 3) ls st) : KK X B L nL cn sn M pc ls (.int x :: st) := fun H locs la hW hS hl => lv_if_ne G.1 G.2.1 d ht (fun c => kt c H locs la hW hS hl) (fun c => kf c H locs la hW hS hl)
theorem k_if_lt (G : Good X B own cc nL rm) {x : Int32} {off : Int} {tgt : Nat} (d : decode cc pc = .ok (.ifCond .lt off, 3)) (ht : (pc : Int) + off = (tgt : Int)) (kt : x < 0 → KK X B L nL cn sn M tgt ls st) (kf : ¬ x < 0 → KK X B L nL cn sn M (pc + 3) ls st) : KK X B L nL cn sn M pc ls (.int x :: st) := fun H locs la hW hS hl => lv_if_lt G.1 G.2.1 d ht (fun c => kt c H locs la hW hS hl) (fun c => kf c H locs la hW hS hl)
theorem k_if_ge (G : Good X B own cc nL rm) {x : Int32} {off : Int} {tgt : Nat} (d : decode cc pc = .ok (.ifCond .ge off, 3)) (ht : (pc : Int) + off = (tgt : Int)) (kt : 0 ≤ x → KK X B L nL cn sn M tgt ls st) (kf : ¬ 0 ≤ x → KK X B L nL cn sn M (pc + 3) ls st) : KK X B L nL cn sn M pc ls (.int x :: st) := fun H locs la hW hS hl => lv_if_ge G.1 G.2.1 d ht (fun c => kt c H locs la hW hS hl) (fun c => kf c H locs la hW hS hl)
theorem k_if_gt (G : Good X B own cc nL rm) {x : Int32} {off : Int} {tgt : Nat} (d : decode cc pc = .ok (.ifCond .gt off, 3)) (ht : (pc : Int) + off = (tgt : Int)) (kt : 0 < x → KK X B L nL cn sn M tgt ls st) (kf : ¬ 0 < x → KK X B L nL cn sn M (pc + 3) ls st) : KK X B L nL cn sn M pc ls (.int x :: st) := fun H locs la hW hS hl => lv_if_gt G.1 G.2.1 d ht (fun c => kt c H locs la hW hS hl) (fun c => kf c H locs la hW hS hl)
theorem k_if_le (G : Good X B own cc nL rm) {x : Int32} {off : Int} {tgt : Nat} (d : decode cc pc = .ok (.ifCond .le off, 3)) (ht : (pc : Int) + off = (tgt : Int)) (kt : x ≤ 0 → KK X B L nL cn sn M tgt ls st) (kf : ¬ x ≤ 0 → KK X B L nL cn sn M (pc + 3) ls st) : KK X B L nL cn sn M pc ls (.int x :: st) := fun H locs la hW hS hl => lv_if_le G.1 G.2.1 d ht (fun c => kt c H locs la hW hS hl) (fun c => kf c H locs la hW hS hl)
theorem k_ifnull (G : Good X B own cc nL rm) {x : Nat} {off : Int} (d : decode cc pc = .ok (.ifnull off, 3))  (k : KK X B L nL cn sn M (pc + 3) ls st) : KK X B L nL cn sn M pc ls (.ref x :: st) := fun H locs la hW hS hl => lv_ifnull G.1 G.2.1 d  (k H locs la hW hS hl)
theorem k_tableIn (G : Good X B own cc nL rm) {dflt lo hi : Int} {offs : Array Int} {len : Nat} {x : Int32} {off : Int} {tgt : Nat} (d : decode cc pc = .ok (.tableswitch dflt lo hi offs, len)) (h1 : ¬ x.toInt < lo) (h2 : ¬ hi < x.toInt) (ho : offs[(x.toInt - lo).toNat]? = some off) (ht : (pc : Int) + off = (tgt : Int)) (k : KK X B L nL cn sn M tgt ls st) : KK X B L nL cn sn M pc ls (.int x :: st) := fun H locs la hW hS hl => lv_tableIn G.1 G.2.1 d h1 h2 ho ht (k H locs la hW hS hl)
theorem k_tableOut (G : Good X B own cc nL rm) {dflt lo hi : Int} {offs : Array Int} {len : Nat} {x : Int32} {tgt : Nat} (d : decode cc pc = .ok (.tableswitch dflt lo hi offs, len)) (h : x.toInt < lo ∨ hi < x.toInt) (ht : (pc : Int) + dflt = (tgt : Int)) (k : KK X B L nL cn sn M tgt ls st) : KK X B L nL cn sn M pc ls (.int x :: st) := fun H locs la hW hS hl => lv_tableOut G.1 G.2.1 d h ht (k H locs la hW hS hl)
theorem k_tsI (G : Good X B own cc nL rm) {dflt lo hi : Int} {offs : Array Int} {len : Nat} {x v : Int32} {off : Int} {tgt : Nat} (d : decode cc pc = .ok (.tableswitch dflt lo hi offs, len)) (hx : x = v) (h1 : ¬ v.toInt < lo) (h2 : ¬ hi < v.toInt) (ho : offs[(v.toInt - lo).toNat]? = some off) (ht : (pc : Int) + off = (tgt : Int)) (k : KK X B L nL cn sn M tgt ls st) : KK X B L nL cn sn M pc ls (.int x :: st) := by
  subst hx
  exact k_tableIn G d h1 h2 ho ht k
theorem k_lkI (G : Good X B own cc nL rm) {dflt : Int} {ps : Array (Int × Int)} {len : Nat} {x v : Int32} {off : Int} {tgt : Nat} (d : decode cc pc = .ok (.lookupswitch dflt ps, len)) (hx : x = v) (hp : (ps.toList.zip (ps.toList.drop 1)).all (fun (a, next) => a.1 < next.1) = true) (ho : Op.lookupswitch.offset ps.toList dflt v.toInt = off) (ht : (pc : Int) + off = (tgt : Int)) (k : KK X B L nL cn sn M tgt ls st) : KK X B L nL cn sn M pc ls (.int x :: st) := by
  subst hx
  exact fun H locs la hW hS hl => lv_lookup G.1 G.2.1 d hp ho ht (k H locs la hW hS hl)
theorem k_lkO (G : Good X B own cc nL rm) {dflt : Int} {ps : Array (Int × Int)} {len : Nat} {x : Int32} {tgt : Nat} (d : decode cc pc = .ok (.lookupswitch dflt ps, len)) (hx : ∀ q ∈ ps.toList, x ≠ Int32.ofInt q.1) (hp : (ps.toList.zip (ps.toList.drop 1)).all (fun (a, next) => a.1 < next.1) = true) (ht : (pc : Int) + dflt = (tgt : Int)) (k : KK X B L nL cn sn M tgt ls st) : KK X B L nL cn sn M pc ls (.int x :: st) := by
  have key : ∀ l : List (Int × Int), (∀ q ∈ l, x ≠ Int32.ofInt q.1) → Op.lookupswitch.offset l dflt x.toInt = dflt := by
    intro l
    induction l with
    | nil => intro _; rfl
    | cons a l ih =>
      intro h
      rw [Op.lookupswitch.offset_cons, if_neg (fun e => h a List.mem_cons_self (by rw [e]; exact (Int32.ofInt_toInt x).symm)), ih (fun q hq => h q (List.mem_cons_of_mem _ hq))]
  exact fun H locs la hW hS hl => lv_lookup G.1 G.2.1 d hp (key _ hx) ht (k H locs la hW hS hl)
def dvL (x y : Int64) : Option Int64 := if y = 0 then none else some (x / y)
theorem dvL_ok {x y z : Int64} (h : dvL x y = some z) : ¬ y = 0 ∧ z = x / y := by
  unfold dvL at h
  split at h
  · cases h
  · rename_i hc
    exact ⟨hc, (Option.some.inj h).symm⟩
theorem k_ldivV (G : Good X B own cc nL rm) {x y z : Int64} (d : decode cc pc = .ok (.ldiv, 1)) (e : dvL x y = some z) (k : KK X B L nL cn sn M (pc + 1) ls (.long z :: st)) : KK X B L nL cn sn M pc ls (.long y :: .long x :: st) := by
  obtain ⟨h1, rfl⟩ := dvL_ok e
  exact k_ldiv G d h1 k
theorem k_sub (q : List Nat) {ls' : List (Nat × Value)} (h : lv_pick ls q = ls') (k : KK X B L nL cn sn M pc ls' st) : KK X B L nL cn sn M pc ls st := fun H locs la hW hS hl => k H locs la hW hS (lv_sub hl q h)
theorem k_eq {pc' : Nat} {ls' : List (Nat × Value)} {st' : List Value} (h : (pc', ls', st') = (pc, ls, st)) (k : KK X B L nL cn sn M pc' ls' st') : KK X B L nL cn sn M pc ls st := by cases h; exact k
end KRows
/-- outside a switch's table, or at one of its places -/
theorem ts_out (x : Int32) (lo hi : Int) : (x.toInt < lo ∨ hi < x.toInt) ∨ ∃ k : Int, lo ≤ k ∧ k ≤ hi ∧ x = Int32.ofInt k := by
  by_cases h1 : x.toInt < lo
  · exact Or.inl (Or.inl h1)
  · by_cases h2 : hi < x.toInt
    · exact Or.inl (Or.inr h2)
    · exact Or.inr ⟨x.toInt, by omega, by omega, (Int32.ofInt_toInt x).symm⟩
end
section
/-! FIELDS AND ARRAYS, for KK -/
def KC (ci : Nat) (C : String) (T : u_T) (N : Nat) (ty : Nat → FieldType) : Prop :=
  kCl[ci]? = some (C, T, N) ∧ (∀ w ∈ u_ws C T N, w ∈ GT) ∧ (∀ k, k < N → parseFieldDescriptor (T k).2.2.1 = some (ty k)) ∧ (∀ a, a < N → ∀ b, b < N → a ≠ b → (T a).2.1 ≠ (T b).2.1) ∧ kN ci = N ∧ ci < 9
theorem gt_ws {C : String} {T : u_T} {N : Nat} (h : (u_ws C T N).all (fun w => decide (w ∈ lw_tbl) && goodWord w) = true) : ∀ w ∈ u_ws C T N, w ∈ GT := by
  intro w hw
  have h1 := List.all_eq_true.mp h w hw
  rw [Bool.and_eq_true] at h1
  exact List.mem_filter.mpr ⟨of_decide_eq_true h1.1, h1.2⟩
theorem kc0 : KC 0 RX0 TX0 2 tyX0 := ⟨rfl, gt_ws (by decide +kernel), tyX0_ok, nmX0, rfl, by decide⟩
theorem kc1 : KC 1 RX1 TX1 1 tyX1 := ⟨rfl, gt_ws (by decide +kernel), tyX1_ok, nmX1, rfl, by decide⟩
theorem kc2 : KC 2 RX2 TX2 5 tyX2 := ⟨rfl, gt_ws (by decide +kernel), tyX2_ok, nmX2, rfl, by decide⟩
theorem kc3 : KC 3 RX3 TX3 6 tyX3 := ⟨rfl, gt_ws (by decide +kernel), tyX3_ok, nmX3, rfl, by decide⟩
theorem kc4 : KC 4 RX4 TX4 1 tyX4 := ⟨rfl, gt_ws (by decide +kernel), tyX4_ok, nmX4, rfl, by decide⟩
theorem kc5 : KC 5 RX7 TX7 15 tyX7 := ⟨rfl, gt_ws (by decide +kernel), tyX7_ok, nmX7, rfl, by decide⟩
theorem kc6 : KC 6 RX8 TX8 4 tyX8 := ⟨rfl, gt_ws (by decide +kernel), tyX8_ok, nmX8, rfl, by decide⟩
theorem kc7 : KC 7 RX10 TX10 4 tyX10 := ⟨rfl, gt_ws (by decide +kernel), tyX10_ok, nmX10, rfl, by decide⟩
theorem kc8 : KC 8 RX11 TX11 18 tyX11 := ⟨rfl, gt_ws (by decide +kernel), tyX11_ok, nmX11, rfl, by decide⟩
theorem kE_obj {B : KB} {L : KLay} {M : KMem} {k ci : Nat} (hc : L.2.1 k = ci) (h9 : ci < 9) : kE B L M k = .inr (ci, (List.range (kN ci)).map (kV B.1 L M k)) := by
  simp only [kE]
  rw [if_neg (by omega), if_neg (by omega), if_neg (by omega), if_neg (by omega), hc]
theorem kfs_get {g : Nat → Value} {N j : Nat} (h : j < N) : ((List.range N).map g)[j]? = some (g j) := by simp [h]
theorem kfs_set {g g' : Nat → Value} {N j : Nat} {v : Value} (hv : g' j = v) (ho : ∀ i, i ≠ j → g' i = g i) : ((List.range N).map g).set j v = (List.range N).map g' := by
  refine List.ext_getElem? fun i => ?_
  rw [List.getElem?_set]
  by_cases h : j = i
  · subst h
    rw [if_pos rfl]
    by_cases hN : j < N
    · simp [hN, hv]
    · simp [hN]
  · rw [if_neg h]
    by_cases hN : i < N
    · simp [hN, ho i (fun e => h e.symm)]
    · simp [hN]
section HRows
variable {X : KX} {B : KB} {L : KLay} {own : String} {cc : ByteArray} {nL : Nat} {rm : Room} {cn sn : Nat} {M : KMem} {pc : Nat} {ls : List (Nat × Value)} {st : List Value} {ci : Nat} {C : String} {T : u_T} {N : Nat} {ty : Nat → FieldType} {k : Nat}
theorem k_getV (G : Good X B own cc nL rm) (K : KC ci C T N ty) {idx : Nat} (d : decode cc pc = .ok (.getfield idx, 3)) (hk : k < L.1) (hc : L.2.1 k = ci) (j : Nat) (hj : j < N) (hl : Cond.fieldLink own idx (T j).1 (T j).2.1 (T j).2.2.1 ∈ GT) {v : Value} (hv : kV B.1 L M k j = v) (kk : KK X B L nL cn sn M (pc + 3) ls (v :: st)) : KK X B L nL cn sn M pc ls (.ref (B.1 + k) :: st) := by
  intro H locs la hW hS hla
  subst hv
  refine va_get G.1 G.2.1 G.2.2.2.2.1 K.2.1 G.2.2.2.1 G.2.2.2.2.2.1 hW.1 k (fs := (List.range (kN ci)).map (kV B.1 L M k)) ?_ K.1 j hj (G.2.2.2.2.1 _ hl) (fun _ h => h) ?_ d (kk H locs la hW hS hla)
  · rw [kW_get hk, kE_obj hc K.2.2.2.2.2]
  · exact kfs_get (by rw [K.2.2.2.2.1]; exact hj)
theorem k_getVN (G : Good X B own cc nL rm) (K : KC ci C T N ty) {idx : Nat} {host : String} (d : decode cc pc = .ok (.getfield idx, 3)) (hk : k < L.1) (hc : L.2.1 k = ci) (j : Nat) (hj : j < N) (hl : Cond.fieldLinkNest own idx (T j).1 (T j).2.1 (T j).2.2.1 host ∈ lw_tbl) {v : Value} (hv : kV B.1 L M k j = v) (kk : KK X B L nL cn sn M (pc + 3) ls (v :: st)) : KK X B L nL cn sn M pc ls (.ref (B.1 + k) :: st) := by
  intro H locs la hW hS hla
  subst hv
  refine va_getN G.1 G.2.1 G.2.2.2.2.1 K.2.1 G.2.2.2.1 G.2.2.2.2.2.1 hW.1 k (fs := (List.range (kN ci)).map (kV B.1 L M k)) ?_ K.1 j hj (va_Nw.use rfl (G.2.2.2.2.2.2.1.1.1 _ hl rfl)) (fun _ h => h) ?_ d (kk H locs la hW hS hla)
  · rw [kW_get hk, kE_obj hc K.2.2.2.2.2]
  · exact kfs_get (by rw [K.2.2.2.2.1]; exact hj)
theorem kV_i {b : Nat} {j : Nat} (h : kR (L.2.1 k) j = false) : kV b L M k j = .int (M k j) := by simp [kV, h]
theorem kV_r {b : Nat} {j q : Nat} (h : kR (L.2.1 k) j = true) (hq : L.2.2.2 k j = some q) : kV b L M k j = .ref (b + q) := by simp [kV, h, hq, va_rf]
/-- a field that is a number -/
theorem k_getI (G : Good X B own cc nL rm) (K : KC ci C T N ty) {idx : Nat} (d : decode cc pc = .ok (.getfield idx, 3)) (hk : k < L.1) (hc : L.2.1 k = ci) (j : Nat) (hj : j < N) (hR : kR ci j = false) (hl : Cond.fieldLink own idx (T j).1 (T j).2.1 (T j).2.2.1 ∈ GT) (kk : KK X B L nL cn sn M (pc + 3) ls (.int (M k j) :: st)) : KK X B L nL cn sn M pc ls (.ref (B.1 + k) :: st) :=
  k_getV G K d hk hc j hj hl (kV_i (by rw [hc]; exact hR)) kk
theorem k_getIN (G : Good X B own cc nL rm) (K : KC ci C T N ty) {idx : Nat} {host : String} (d : decode cc pc = .ok (.getfield idx, 3)) (hk : k < L.1) (hc : L.2.1 k = ci) (j : Nat) (hj : j < N) (hR : kR ci j = false) (hl : Cond.fieldLinkNest own idx (T j).1 (T j).2.1 (T j).2.2.1 host ∈ lw_tbl) (kk : KK X B L nL cn sn M (pc + 3) ls (.int (M k j) :: st)) : KK X B L nL cn sn M pc ls (.ref (B.1 + k) :: st) :=
  k_getVN G K d hk hc j hj hl (kV_i (by rw [hc]; exact hR)) kk
/-- a field that is a reference -/
theorem k_getR (G : Good X B own cc nL rm) (K : KC ci C T N ty) {idx : Nat} (d : decode cc pc = .ok (.getfield idx, 3)) (hk : k < L.1) (hc : L.2.1 k = ci) (j : Nat) (hj : j < N) (hR : kR ci j = true) (hl : Cond.fieldLink own idx (T j).1 (T j).2.1 (T j).2.2.1 ∈ GT) (q : Nat) (hq : L.2.2.2 k j = some q) (kk : KK X B L nL cn sn M (pc + 3) ls (.ref (B.1 + q) :: st)) : KK X B L nL cn sn M pc ls (.ref (B.1 + k) :: st) :=
  k_getV G K d hk hc j hj hl (kV_r (by rw [hc]; exact hR) hq) kk
theorem k_getRN (G : Good X B own cc nL rm) (K : KC ci C T N ty) {idx : Nat} {host : String} (d : decode cc pc = .ok (.getfield idx, 3)) (hk : k < L.1) (hc : L.2.1 k = ci) (j : Nat) (hj : j < N) (hR : kR ci j = true) (hl : Cond.fieldLinkNest own idx (T j).1 (T j).2.1 (T j).2.2.1 host ∈ lw_tbl) (q : Nat) (hq : L.2.2.2 k j = some q) (kk : KK X B L nL cn sn M (pc + 3) ls (.ref (B.1 + q) :: st)) : KK X B L nL cn sn M pc ls (.ref (B.1 + k) :: st) :=
  k_getVN G K d hk hc j hj hl (kV_r (by rw [hc]; exact hR) hq) kk
theorem kW_up {B : KB} {e : va_E} {i : Nat} {x : Int32} (hk : k < L.1) (he : kE B L (kup M k i x) k = e) : (kW B L M).set k (B.1 + k, e) = kW B L (kup M k i x) :=
  kW_set hk rfl he (fun j hj => kE_n (kup_n M i x hj))
theorem KW_put {H H1 : Heap} {M' : KMem} {L' : KLay} {ws : va_W} (h : KW B L M H) (hn : L'.1 = L.1) (hz : H1.size = H.size) (hP : va_P B.2.1 kCl ws H1) (hw : ws = kW B L' M') : KW B L' M' H1 := by
  subst hw
  exact ⟨hP, fun e => by rw [hz, hn]; exact h.2.1 e, by rw [hz]; exact h.2.2⟩
/-- a field that isn't final is written -/
theorem k_putV (G : Good X B own cc nL rm) (K : KC ci C T N ty) {idx : Nat} (d : decode cc pc = .ok (.putfield idx, 3)) (hk : k < L.1) (hc : L.2.1 k = ci) (j : Nat) (hj : j < N) (hfin : (T j).2.2.2 = false) (hl : Cond.fieldLink own idx (T j).1 (T j).2.1 (T j).2.2.1 ∈ GT) {v : Value} (hn : narrow (ty j) v = v) (hfit : fits (ty j) v = true) {L' : KLay} {M' : KMem} (hL : L'.1 = L.1)
    (he : kE B L' M' k = .inr (ci, ((List.range (kN ci)).map (kV B.1 L M k)).set j v)) (ho : ∀ i, i ≠ k → kE B L' M' i = kE B L M i) (kk : KK X B L' nL cn sn M' (pc + 3) ls st) : KK X B L nL cn sn M pc ls (v :: .ref (B.1 + k) :: st) := by
  intro H locs la hW hS hla
  obtain ⟨hcl, hin, hty, hnm, hN, h9⟩ := K
  have hK := G.2.2.2.2.2.1
  have hts := G.2.2.2.2.1
  have hown := G.2.2.2.1
  have hap := va_apart (own := own) hts hin ty hty hnm hK hcl
  have hget : (kW B L M)[k]? = some (B.1 + k, .inr (ci, (List.range (kN ci)).map (kV B.1 L M k))) := by rw [kW_get hk, kE_obj hc h9]
  obtain ⟨r, h1, cell, q1, q2, q3, q4⟩ := hW.1 k _ hget
  have hr : r = (C, T, N) := Option.some.inj (h1.symm.trans hcl)
  subst hr
  obtain ⟨hSl, hfc, kC, hkC, hkind⟩ := hK.1 ci _ hcl
  obtain ⟨cf, kf, fi, f, hi, hsl⟩ := hSl j hj
  have hlay := hts _ (hin _ (u_in_lay hj))
  unfold u_lay at hlay
  rw [if_neg (by rw [hfin]; decide)] at hlay
  have hst := (u_facts hfc hkC (u_lays hts hin hj) hi).1
  have h6 := u_store hfc hkC hkind hlay hi (hty j hj) hn hfit
  refine W.putK G.1 G.2.1 (f := f) ⟨hown, hts _ hl, ⟨_, _, _, hi⟩, hst⟩ (by rw [q2]; exact h6) q1 q3 (by rw [hsl]; exact k2_hasslot (q4 j hj)) rfl rfl d fun H' e1 e2 e3 => ?_
  rw [hsl] at e1 ⊢
  refine kk H' _ la (KW_put hW hL e2 (hW.1.set (kW_D B L M) hget (e := .inr (ci, ((List.range (kN ci)).map (kV B.1 L M k)).set j v)) ⟨_, hcl, t_OB.to (V := updV (vp_V ((List.range (kN ci)).map (kV B.1 L M k))) j v) ⟨_, e1, q2, q3, t_set q4 hap hj v⟩ (fun j' _ => vp_updV_set (by simp [hN, hj]) v j')⟩ e3) (kW_set hk hL he ho)) (hS.put e2 e3 (Nat.le_add_right _ _)) hla
/-- the same, of a nest mate -/
theorem k_putVN (G : Good X B own cc nL rm) (K : KC ci C T N ty) {idx : Nat} {host : String} (d : decode cc pc = .ok (.putfield idx, 3)) (hk : k < L.1) (hc : L.2.1 k = ci) (j : Nat) (hj : j < N) (hfin : (T j).2.2.2 = false) (hl : Cond.fieldLinkNest own idx (T j).1 (T j).2.1 (T j).2.2.1 host ∈ lw_tbl) {v : Value} (hn : narrow (ty j) v = v) (hfit : fits (ty j) v = true) {L' : KLay} {M' : KMem} (hL : L'.1 = L.1)
    (he : kE B L' M' k = .inr (ci, ((List.range (kN ci)).map (kV B.1 L M k)).set j v)) (ho : ∀ i, i ≠ k → kE B L' M' i = kE B L M i) (kk : KK X B L' nL cn sn M' (pc + 3) ls st) : KK X B L nL cn sn M pc ls (v :: .ref (B.1 + k) :: st) := by
  intro H locs la hW hS hla
  obtain ⟨hcl, hin, hty, hnm, hN, h9⟩ := K
  have hK := G.2.2.2.2.2.1
  have hts := G.2.2.2.2.1
  have hown := G.2.2.2.1
  have hap := va_apart (own := own) hts hin ty hty hnm hK hcl
  have hget : (kW B L M)[k]? = some (B.1 + k, .inr (ci, (List.range (kN ci)).map (kV B.1 L M k))) := by rw [kW_get hk, kE_obj hc h9]
  obtain ⟨r, h1, cell, q1, q2, q3, q4⟩ := hW.1 k _ hget
  have hr : r = (C, T, N) := Option.some.inj (h1.symm.trans hcl)
  subst hr
  obtain ⟨hSl, hfc, kC, hkC, hkind⟩ := hK.1 ci _ hcl
  obtain ⟨cf, kf, fi, f, hi, hsl⟩ := hSl j hj
  have hlay := hts _ (hin _ (u_in_lay hj))
  unfold u_lay at hlay
  rw [if_neg (by rw [hfin]; decide)] at hlay
  have hst := (u_facts hfc hkC (u_lays hts hin hj) hi).1
  have h6 := u_store hfc hkC hkind hlay hi (hty j hj) hn hfit
  refine va_WputK G.1 G.2.1 (f := f) hown (va_Nw.use rfl (G.2.2.2.2.2.2.1.1.1 _ hl rfl)) hi hst (by rw [q2]; exact h6) q1 q3 (by rw [hsl]; exact k2_hasslot (q4 j hj)) rfl rfl d fun H' e1 e2 e3 => ?_
  rw [hsl] at e1 ⊢
  refine kk H' _ la (KW_put hW hL e2 (hW.1.set (kW_D B L M) hget (e := .inr (ci, ((List.range (kN ci)).map (kV B.1 L M k)).set j v)) ⟨_, hcl, t_OB.to (V := updV (vp_V ((List.range (kN ci)).map (kV B.1 L M k))) j v) ⟨_, e1, q2, q3, t_set q4 hap hj v⟩ (fun j' _ => vp_updV_set (by simp [hN, hj]) v j')⟩ e3) (kW_set hk hL he ho)) (hS.put e2 e3 (Nat.le_add_right _ _)) hla
/-- a final field is written, in a constructor -/
theorem k_putF (G : Good X B own cc nL rm) (K : KC ci C T N ty) {idx : Nat} (d : decode cc pc = .ok (.putfield idx, 3)) (hk : k < L.1) (hc : L.2.1 k = ci) (j : Nat) (hj : j < N) (hfin : (T j).2.2.2 = true) (hin2 : (xH X).name = "<init>") (hdecl : (T j).1 = own) (hl : Cond.fieldLink own idx (T j).1 (T j).2.1 (T j).2.2.1 ∈ GT) {v : Value} (hn : narrow (ty j) v = v) (hfit : fits (ty j) v = true) {L' : KLay} {M' : KMem} (hL : L'.1 = L.1)
    (he : kE B L' M' k = .inr (ci, ((List.range (kN ci)).map (kV B.1 L M k)).set j v)) (ho : ∀ i, i ≠ k → kE B L' M' i = kE B L M i) (kk : KK X B L' nL cn sn M' (pc + 3) ls st) : KK X B L nL cn sn M pc ls (v :: .ref (B.1 + k) :: st) := by
  intro H locs la hW hS hla
  obtain ⟨hcl, hin, hty, hnm, hN, h9⟩ := K
  have hK := G.2.2.2.2.2.1
  have hts := G.2.2.2.2.1
  have hown := G.2.2.2.1
  have hap := va_apart (own := own) hts hin ty hty hnm hK hcl
  have hget : (kW B L M)[k]? = some (B.1 + k, .inr (ci, (List.range (kN ci)).map (kV B.1 L M k))) := by rw [kW_get hk, kE_obj hc h9]
  obtain ⟨r, h1, cell, q1, q2, q3, q4⟩ := hW.1 k _ hget
  have hr : r = (C, T, N) := Option.some.inj (h1.symm.trans hcl)
  subst hr
  obtain ⟨hSl, hfc, kC, hkC, hkind⟩ := hK.1 ci _ hcl
  obtain ⟨cf, kf, fi, f, hi, hsl⟩ := hSl j hj
  have hlay := hts _ (hin _ (u_in_lay hj))
  unfold u_lay at hlay
  rw [if_pos hfin] at hlay
  have hst := (u_facts hfc hkC (u_lays hts hin hj) hi).1
  have hcf : (xM X).cls = cf := by
    obtain ⟨_, _, c', _, _, _, -, -, hf', -, -, -, hown2, -⟩ := Cond.laysFinal_spec hlay
    have e1 : c' = cf := by have := hi.symm.trans hf'; simp at this; exact this.1.symm
    rw [hdecl] at hown2
    rw [← e1]; exact Option.some.inj (hown.symm.trans hown2)
  have h6 := u_fits hfc hkC hkind (Or.inr hlay) hi (hty j hj) hn hfit
  refine W.putFinK G.1 G.2.1 hown (hts _ hl) hi hst hcf hin2 (by rw [q2]; exact h6) q1 q3 (by rw [hsl]; exact k2_hasslot (q4 j hj)) rfl rfl d fun H' e1 e2 e3 => ?_
  rw [hsl] at e1 ⊢
  refine kk H' _ la (KW_put hW hL e2 (hW.1.set (kW_D B L M) hget (e := .inr (ci, ((List.range (kN ci)).map (kV B.1 L M k)).set j v)) ⟨_, hcl, t_OB.to (V := updV (vp_V ((List.range (kN ci)).map (kV B.1 L M k))) j v) ⟨_, e1, q2, q3, t_set q4 hap hj v⟩ (fun j' _ => vp_updV_set (by simp [hN, hj]) v j')⟩ e3) (kW_set hk hL he ho)) (hS.put e2 e3 (Nat.le_add_right _ _)) hla
/-- a number is written into a field -/
theorem k_putI (G : Good X B own cc nL rm) (K : KC ci C T N ty) {idx : Nat} (d : decode cc pc = .ok (.putfield idx, 3)) (hk : k < L.1) (hc : L.2.1 k = ci) (j : Nat) (hj : j < N) (hR : kR ci j = false) (hfin : (T j).2.2.2 = false) (hl : Cond.fieldLink own idx (T j).1 (T j).2.1 (T j).2.2.1 ∈ GT) {x : Int32} (hn : narrow (ty j) (.int x) = .int x) (hfit : fits (ty j) (.int x) = true) {M' : KMem} (e : some (kup M k j x) = some M') (kk : KK X B L nL cn sn M' (pc + 3) ls st) : KK X B L nL cn sn M pc ls (.int x :: .ref (B.1 + k) :: st) := by
  cases e
  refine k_putV G K d hk hc j hj hfin hl hn hfit (L' := L) (M' := kup M k j x) rfl ?_ (fun i hi => kE_n (kup_n M j x hi)) kk
  rw [kE_obj hc K.2.2.2.2.2]
  refine congrArg (fun z => Sum.inr (ci, z)) (kfs_set ?_ ?_).symm
  · rw [kV_i (by rw [hc]; exact hR), kup_s]
  · intro i hi
    simp only [kV]
    rw [kup_j M k x hi]
/-- the same, of a nest mate -/
theorem k_putIN (G : Good X B own cc nL rm) (K : KC ci C T N ty) {idx : Nat} {host : String} (d : decode cc pc = .ok (.putfield idx, 3)) (hk : k < L.1) (hc : L.2.1 k = ci) (j : Nat) (hj : j < N) (hR : kR ci j = false) (hfin : (T j).2.2.2 = false) (hl : Cond.fieldLinkNest own idx (T j).1 (T j).2.1 (T j).2.2.1 host ∈ lw_tbl) {x : Int32} (hn : narrow (ty j) (.int x) = .int x) (hfit : fits (ty j) (.int x) = true) {M' : KMem} (e : some (kup M k j x) = some M') (kk : KK X B L nL cn sn M' (pc + 3) ls st) : KK X B L nL cn sn M pc ls (.int x :: .ref (B.1 + k) :: st) := by
  cases e
  refine k_putVN G K d hk hc j hj hfin hl hn hfit (L' := L) (M' := kup M k j x) rfl ?_ (fun i hi => kE_n (kup_n M j x hi)) kk
  rw [kE_obj hc K.2.2.2.2.2]
  refine congrArg (fun z => Sum.inr (ci, z)) (kfs_set ?_ ?_).symm
  · rw [kV_i (by rw [hc]; exact hR), kup_s]
  · intro i hi
    simp only [kV]
    rw [kup_j M k x hi]
/-- an array of ints is read, written; of booleans -/
def rdI (M : KMem) (o n : Nat) (i : Int32) : Option Int32 := if i < 0 ∨ n ≤ i.toNatClampNeg then none else some (M o i.toNatClampNeg)
def wrI (M : KMem) (o n : Nat) (i x : Int32) : Option KMem := if i < 0 ∨ n ≤ i.toNatClampNeg then none else some (kup M o i.toNatClampNeg x)
def wrZ (M : KMem) (o n : Nat) (i x : Int32) : Option KMem := if i < 0 ∨ n ≤ i.toNatClampNeg then none else some (kup M o i.toNatClampNeg (vp_nar .boolean x))
def ckI (n : Nat) (i : Int32) : Option Nat := if i < 0 ∨ n ≤ i.toNatClampNeg then none else some i.toNatClampNeg
theorem rdI_ok {M : KMem} {o n : Nat} {i x : Int32} (h : rdI M o n i = some x) : vp_in i n ∧ x = M o i.toNatClampNeg := by
  unfold rdI at h
  split at h
  · cases h
  · rename_i hc
    exact ⟨hc, (Option.some.inj h).symm⟩
theorem wrI_ok {M M' : KMem} {o n : Nat} {i x : Int32} (h : wrI M o n i x = some M') : vp_in i n ∧ M' = kup M o i.toNatClampNeg x := by
  unfold wrI at h
  split at h
  · cases h
  · rename_i hc
    exact ⟨hc, (Option.some.inj h).symm⟩
theorem wrZ_ok {M M' : KMem} {o n : Nat} {i x : Int32} (h : wrZ M o n i x = some M') : vp_in i n ∧ M' = kup M o i.toNatClampNeg (vp_nar .boolean x) := by
  unfold wrZ at h
  split at h
  · cases h
  · rename_i hc
    exact ⟨hc, (Option.some.inj h).symm⟩
theorem ckI_ok {n j : Nat} {i : Int32} (h : ckI n i = some j) : vp_in i n ∧ j = i.toNatClampNeg ∧ j < n := by
  unfold ckI at h
  split at h
  · cases h
  · rename_i hc
    have e := (Option.some.inj h).symm
    exact ⟨hc, e, by rw [e]; exact Nat.not_le.mp fun q => hc (Or.inr q)⟩
theorem kE_9 (h : L.2.1 k = 9) : kE B L M k = .inl (B.2.2.1.1, L.2.2.1 k, .inl (M k)) := by simp [kE, h]
theorem kE_10 (h : L.2.1 k = 10) : kE B L M k = .inl (B.2.2.1.2.1, L.2.2.1 k, .inl (M k)) := by simp [kE, h]
theorem kE_11 (h : L.2.1 k = 11) : kE B L M k = .inl (B.2.2.1.2.2.1, L.2.2.1 k, .inr (.inr (.inr (.inr (fun j => (L.2.2.2 k j).map (B.1 + ·)))))) := by simp [kE, h]
theorem kE_12 (h : L.2.1 k = 12) : kE B L M k = .inl (B.2.2.1.2.2.2, L.2.2.1 k, .inr (.inl (fun j => (M k j).toInt64))) := by simp [kE, h]
theorem k_ild (G : Good X B own cc nL rm) (d : decode cc pc = .ok (.iaload, 1)) (hk : k < L.1) (hc : L.2.1 k = 9) {n : Nat} (hn : L.2.2.1 k = n) {i x : Int32} (e : rdI M k n i = some x) (kk : KK X B L nL cn sn M (pc + 1) ls (.int x :: st)) : KK X B L nL cn sn M pc ls (.int i :: .ref (B.1 + k) :: st) := by
  intro H locs la hW hS hla
  subst hn
  obtain ⟨hi, rfl⟩ := rdI_ok e
  exact va_iald G.1 G.2.1 G.2.2.2.2.2.1 hW.1 k 0 (by rw [kW_get hk, kE_9 hc]) rfl hi d (kk H locs la hW hS hla)
theorem k_zld (G : Good X B own cc nL rm) (d : decode cc pc = .ok (.baload, 1)) (hk : k < L.1) (hc : L.2.1 k = 10) {n : Nat} (hn : L.2.2.1 k = n) {i x : Int32} (e : rdI M k n i = some x) (kk : KK X B L nL cn sn M (pc + 1) ls (.int x :: st)) : KK X B L nL cn sn M pc ls (.int i :: .ref (B.1 + k) :: st) := by
  intro H locs la hW hS hla
  subst hn
  obtain ⟨hi, rfl⟩ := rdI_ok e
  exact va_zald G.1 G.2.1 G.2.2.2.2.2.1 hW.1 k 1 (by rw [kW_get hk, kE_10 hc]) rfl hi d (kk H locs la hW hS hla)
theorem k_qld (G : Good X B own cc nL rm) (d : decode cc pc = .ok (.aaload, 1)) (hk : k < L.1) (hc : L.2.1 k = 11) {n : Nat} (hn : L.2.2.1 k = n) {i : Int32} {j q : Nat} (e : ckI n i = some j) (hq : L.2.2.2 k j = some q) (kk : KK X B L nL cn sn M (pc + 1) ls (.ref (B.1 + q) :: st)) : KK X B L nL cn sn M pc ls (.int i :: .ref (B.1 + k) :: st) := by
  intro H locs la hW hS hla
  subst hn
  obtain ⟨hi, rfl, -⟩ := ckI_ok e
  refine va_aldq G.1 G.2.1 G.2.2.2.2.2.1 hW.1 k 2 (C := "SignReforms$State") (by rw [kW_get hk, kE_11 hc]) rfl hi d ?_
  rw [hq]
  exact kk H locs la hW hS hla
theorem k_ist (G : Good X B own cc nL rm) (d : decode cc pc = .ok (.iastore, 1)) (hk : k < L.1) (hc : L.2.1 k = 9) {n : Nat} (hn : L.2.2.1 k = n) {i x : Int32} {M' : KMem} (e : wrI M k n i x = some M') (kk : KK X B L nL cn sn M' (pc + 1) ls st) : KK X B L nL cn sn M pc ls (.int x :: .int i :: .ref (B.1 + k) :: st) := by
  intro H locs la hW hS hla
  subst hn
  obtain ⟨hi, rfl⟩ := wrI_ok e
  have hget : (kW B L M)[k]? = some (B.1 + k, .inl (B.2.2.1.1, L.2.2.1 k, .inl (M k))) := by rw [kW_get hk, kE_9 hc]
  refine W.iast G.1 G.2.1 (hW.1 k _ hget) ((G.2.2.2.2.2.1.2 0 _ rfl).1 (L.2.2.1 k) (fun j => .int (M k j))) (fun q => by cases q) (by show ¬ (i < 0 ∨ (arrV _ _ _).slots.size ≤ _); rw [arrV_size]; exact hi) rfl rfl d fun H1 e z oq => ?_
  refine kk H1 _ la (KW_put hW rfl z (hW.1.set (kW_D B L M) hget (e := .inl (B.2.2.1.1, L.2.2.1 k, .inl (upd (M k) i.toNatClampNeg x))) ?_ oq) (kW_up hk (by rw [kE_9 hc, kup_o]))) (hS.put z oq (Nat.le_add_right _ _)) hla
  show H1[B.1 + k]? = some (vp_cell _ _)
  rw [e]
  rw [vp_cell_i, vp_cell_i, arrV_store]
  congr 2
  funext q
  by_cases hq : q = i.toNatClampNeg
  · subst hq
    simp [updV, upd]
  · simp [updV, upd, hq]
theorem k_zst (G : Good X B own cc nL rm) (d : decode cc pc = .ok (.bastore, 1)) (hk : k < L.1) (hc : L.2.1 k = 10) {n : Nat} (hn : L.2.2.1 k = n) {i x : Int32} {M' : KMem} (e : wrZ M k n i x = some M') (kk : KK X B L nL cn sn M' (pc + 1) ls st) : KK X B L nL cn sn M pc ls (.int x :: .int i :: .ref (B.1 + k) :: st) := by
  intro H locs la hW hS hla
  subst hn
  obtain ⟨hi, rfl⟩ := wrZ_ok e
  have hget : (kW B L M)[k]? = some (B.1 + k, .inl (B.2.2.1.2.1, L.2.2.1 k, .inl (M k))) := by rw [kW_get hk, kE_10 hc]
  refine W.zast G.1 G.2.1 (hW.1 k _ hget) ((G.2.2.2.2.2.1.2 1 _ rfl).1 (L.2.2.1 k) (fun j => .int (M k j))) (fun q => by cases q) (by show ¬ (i < 0 ∨ (arrV _ _ _).slots.size ≤ _); rw [arrV_size]; exact hi) rfl rfl d fun H1 e z oq => ?_
  refine kk H1 _ la (KW_put hW rfl z (hW.1.set (kW_D B L M) hget (e := .inl (B.2.2.1.2.1, L.2.2.1 k, .inl (upd (M k) i.toNatClampNeg (vp_nar .boolean x)))) ?_ oq) (kW_up hk (by rw [kE_10 hc, kup_o]))) (hS.put z oq (Nat.le_add_right _ _)) hla
  show H1[B.1 + k]? = some (vp_cell _ _)
  rw [e]
  rw [vp_cell_i, vp_cell_i, arrV_store]
  congr 2
  funext q
  by_cases hq : q = i.toNatClampNeg
  · subst hq
    simp [updV, upd, vp_nar]
    try rfl
  · simp [updV, upd, hq]
/-- the law's long: it holds an int -/
theorem k_lst (G : Good X B own cc nL rm) (d : decode cc pc = .ok (.lastore, 1)) (hk : k < L.1) (hc : L.2.1 k = 12) {n : Nat} (hn : L.2.2.1 k = n) {i x : Int32} {M' : KMem} (e : wrI M k n i x = some M') (kk : KK X B L nL cn sn M' (pc + 1) ls st) : KK X B L nL cn sn M pc ls (.long x.toInt64 :: .int i :: .ref (B.1 + k) :: st) := by
  intro H locs la hW hS hla
  subst hn
  obtain ⟨hi, rfl⟩ := wrI_ok e
  have hget : (kW B L M)[k]? = some (B.1 + k, .inl (B.2.2.1.2.2.2, L.2.2.1 k, .inr (.inl (fun j => (M k j).toInt64)))) := by rw [kW_get hk, kE_12 hc]
  refine W.last G.1 G.2.1 (hW.1 k _ hget) ((G.2.2.2.2.2.1.2 3 _ rfl).1 (L.2.2.1 k) (fun j => .long (M k j).toInt64)) (fun q => by cases q) (by show ¬ (i < 0 ∨ (arrV _ _ _).slots.size ≤ _); rw [arrV_size]; exact hi) rfl rfl d fun H1 e z oq => ?_
  refine kk H1 _ la (KW_put hW rfl z (hW.1.set (kW_D B L M) hget (e := .inl (B.2.2.1.2.2.2, L.2.2.1 k, .inr (.inl (fun j => (upd (M k) i.toNatClampNeg x j).toInt64)))) ?_ oq) (kW_up hk (by rw [kE_12 hc, kup_o]))) (hS.put z oq (Nat.le_add_right _ _)) hla
  show H1[B.1 + k]? = some (vp_cell _ _)
  rw [e]
  rw [vp_cell_l, vp_cell_l, arrV_store]
  congr 2
  funext q
  by_cases hq : q = i.toNatClampNeg
  · subst hq
    simp [updV, upd]
  · simp [updV, upd, hq]
theorem k_lld (G : Good X B own cc nL rm) (d : decode cc pc = .ok (.laload, 1)) (hk : k < L.1) (hc : L.2.1 k = 12) {n : Nat} (hn : L.2.2.1 k = n) {i x : Int32} (e : rdI M k n i = some x) (kk : KK X B L nL cn sn M (pc + 1) ls (.long x.toInt64 :: st)) : KK X B L nL cn sn M pc ls (.int i :: .ref (B.1 + k) :: st) := by
  intro H locs la hW hS hla
  subst hn
  obtain ⟨hi, rfl⟩ := rdI_ok e
  exact va_lald G.1 G.2.1 G.2.2.2.2.2.1 hW.1 k 3 (by rw [kW_get hk, kE_12 hc]) rfl hi d (kk H locs la hW hS hla)
theorem k_len (G : Good X B own cc nL rm) (d : decode cc pc = .ok (.arraylength, 1)) (hk : k < L.1) (hc : L.2.1 k = 9) {v : Int32} (hv : Int32.ofNat (L.2.2.1 k) = v) (kk : KK X B L nL cn sn M (pc + 1) ls (.int v :: st)) : KK X B L nL cn sn M pc ls (.ref (B.1 + k) :: st) := by
  intro H locs la hW hS hla
  exact va_alen G.1 G.2.1 G.2.2.2.2.2.1 hW.1 k 0 (by rw [kW_get hk, kE_9 hc]) rfl hv d (kk H locs la hW hS hla)
theorem k_lenZ (G : Good X B own cc nL rm) (d : decode cc pc = .ok (.arraylength, 1)) (hk : k < L.1) (hc : L.2.1 k = 10) {v : Int32} (hv : Int32.ofNat (L.2.2.1 k) = v) (kk : KK X B L nL cn sn M (pc + 1) ls (.int v :: st)) : KK X B L nL cn sn M pc ls (.ref (B.1 + k) :: st) := by
  intro H locs la hW hS hla
  exact va_alen G.1 G.2.1 G.2.2.2.2.2.1 hW.1 k 1 (by rw [kW_get hk, kE_10 hc]) rfl hv d (kk H locs la hW hS hla)
end HRows
end
section
/-! CONTRACTS: a call that returns v (CtrN), or one that returns or throws (CtrX); calls; ends -/
def KPc (B : KB) (L : KLay) (M : KMem) (As : List Value) : Array Value → State → Prop := fun v U => v = As.toArray ∧ KWO B L M U
def KQc (B : KB) (L : KLay) (M : KMem) (v : Option Value) : Array Value → State → Outcome → State → Prop := fun _ st o t => o = .returned v ∧ KW B L M t.heap ∧ va_F (kA B) st t
def KQx (B : KB) (L : KLay) (M : KMem) (r : String ⊕ Option Value) : Array Value → State → Outcome → State → Prop := fun a st o t => ∃ v, r = .inr v ∧ KQc B L M v a st o t
def KXx (B : KB) (L : KLay) (M : KMem) (r : String ⊕ Option Value) : String → State → State → Prop := fun E st t => r = .inl E ∧ KW B L M t.heap ∧ va_F (kA B) st t
def CtrN (l : Launch) (B : KB) (y : MethodName) (bytes : ByteArray) (maxL : Nat) (ret : Option FieldType) (rm : Room) (As : List Value) (L : KLay) (M : KMem) (v : Option Value) (L' : KLay) (M' : KMem) : Prop :=
  Met l y (Cond.code y bytes maxL ret :: GT) rm (KPc B L M As) (KQc B L' M' v) rm.cells rm.slots (kA B)
def CtrX (l : Launch) (B : KB) (y : MethodName) (bytes : ByteArray) (maxL : Nat) (ret : Option FieldType) (rm : Room) (As : List Value) (L : KLay) (M : KMem) (r : String ⊕ Option Value) (M' : KMem) : Prop :=
  vx_Met l y (Cond.code y bytes maxL ret :: GT) rm (KPc B L M As) (KQx B L M' r) (KXx B L M' r) rm.cells rm.slots (kA B)
/-- what the tables say of a method -/
def MI (y : MethodName) (bytes : ByteArray) (maxL : Nat) (ret : Option FieldType) (n : Nat) : Prop :=
  Cond.code y bytes maxL ret ∈ GT ∧ Cond.initialized y.cls ∈ GT ∧ (y.cls ≠ "java/lang/invoke/MethodHandle" ∧ y.cls ≠ "java/lang/invoke/VarHandle") ∧ (parseMethodDescriptor y.desc).map (fun d => d.parameters.length) = some n
def MV (y : MethodName) : Prop := Cond.instanceMethod y ∈ GT ∧ Cond.selects y.cls y y ∈ GT
theorem kpc_blind {B : KB} {L : KLay} {M : KMem} {As : List Value} : FrameBlind (KPc B L M As) := fun a U g mk h =>
  ⟨h.1, h.2.1, va_K.moved (u := U) (U := U.calling g mk a) (Vm.Alike.refl U.vm) h.2.2.1, KS.vmEq (u := U) rfl h.2.2.2⟩
section CRows
variable {X : KX} {B : KB} {L : KLay} {own : String} {cc : ByteArray} {nL : Nat} {rm : Room} {cn sn : Nat} {M : KMem} {pc : Nat} {ls : List (Nat × Value)} {st rest : List Value} {H : Heap} {locs : List Loc}
theorem good_kwo (G : Good X B own cc nL rm) (hW : KW B L M H) (hS : va_S (kA B) (xS X).heap H locs) {U : State} (hU : U.heap = H) (hWm : (xS X).WarmedH U.vm) : KWO B L M U := by
  subst hU
  exact ⟨hW, va_K.moved hWm.alike G.2.2.2.2.2.1, (KS.kept G.2.2.2.2.2.2.1 hS.2.1).moved hWm⟩
theorem good_fix (G : Good X B own cc nL rm) : CallFix (xP X) (xM X) (xC X) cc nL (xS X) (xA X) GT own := ⟨G.1, G.2.1, G.2.2.1, G.2.2.2.1, G.2.2.2.2.1⟩
theorem good_cb (G : Good X B own cc nL rm) {y : MethodName} {bytes : ByteArray} {maxL n idx : Nat} {ret : Option FieldType} {rmc : Room} (m : MI y bytes maxL ret n) (hl : Cond.methodLink own idx y ∈ GT) (hR : Nat.ble (rmc.frames + 1) rm.frames = true ∧ Nat.ble (8 + (maxL + 11) + rmc.locals) rm.locals = true) :
    CallB (xR X) (xS X) (xA X) own idx y bytes maxL ret (Cond.code y bytes maxL ret :: GT) rmc rmc.cells rmc.slots n := by
  obtain ⟨h1, h2, h3, h4⟩ := m
  have hts := G.2.2.2.2.1
  have hrm : xR X = rm := G.2.2.2.2.2.2.2.2.2.2
  refine ⟨rfl, rfl, by rw [hrm]; exact Nat.le_of_ble_eq_true hR.1, by rw [hrm]; exact Nat.le_of_ble_eq_true hR.2, fun w hw a' U hU => ?_, List.mem_cons_self, hts _ h1, hts _ h2, h3, fun sig h => ?_, hts _ hl⟩
  · rcases List.mem_cons.mp hw with rfl | hw
    · exact word_at hU (gt_good h1) (hts _ h1)
    · exact word_at hU (gt_good hw) (hts _ hw)
  · rw [h] at h4
    exact (Option.some.inj h4).symm
/-- behind a call that returns -/
theorem k_run {L' : KLay} {M' : KMem} {v : Option Value} {mc ms : Nat} {a : Array Value} {la : Array Slot} {st0 : List Value} (hS : va_S (kA B) (xS X).heap H locs) (hl : lv_has la nL ls)
    (hr : va_Run (xP X) (xL X) (xE X) (xR X) (xS X) (xM X) (xA X) (xW X) (xH X) (xC X) H locs cn sn mc ms (F0 (xM X) pc la st0) rest (KQc B L' M' v a) (kA B))
    (kk : KK X B L' nL (cn + mc) (sn + ms) M' (pc + 3) ls (v.toList ++ rest)) : W (xP X) (xL X) (xE X) (xR X) (xS X) (xM X) (xA X) (xW X) (xH X) (xC X) H locs cn sn (xQ X) (F0 (xM X) pc la st0) := by
  intro T hT Y
  obtain ⟨v', st₀, t, T', L9, h0, Y', hL, e1, e2, ⟨hv, hQ, hz, hq⟩, hgo⟩ := hr T hT Y
  cases hv
  rw [h0] at hz hq
  obtain ⟨t2, a1, b1⟩ := kk T'.heap (locs ++ L9) la (by rw [e1]; exact hQ)
    ⟨Nat.le_trans hS.1 (by rw [e1]; exact hz), fun q h1 h2 => by rw [e1, hq q (Nat.lt_of_lt_of_le h1 hS.1) h2]; exact hS.2.1 q h1 h2, fun q hq => by
      rcases List.mem_append.mp hq with h | h
      · exact hS.2.2 q h
      · exact hL q h⟩ hl T' rfl Y'
  exact ⟨t2, hgo t2 a1, b1⟩
/-- a call of an object's method -/
theorem k_callV (G : Good X B own cc nL rm) {idx : Nat} (d : decode cc pc = .ok (.invokevirtual idx, 3)) {ci : Nat} {C : String} {T : u_T} {N : Nat} {ty : Nat → FieldType} (K : KC ci C T N ty) {k : Nat} (hk : k < L.1) (hc : L.2.1 k = ci) {y : MethodName} {bytes : ByteArray} {maxL n : Nat} {ret : Option FieldType} {rmc : Room} (m : MI y bytes maxL ret n) (mv : MV y) (hC : y.cls = C) (hl : Cond.methodLink own idx y ∈ GT) {As : List Value} {v : Option Value} {L' : KLay} {M' : KMem}
    (hM : CtrN (xL X) B y bytes maxL ret rmc (.ref (B.1 + k) :: As) L M v L' M') (hn : As.length = n) (hs : st = As.reverse ++ .ref (B.1 + k) :: rest) (hR : Nat.ble (rmc.frames + 1) rm.frames = true ∧ Nat.ble (8 + (maxL + 11) + rmc.locals) rm.locals = true) (hr : Nat.ble ((rest.map fun v => v.category).sum) 8 = true) (hcs : Nat.ble (cn + rmc.cells) rm.cells = true ∧ Nat.ble (sn + rmc.slots) rm.slots = true)
    (kk : KK X B L' nL (cn + rmc.cells) (sn + rmc.slots) M' (pc + 3) ls (v.toList ++ rest)) : KK X B L nL cn sn M pc ls st := by
  intro H locs la hW hS hla
  subst hC
  have hrm : xR X = rm := G.2.2.2.2.2.2.2.2.2.2
  refine k_run hS hla (va_runV (good_fix G) hM ⟨good_cb G m hl hR, G.2.2.2.2.1 _ mv.1, G.2.2.2.2.1 _ mv.2⟩ ⟨kpc_blind, va_recv G.2.2.2.2.2.1 hW.1 (ci := ci) (q0 := k) K.1 (by rw [kW_get hk, kE_obj hc K.2.2.2.2.2]), fun U hU hWm => ⟨rfl, good_kwo G hW hS hU hWm⟩⟩ rfl hn hla.1 hs (lv_room (Nat.le_of_ble_eq_true hr)) d (by rw [hrm]; exact ⟨Nat.le_of_ble_eq_true hcs.1, Nat.le_of_ble_eq_true hcs.2⟩)) kk
/-- a call of a static method -/
theorem k_callS (G : Good X B own cc nL rm) {idx : Nat} (d : decode cc pc = .ok (.invokestatic idx, 3)) {y : MethodName} {bytes : ByteArray} {maxL n : Nat} {ret : Option FieldType} {rmc : Room} (m : MI y bytes maxL ret n) (ms : Cond.static y ∈ GT) (hl : Cond.methodLink own idx y ∈ GT) {As : List Value} {v : Option Value} {L' : KLay} {M' : KMem}
    (hM : CtrN (xL X) B y bytes maxL ret rmc As L M v L' M') (hn : As.length = n) (hs : st = As.reverse ++ rest) (hR : Nat.ble (rmc.frames + 1) rm.frames = true ∧ Nat.ble (8 + (maxL + 11) + rmc.locals) rm.locals = true) (hr : Nat.ble ((rest.map fun v => v.category).sum) 8 = true) (hcs : Nat.ble (cn + rmc.cells) rm.cells = true ∧ Nat.ble (sn + rmc.slots) rm.slots = true)
    (kk : KK X B L' nL (cn + rmc.cells) (sn + rmc.slots) M' (pc + 3) ls (v.toList ++ rest)) : KK X B L nL cn sn M pc ls st := by
  intro H locs la hW hS hla
  have hrm : xR X = rm := G.2.2.2.2.2.2.2.2.2.2
  refine k_run hS hla (va_runS (good_fix G) hM ⟨good_cb G m hl hR, G.2.2.2.2.1 _ ms⟩ ⟨kpc_blind, fun U hU hWm => ⟨rfl, good_kwo G hW hS hU hWm⟩⟩ rfl hn hla.1 hs (lv_room (Nat.le_of_ble_eq_true hr)) d (by rw [hrm]; exact ⟨Nat.le_of_ble_eq_true hcs.1, Nat.le_of_ble_eq_true hcs.2⟩)) kk
/-- a call of a constructor -/
theorem k_callI (G : Good X B own cc nL rm) {idx : Nat} (d : decode cc pc = .ok (.invokespecial idx, 3)) {k : Nat} {y : MethodName} {bytes : ByteArray} {maxL n : Nat} {rmc : Room} (m : MI y bytes maxL none n) (mi : y.name = "<init>" ∧ Cond.instanceMethod y ∈ GT) (hl : Cond.methodLink own idx y ∈ GT) {As : List Value} {v : Option Value} {L' : KLay} {M' : KMem}
    (hM : CtrN (xL X) B y bytes maxL none rmc (.ref (B.1 + k) :: As) L M v L' M') (hn : As.length = n) (hs : st = As.reverse ++ .ref (B.1 + k) :: rest) (hR : Nat.ble (rmc.frames + 1) rm.frames = true ∧ Nat.ble (8 + (maxL + 11) + rmc.locals) rm.locals = true) (hr : Nat.ble ((rest.map fun v => v.category).sum) 8 = true) (hcs : Nat.ble (cn + rmc.cells) rm.cells = true ∧ Nat.ble (sn + rmc.slots) rm.slots = true)
    (kk : KK X B L' nL (cn + rmc.cells) (sn + rmc.slots) M' (pc + 3) ls (v.toList ++ rest)) : KK X B L nL cn sn M pc ls st := by
  intro H locs la hW hS hla
  have hrm : xR X = rm := G.2.2.2.2.2.2.2.2.2.2
  refine k_run hS hla (va_runI (good_fix G) hM ⟨good_cb G m hl hR, mi.1, G.2.2.2.2.1 _ mi.2⟩ ⟨kpc_blind, fun U hU hWm => ⟨rfl, good_kwo G hW hS hU hWm⟩⟩ rfl hn hla.1 hs (lv_room (Nat.le_of_ble_eq_true hr)) d (by rw [hrm]; exact ⟨Nat.le_of_ble_eq_true hcs.1, Nat.le_of_ble_eq_true hcs.2⟩)) kk
/-- a call of a nest mate's private constructor -/
theorem k_callIN (G : Good X B own cc nL rm) {idx : Nat} {host : String} (d : decode cc pc = .ok (.invokespecial idx, 3)) {k : Nat} {y : MethodName} {bytes : ByteArray} {maxL n : Nat} {rmc : Room} (m : MI y bytes maxL none n) (mi : y.name = "<init>" ∧ Cond.instanceMethod y ∈ GT) (hl : Cond.methodLinkNest own idx y host ∈ lw_tbl) {As : List Value} {v : Option Value} {L' : KLay} {M' : KMem}
    (hM : CtrN (xL X) B y bytes maxL none rmc (.ref (B.1 + k) :: As) L M v L' M') (hn : As.length = n) (hs : st = As.reverse ++ .ref (B.1 + k) :: rest) (hR : Nat.ble (rmc.frames + 1) rm.frames = true ∧ Nat.ble (8 + (maxL + 11) + rmc.locals) rm.locals = true) (hr : Nat.ble ((rest.map fun v => v.category).sum) 8 = true) (hcs : Nat.ble (cn + rmc.cells) rm.cells = true ∧ Nat.ble (sn + rmc.slots) rm.slots = true)
    (kk : KK X B L' nL (cn + rmc.cells) (sn + rmc.slots) M' (pc + 3) ls (v.toList ++ rest)) : KK X B L nL cn sn M pc ls st := by
  intro H locs la hW hS hla
  have hrm : xR X = rm := G.2.2.2.2.2.2.2.2.2.2
  obtain ⟨h1, h2, h3, h4⟩ := m
  have hts := G.2.2.2.2.1
  have hG : GoodIn GT (Cond.code y bytes maxL none :: GT) := fun w hw => by
    rcases List.mem_cons.mp hw with rfl | hw
    · exact ⟨h1, gt_good h1⟩
    · exact ⟨hw, gt_good hw⟩
  refine k_run hS hla (va_runIN (good_fix G) hM ⟨va_cnB (host := host) n hts hG rfl rfl rfl (G.2.2.2.2.2.2.1.1.1 _ hl rfl) (hts _ h2) ⟨h3.1, h3.2, h4⟩ (by rw [hrm]; exact ⟨Nat.le_of_ble_eq_true hR.1, Nat.le_of_ble_eq_true hR.2⟩), mi.1, hts _ mi.2⟩ ⟨kpc_blind, fun U hU hWm => ⟨rfl, good_kwo G hW hS hU hWm⟩⟩ rfl hn hla.1 hs (lv_room (Nat.le_of_ble_eq_true hr)) d (by rw [hrm]; exact ⟨Nat.le_of_ble_eq_true hcs.1, Nat.le_of_ble_eq_true hcs.2⟩)) kk
theorem k_cVI (G : Good X B own cc nL rm) {idx : Nat} (d : decode cc pc = .ok (.invokevirtual idx, 3)) {ci : Nat} {C : String} {T : u_T} {N : Nat} {ty : Nat → FieldType} (K : KC ci C T N ty) {k : Nat} (hk : k < L.1) (hc : L.2.1 k = ci) {y : MethodName} {bytes : ByteArray} {maxL n : Nat} {ret : Option FieldType} {rmc : Room} (m : MI y bytes maxL ret n) (mv : MV y) (hC : y.cls = C) (hl : Cond.methodLink own idx y ∈ GT) {As : List Value} {v : Int32} {L' : KLay} {M' : KMem}
    (hM : CtrN (xL X) B y bytes maxL ret rmc (.ref (B.1 + k) :: As) L M (some (.int v)) L' M') (hn : As.length = n) (hs : st = As.reverse ++ .ref (B.1 + k) :: rest) (hR : Nat.ble (rmc.frames + 1) rm.frames = true ∧ Nat.ble (8 + (maxL + 11) + rmc.locals) rm.locals = true) (hr : Nat.ble ((rest.map fun v => v.category).sum) 8 = true) (hcs : Nat.ble (cn + rmc.cells) rm.cells = true ∧ Nat.ble (sn + rmc.slots) rm.slots = true) (hz : rmc.cells = 0 ∧ rmc.slots = 0)
    (kk : KK X B L' nL cn sn M' (pc + 3) ls (.int v :: rest)) : KK X B L nL cn sn M pc ls st :=
  k_callV G d K hk hc m mv hC hl hM hn hs hR hr hcs (by rw [hz.1, hz.2]; exact kk)
theorem k_cVV (G : Good X B own cc nL rm) {idx : Nat} (d : decode cc pc = .ok (.invokevirtual idx, 3)) {ci : Nat} {C : String} {T : u_T} {N : Nat} {ty : Nat → FieldType} (K : KC ci C T N ty) {k : Nat} (hk : k < L.1) (hc : L.2.1 k = ci) {y : MethodName} {bytes : ByteArray} {maxL n : Nat} {ret : Option FieldType} {rmc : Room} (m : MI y bytes maxL ret n) (mv : MV y) (hC : y.cls = C) (hl : Cond.methodLink own idx y ∈ GT) {As : List Value} {L' : KLay} {M' : KMem}
    (hM : CtrN (xL X) B y bytes maxL ret rmc (.ref (B.1 + k) :: As) L M none L' M') (hn : As.length = n) (hs : st = As.reverse ++ .ref (B.1 + k) :: rest) (hR : Nat.ble (rmc.frames + 1) rm.frames = true ∧ Nat.ble (8 + (maxL + 11) + rmc.locals) rm.locals = true) (hr : Nat.ble ((rest.map fun v => v.category).sum) 8 = true) (hcs : Nat.ble (cn + rmc.cells) rm.cells = true ∧ Nat.ble (sn + rmc.slots) rm.slots = true) (hz : rmc.cells = 0 ∧ rmc.slots = 0)
    (kk : KK X B L' nL cn sn M' (pc + 3) ls rest) : KK X B L nL cn sn M pc ls st :=
  k_callV G d K hk hc m mv hC hl hM hn hs hR hr hcs (by rw [hz.1, hz.2]; exact kk)
theorem k_cSI (G : Good X B own cc nL rm) {idx : Nat} (d : decode cc pc = .ok (.invokestatic idx, 3)) {y : MethodName} {bytes : ByteArray} {maxL n : Nat} {ret : Option FieldType} {rmc : Room} (m : MI y bytes maxL ret n) (ms : Cond.static y ∈ GT) (hl : Cond.methodLink own idx y ∈ GT) {As : List Value} {v : Int32} {L' : KLay} {M' : KMem}
    (hM : CtrN (xL X) B y bytes maxL ret rmc As L M (some (.int v)) L' M') (hn : As.length = n) (hs : st = As.reverse ++ rest) (hR : Nat.ble (rmc.frames + 1) rm.frames = true ∧ Nat.ble (8 + (maxL + 11) + rmc.locals) rm.locals = true) (hr : Nat.ble ((rest.map fun v => v.category).sum) 8 = true) (hcs : Nat.ble (cn + rmc.cells) rm.cells = true ∧ Nat.ble (sn + rmc.slots) rm.slots = true) (hz : rmc.cells = 0 ∧ rmc.slots = 0)
    (kk : KK X B L' nL cn sn M' (pc + 3) ls (.int v :: rest)) : KK X B L nL cn sn M pc ls st :=
  k_callS G d m ms hl hM hn hs hR hr hcs (by rw [hz.1, hz.2]; exact kk)
theorem k_cSV (G : Good X B own cc nL rm) {idx : Nat} (d : decode cc pc = .ok (.invokestatic idx, 3)) {y : MethodName} {bytes : ByteArray} {maxL n : Nat} {ret : Option FieldType} {rmc : Room} (m : MI y bytes maxL ret n) (ms : Cond.static y ∈ GT) (hl : Cond.methodLink own idx y ∈ GT) {As : List Value} {L' : KLay} {M' : KMem}
    (hM : CtrN (xL X) B y bytes maxL ret rmc As L M none L' M') (hn : As.length = n) (hs : st = As.reverse ++ rest) (hR : Nat.ble (rmc.frames + 1) rm.frames = true ∧ Nat.ble (8 + (maxL + 11) + rmc.locals) rm.locals = true) (hr : Nat.ble ((rest.map fun v => v.category).sum) 8 = true) (hcs : Nat.ble (cn + rmc.cells) rm.cells = true ∧ Nat.ble (sn + rmc.slots) rm.slots = true) (hz : rmc.cells = 0 ∧ rmc.slots = 0)
    (kk : KK X B L' nL cn sn M' (pc + 3) ls rest) : KK X B L nL cn sn M pc ls st :=
  k_callS G d m ms hl hM hn hs hR hr hcs (by rw [hz.1, hz.2]; exact kk)
end CRows
end
section
/-! ENDS: answers, throws; natives; contracts out of bodies -/
section ERows
variable {X : KX} {B : KB} {L : KLay} {own : String} {cc : ByteArray} {nL : Nat} {rm : Room} {cn sn : Nat} {M : KMem} {pc : Nat} {ls : List (Nat × Value)} {st rest : List Value} {H : Heap} {locs : List Loc}
/-- Math.min, System.arraycopy -/
def jmin (x y : Int32) : Int32 := if y < x then y else x
theorem k_min (G : Good X B own cc nL rm) {idx : Nat} (d : decode cc pc = .ok (.invokestatic idx, 3)) (hl : Cond.methodLink own idx Lib.Math.min.name ∈ GT) (hm : Cond.static Lib.Math.min.name ∈ GT ∧ Cond.initialized "java/lang/Math" ∈ GT ∧ Cond.code Lib.Math.min.name Lib.Math.min.code 2 (some .int) ∈ GT) (hR : Nat.ble 1 rm.frames = true ∧ Nat.ble ((st.map fun v => v.category).sum + 13) rm.locals = true ∧ Nat.ble cn rm.cells = true ∧ Nat.ble sn rm.slots = true) {x y : Int32}
    (kk : KK X B L nL cn sn M (pc + 3) ls (.int (jmin x y) :: st)) : KK X B L nL cn sn M pc ls (.int y :: .int x :: st) := by
  intro H locs la hW hS hla
  have hrm : xR X = rm := G.2.2.2.2.2.2.2.2.2.2
  have hts := G.2.2.2.2.1
  exact va_mmin G.1 G.2.1 (by rw [G.2.2.1, hla.1]) G.2.2.2.1 (hts _ hl) (hts _ hm.1) (hts _ hm.2.1) (hts _ hm.2.2) (by rw [hrm]; exact Nat.le_of_ble_eq_true hR.1) (by rw [hrm]; exact Nat.le_of_ble_eq_true hR.2.1) (by rw [hrm]; exact Nat.le_of_ble_eq_true hR.2.2.1) (by rw [hrm]; exact Nat.le_of_ble_eq_true hR.2.2.2) d (kk H locs la hW hS hla)
def cpM (M : KMem) (o0 o1 sp dp n : Nat) : KMem := fun o => if o = o1 then va_cpy (M o0) (M o1) sp dp n else M o
def cpI (M : KMem) (o0 n0 o1 n1 : Nat) (sp dp n : Int32) : Option KMem :=
  if sp < 0 ∨ dp < 0 ∨ n < 0 ∨ n0 < sp.toNatClampNeg + n.toNatClampNeg ∨ n1 < dp.toNatClampNeg + n.toNatClampNeg then none else some (cpM M o0 o1 sp.toNatClampNeg dp.toNatClampNeg n.toNatClampNeg)
theorem k_copy (G : Good X B own cc nL rm) (hx : B.2.2.2 = false) {idx : Nat} (d : decode cc pc = .ok (.invokestatic idx, 3)) (hl : Cond.methodLink own idx arraycopyName ∈ GT) (hm : Cond.native arraycopyName ∈ GT ∧ Cond.static arraycopyName ∈ GT ∧ Cond.initialized "java/lang/System" ∈ GT) (hR : Nat.ble 1 rm.frames = true ∧ Nat.ble ((st.map fun v => v.category).sum + (nativeFrameWords "java/lang/System" "arraycopy" 5 + 11)) rm.locals = true)
    {k0 k1 n0 n1 : Nat} (hk0 : k0 < L.1) (hc0 : L.2.1 k0 = 9) (hn0 : L.2.2.1 k0 = n0) (hk1 : k1 < L.1) (hc1 : L.2.1 k1 = 9) (hn1 : L.2.2.1 k1 = n1) {sp dp n : Int32} {M' : KMem} (e : cpI M k0 n0 k1 n1 sp dp n = some M')
    (kk : KK X B L nL cn sn M' (pc + 3) ls st) : KK X B L nL cn sn M pc ls (.int n :: .int dp :: .ref (B.1 + k1) :: .int sp :: .ref (B.1 + k0) :: st) := by
  intro H locs la hW hS hla
  have hrm : xR X = rm := G.2.2.2.2.2.2.2.2.2.2
  have hts := G.2.2.2.2.1
  subst hn0; subst hn1
  unfold cpI at e
  split at e
  · cases e
  · rename_i hc
    cases e
    have g1 : ¬ sp < 0 := fun h => hc (Or.inl h)
    have g2 : ¬ dp < 0 := fun h => hc (Or.inr (Or.inl h))
    have g3 : ¬ n < 0 := fun h => hc (Or.inr (Or.inr (Or.inl h)))
    have g4 : ¬ L.2.2.1 k0 < sp.toNatClampNeg + n.toNatClampNeg := fun h => hc (Or.inr (Or.inr (Or.inr (Or.inl h))))
    have g5 : ¬ L.2.2.1 k1 < dp.toNatClampNeg + n.toNatClampNeg := fun h => hc (Or.inr (Or.inr (Or.inr (Or.inr h))))
    refine va_copyi G.1 G.2.1 (by rw [G.2.2.1, hla.1]) G.2.2.2.1 (hts _ hl) (hts _ hm.1) (hts _ hm.2.1) (hts _ hm.2.2) G.2.2.2.2.2.1 hW.1 (kW_D B L M) hS k0 k1 0 0 (by rw [kW_get hk0, kE_9 hc0]) (by rw [kW_get hk1, kE_9 hc1]) rfl rfl rfl g1 g2 g3 (Nat.not_lt.mp g4) (Nat.not_lt.mp g5) (fun _ _ => rfl) (by rw [hrm]; exact Nat.le_of_ble_eq_true hR.1) (by rw [hrm]; exact Nat.le_of_ble_eq_true hR.2) d fun H1 locs1 hP hD hS1 => ?_
    refine kk H1 locs1 la ⟨?_, (fun e => by rw [hx] at e; cases e), Nat.le_trans G.2.2.2.2.2.2.2.1 hS1.1⟩ hS1 hla
    rw [kW_set (L' := L) (M' := cpM M k0 k1 sp.toNatClampNeg dp.toNatClampNeg n.toNatClampNeg) hk1 rfl (by rw [kE_9 hc1]; simp [cpM]) (fun j hj => kE_n (by simp [cpM, hj]))] at hP
    exact hP
/-- answers -/
def RI (X : KX) (B : KB) (L : KLay) (nL : Nat) (cc : ByteArray) (fty : FieldType) (rm : Room) (v : Int32) (M : KMem) : Prop := ∀ (cn sn pc : Nat) (ls : List (Nat × Value)), Nat.ble cn rm.cells = true → Nat.ble sn rm.slots = true → narrow fty (.int v) = .int v → decode cc pc = .ok (.ireturn, 1) → KK X B L nL cn sn M pc ls [.int v]
def RV (X : KX) (B : KB) (L : KLay) (nL : Nat) (cc : ByteArray) (rm : Room) (M : KMem) : Prop := ∀ (cn sn pc : Nat) (ls : List (Nat × Value)), Nat.ble cn rm.cells = true → Nat.ble sn rm.slots = true → decode cc pc = .ok (.return_, 1) → KK X B L nL cn sn M pc ls []
/-- an exception that a callee threw goes on -/
def RP (X : KX) (B : KB) (L : KLay) (nL : Nat) (rm : Room) (E : String) (M : KMem) : Prop := ∀ (cn sn pc : Nat) (ls : List (Nat × Value)) (st : List Value), Nat.ble cn rm.cells = true → Nat.ble sn rm.slots = true → KT X B L nL cn sn M pc ls st E
/-- the words of 'throw new E("text")' -/
def tsW (own : String) (ik ic : Nat) (cls : String) (names : List String) : Bool :=
  decide (Cond.classLink own ik cls ∈ lw_tbl) && goodWord (Cond.classLink own ik cls) && (decide (Cond.initialized cls ∈ lw_tbl) && ((vx_atS own ic cls names).all (fun w => decide (w ∈ lw_tbl) && (goodWord w || nwWord w) && vx_ot w) && (Bundle.fit cls && names.all Bundle.fit)))
/-- 'throw new E("text")' -/
def RT (X : KX) (B : KB) (L : KLay) (nL : Nat) (own : String) (cc : ByteArray) (rm : Room) (E : String) (M : KMem) : Prop := ∀ (cn sn pc : Nat) (ls : List (Nat × Value)) (st : List Value) (ik is ic : Nat) (text : String) (names : List String), tsW own ik ic E names = true → Cond.stringRef own is text ∈ lw_tbl →
  decode cc pc = .ok (.new ik, 3) → decode cc (pc + 3) = .ok (.dup, 1) → decode cc (pc + 4) = .ok (.ldc is, 2) → decode cc (pc + 6) = .ok (.invokespecial ic, 3) → decode cc (pc + 9) = .ok (.athrow, 1) → Nat.ble (cn + 1) rm.cells = true → Nat.ble (sn + 6) rm.slots = true → Nat.ble (names.length + 4) rm.frames = true → Nat.ble ((st.map fun v => v.category).sum + (13 * (names.length + 1) + 43)) rm.locals = true → KK X B L nL cn sn M pc ls st
/-- the same, by ldc_w -/
def RTW (X : KX) (B : KB) (L : KLay) (nL : Nat) (own : String) (cc : ByteArray) (rm : Room) (E : String) (M : KMem) : Prop := ∀ (cn sn pc : Nat) (ls : List (Nat × Value)) (st : List Value) (ik is ic : Nat) (text : String) (names : List String), tsW own ik ic E names = true → Cond.stringRef own is text ∈ lw_tbl →
  decode cc pc = .ok (.new ik, 3) → decode cc (pc + 3) = .ok (.dup, 1) → decode cc (pc + 4) = .ok (.ldc_w is, 3) → decode cc (pc + 7) = .ok (.invokespecial ic, 3) → decode cc (pc + 10) = .ok (.athrow, 1) → Nat.ble (cn + 1) rm.cells = true → Nat.ble (sn + 6) rm.slots = true → Nat.ble (names.length + 4) rm.frames = true → Nat.ble ((st.map fun v => v.category).sum + (13 * (names.length + 1) + 43)) rm.locals = true → KK X B L nL cn sn M pc ls st
end ERows
section Mk
variable {l : Launch} {B : KB} {y : MethodName} {bytes : ByteArray} {maxL : Nat} {rm : Room} {As : List Value} {L L' : KLay} {M M' : KMem}
theorem mk_I {fty : FieldType} {v : Int32} (hy : plainName y.cls = true) (hst : l.stackTraces = false) (hlen : Nat.ble (lg_sl As).length maxL = true)
    (body : ∀ X : KX, xL X = l → Good X B y.cls bytes maxL rm → (xH X).name = y.name → RI X B L' maxL bytes fty rm v M' → KK X B L maxL 0 0 M 0 (lv_args 0 As) []) : CtrN l B y bytes maxL (some fty) rm As L M (some (.int v)) L' M' := by
  refine Met.ofW hy rfl ?_
  intro p e s m args below meth c s₁ Bd hml hv
  obtain ⟨rfl, hW0, hK, hS0⟩ := hv
  have hts := atoms_spec (ws := Cond.code y bytes maxL (some fty) :: GT) Bd.pre
  have G : Good (p, l, e, rm, s, m, As.toArray, below, meth, c, MQ below (KQc B L' M' (some (.int v))) As.toArray s rm.cells rm.slots (kA B)) B y.cls bytes maxL rm :=
    ⟨Bd.exec, Bd.bytes, hml, findClass_of_methodNamed Bd.named, fun w hw => hts w (List.mem_cons_of_mem _ hw), hK, hS0, hW0.2.2, Bd.notSynchronized, hst, rfl⟩
  have hb := body _ rfl G (name_of_methodNamed Bd.named Bd.method).1 ?_
  · rw [lg_entry_eq]
    exact hb s.heap [] _ hW0 va_S.rf (lv_entry As (Nat.le_of_ble_eq_true hlen))
  · intro cn sn pc ls h1 h2 hn d H locs la hW hS hla
    refine W.widen (k := rm.cells) (n := rm.slots) (Nat.le_of_ble_eq_true h1) (Nat.le_of_ble_eq_true h2) ?_
    exact W.zret (ty := fty) Bd.exec Bd.bytes Bd.returns hn (fun t ht hWm => ⟨rfl, by rw [ht]; exact hW, hS.F ht⟩) hS.2.2 d Bd.notSynchronized
theorem mk_V (hy : plainName y.cls = true) (hst : l.stackTraces = false) (hlen : Nat.ble (lg_sl As).length maxL = true)
    (body : ∀ X : KX, xL X = l → Good X B y.cls bytes maxL rm → (xH X).name = y.name → RV X B L' maxL bytes rm M' → KK X B L maxL 0 0 M 0 (lv_args 0 As) []) : CtrN l B y bytes maxL none rm As L M none L' M' := by
  refine Met.ofW hy rfl ?_
  intro p e s m args below meth c s₁ Bd hml hv
  obtain ⟨rfl, hW0, hK, hS0⟩ := hv
  have hts := atoms_spec (ws := Cond.code y bytes maxL none :: GT) Bd.pre
  have G : Good (p, l, e, rm, s, m, As.toArray, below, meth, c, MQ below (KQc B L' M' none) As.toArray s rm.cells rm.slots (kA B)) B y.cls bytes maxL rm :=
    ⟨Bd.exec, Bd.bytes, hml, findClass_of_methodNamed Bd.named, fun w hw => hts w (List.mem_cons_of_mem _ hw), hK, hS0, hW0.2.2, Bd.notSynchronized, hst, rfl⟩
  have hb := body _ rfl G (name_of_methodNamed Bd.named Bd.method).1 ?_
  · rw [lg_entry_eq]
    exact hb s.heap [] _ hW0 va_S.rf (lv_entry As (Nat.le_of_ble_eq_true hlen))
  · intro cn sn pc ls h1 h2 d H locs la hW hS hla
    refine W.widen (k := rm.cells) (n := rm.slots) (Nat.le_of_ble_eq_true h1) (Nat.le_of_ble_eq_true h2) ?_
    exact W.vret Bd.exec Bd.bytes Bd.returns (fun t ht hWm => ⟨rfl, by rw [ht]; exact hW, hS.F ht⟩) hS.2.2 d Bd.notSynchronized
theorem KW_grow {H H1 : Heap} (hx : B.2.2.2 = false) (h : KW B L M H) (hz : H.size ≤ H1.size) (hq : ∀ q : Nat, q < H.size → H1[q]? = H[q]?) : KW B L M H1 :=
  ⟨h.1.kept (fun k x hx => hq x.1 ((h.1 k x hx).lt)), (fun e => by rw [hx] at e; cases e), Nat.le_trans h.2.2 hz⟩
/-- a method that returns or throws -/
theorem mk_X {ret : Option FieldType} {r : String ⊕ Option Value} (hx : B.2.2.2 = false) (hy : plainName y.cls = true) (hst : l.stackTraces = false) (hlen : Nat.ble (lg_sl As).length maxL = true)
    (body : ∀ X : KX, xL X = l → Good X B y.cls bytes maxL rm → (∀ (v : Int32) (t : FieldType), r = .inr (some (.int v)) → ret = some t → RI X B L maxL bytes t rm v M') → (r = .inr none → ret = none → RV X B L maxL bytes rm M') → (∀ E, r = .inl E → RP X B L maxL rm E M') → (∀ E, r = .inl E → RT X B L maxL y.cls bytes rm E M') → (∀ E, r = .inl E → RTW X B L maxL y.cls bytes rm E M') → KK X B L maxL 0 0 M 0 (lv_args 0 As) []) : CtrX l B y bytes maxL ret rm As L M r M' := by
  refine vx_ofW hy rfl ?_
  intro p e s m args below meth c s₁ Bd hml htb hv
  obtain ⟨rfl, hW0, hK, hS0⟩ := hv
  have hts := atoms_spec (ws := Cond.code y bytes maxL ret :: GT) Bd.pre
  have G : Good (p, l, e, rm, s, m, As.toArray, below, meth, c, vx_MQ below (KQx B L M' r) (KXx B L M' r) As.toArray s rm.cells rm.slots (kA B)) B y.cls bytes maxL rm :=
    ⟨Bd.exec, Bd.bytes, hml, findClass_of_methodNamed Bd.named, fun w hw => hts w (List.mem_cons_of_mem _ hw), hK, hS0, hW0.2.2, Bd.notSynchronized, hst, rfl⟩
  have hb := body _ rfl G ?_ ?_ ?_ ?_ ?_
  · rw [lg_entry_eq]
    exact hb s.heap [] _ hW0 va_S.rf (lv_entry As (Nat.le_of_ble_eq_true hlen))
  · intro v t hr hret cn sn pc ls h1 h2 hn d H locs la hW hS hla
    refine W.widen (k := rm.cells) (n := rm.slots) (Nat.le_of_ble_eq_true h1) (Nat.le_of_ble_eq_true h2) ?_
    exact vx_ret (W.zret (ty := t) Bd.exec Bd.bytes (Bd.returns.trans hret) hn (fun t ht hWm => ⟨_, hr, rfl, by rw [ht]; exact hW, hS.F ht⟩) hS.2.2 d Bd.notSynchronized)
  · intro hr hret cn sn pc ls h1 h2 d H locs la hW hS hla
    refine W.widen (k := rm.cells) (n := rm.slots) (Nat.le_of_ble_eq_true h1) (Nat.le_of_ble_eq_true h2) ?_
    exact vx_ret (W.vret Bd.exec Bd.bytes (Bd.returns.trans hret) (fun t ht hWm => ⟨_, hr, rfl, by rw [ht]; exact hW, hS.F ht⟩) hS.2.2 d Bd.notSynchronized)
  · intro E hr cn sn pc ls st h1 h2 H locs la q ce hW hS hla hce hcv hcl
    exact vx_out (fun x hx => (htb x hx).elim) Bd.notSynchronized hce hcv hcl (fun t ht ha => ⟨hr, by rw [ht]; exact hW, hS.F ht⟩) hS.2.2 (Nat.le_of_ble_eq_true h1) (Nat.le_of_ble_eq_true h2)
  · intro E hr cn sn pc ls st ik is ic text names hw w3 d0 d3 d4 d6 d9 h1 h2 h3 h4 H locs la hW hS hla
    simp only [tsW, Bool.and_eq_true, decide_eq_true_eq, List.all_eq_true] at hw
    obtain ⟨⟨w1, w1g⟩, w2, w4, w5, w6⟩ := hw
    obtain ⟨sa, hsa⟩ := hS0.1.2.2 _ _ _ w3
    have hg := G.2.2.2.2.1
    have hat : ∀ w ∈ vx_atS y.cls ic E names, w.before As.toArray s = true := fun w hm => by
      obtain ⟨⟨g1, g2⟩, -⟩ := w4 w hm
      rcases Bool.or_eq_true _ _ ▸ g2 with g | g
      · exact hg w (List.mem_filter.mpr ⟨g1, g⟩)
      · exact va_Nw.use (nw_tabs g) (hS0.1.1 w g1 g)
    refine vx_throwS Bd.exec Bd.bytes hst (findClass_of_methodNamed Bd.named) w5 (fun n hn => w6 n hn) (hg _ (List.mem_filter.mpr ⟨w1, w1g⟩)) (hg _ (List.mem_filter.mpr ⟨w2, rfl⟩)) hsa hat ?_ hS0.2.1 hS0.2.2.1 hS (by rw [hml, hla.1]) d0 d3 d4 d6 d9 (fun x hx => (htb x hx).elim) (by have := Nat.le_of_ble_eq_true h3; show _ < rm.frames; omega) (Nat.le_of_ble_eq_true h4) (Nat.le_of_ble_eq_true h1) (Nat.le_of_ble_eq_true h2) Bd.notSynchronized (fun t ha hz hq => ⟨hr, KW_grow hx hW hz hq, ?_⟩) hS.2.2 (Nat.le_of_ble_eq_true h1) (Nat.le_of_ble_eq_true h2)
    · intro w hm
      rcases List.mem_cons.mp hm with rfl | hm
      · rfl
      · rcases List.mem_cons.mp hm with rfl | hm
        · rfl
        · exact (w4 w hm).2
    · exact ⟨Nat.le_trans hS.1 hz, fun q hq1 hq2 => (hq q (Nat.lt_of_lt_of_le hq1 hS.1)).trans (hS.2.1 q hq1 hq2)⟩
  · intro E hr cn sn pc ls st ik is ic text names hw w3 d0 d3 d4 d7 d10 h1 h2 h3 h4 H locs la hW hS hla
    simp only [tsW, Bool.and_eq_true, decide_eq_true_eq, List.all_eq_true] at hw
    obtain ⟨⟨w1, w1g⟩, w2, w4, w5, w6⟩ := hw
    obtain ⟨sa, hsa⟩ := hS0.1.2.2 _ _ _ w3
    have hg := G.2.2.2.2.1
    have hat : ∀ w ∈ vx_atS y.cls ic E names, w.before As.toArray s = true := fun w hm => by
      obtain ⟨⟨g1, g2⟩, -⟩ := w4 w hm
      rcases Bool.or_eq_true _ _ ▸ g2 with g | g
      · exact hg w (List.mem_filter.mpr ⟨g1, g⟩)
      · exact va_Nw.use (nw_tabs g) (hS0.1.1 w g1 g)
    refine vx_throwSW Bd.exec Bd.bytes hst (findClass_of_methodNamed Bd.named) w5 (fun n hn => w6 n hn) (hg _ (List.mem_filter.mpr ⟨w1, w1g⟩)) (hg _ (List.mem_filter.mpr ⟨w2, rfl⟩)) hsa hat ?_ hS0.2.1 hS0.2.2.1 hS (by rw [hml, hla.1]) d0 d3 d4 d7 d10 (fun x hx => (htb x hx).elim) (by have := Nat.le_of_ble_eq_true h3; show _ < rm.frames; omega) (Nat.le_of_ble_eq_true h4) (Nat.le_of_ble_eq_true h1) (Nat.le_of_ble_eq_true h2) Bd.notSynchronized (fun t ha hz hq => ⟨hr, KW_grow hx hW hz hq, ?_⟩) hS.2.2 (Nat.le_of_ble_eq_true h1) (Nat.le_of_ble_eq_true h2)
    · intro w hm
      rcases List.mem_cons.mp hm with rfl | hm
      · rfl
      · rcases List.mem_cons.mp hm with rfl | hm
        · rfl
        · exact (w4 w hm).2
    · exact ⟨Nat.le_trans hS.1 hz, fun q hq1 hq2 => (hq q (Nat.lt_of_lt_of_le hq1 hS.1)).trans (hS.2.1 q hq1 hq2)⟩
end Mk
section XRows
variable {X : KX} {B : KB} {L : KLay} {own : String} {cc : ByteArray} {nL : Nat} {rm : Room} {cn sn : Nat} {M : KMem} {pc : Nat} {ls : List (Nat × Value)} {st rest : List Value} {H : Heap} {locs : List Loc}
/-- behind a call that may throw -/
theorem k_runX {M' : KMem} {r : String ⊕ Option Value} {mc ms : Nat} {a : Array Value} {la : Array Slot} {st0 : List Value} (hS : va_S (kA B) (xS X).heap H locs) (hl : lv_has la nL ls)
    (hr : vx_Run (xP X) (xL X) (xE X) (xR X) (xS X) (xM X) (xA X) (xW X) (xH X) (xC X) H locs cn sn mc ms (F0 (xM X) pc la st0) rest (KQx B L M' r a) (KXx B L M' r) (kA B))
    (kk : ∀ v, r = .inr v → KK X B L nL (cn + mc) (sn + ms) M' (pc + 3) ls (v.toList ++ rest)) (kx : ∀ E, r = .inl E → KT X B L nL (cn + mc) (sn + ms) M' pc ls rest E) : W (xP X) (xL X) (xE X) (xR X) (xS X) (xM X) (xA X) (xW X) (xH X) (xC X) H locs cn sn (xQ X) (F0 (xM X) pc la st0) := by
  intro T hT Y
  have key : ∀ {t T' : State} {st₀ : State} {L9 : List Loc}, st₀.heap = H → T'.heap = t.heap → (∀ q ∈ L9, kA B q.base) → va_F (kA B) st₀ t → va_S (kA B) (xS X).heap T'.heap (locs ++ L9) := by
    intro t T' st₀ L9 h0 e1 hL ⟨hz, hq⟩
    rw [h0] at hz hq
    exact ⟨Nat.le_trans hS.1 (by rw [e1]; exact hz), fun q h1 h2 => by rw [e1, hq q (Nat.lt_of_lt_of_le h1 hS.1) h2]; exact hS.2.1 q h1 h2, fun q hq => by
      rcases List.mem_append.mp hq with h | h
      · exact hS.2.2 q h
      · exact hL q h⟩
  rcases hr T hT Y with ⟨v, st₀, t, T', L9, h0, Y', hL, e1, e2, ⟨v', hv', hv, hQ, hF⟩, hgo⟩ | ⟨q, st₀, t, T', L9, E, ce, h0, Y', hL, e1, e2, ⟨hE, hQ, hF⟩, hce, hcv, hcl, hgo⟩
  · cases hv
    obtain ⟨t2, a1, b1⟩ := kk v hv' T'.heap (locs ++ L9) la (by rw [e1]; exact hQ) (key h0 e1 hL hF) hl T' rfl Y'
    exact ⟨t2, hgo t2 a1, b1⟩
  · obtain ⟨t2, a1, b1⟩ := kx E hE T'.heap (locs ++ L9) la q ce (by rw [e1]; exact hQ) (key h0 e1 hL hF) hl (by rw [e1]; exact hce) hcv hcl T' rfl Y'
    exact ⟨t2, hgo.trans a1, b1⟩
theorem k_callVX (G : Good X B own cc nL rm) {idx : Nat} (d : decode cc pc = .ok (.invokevirtual idx, 3)) {ci : Nat} {C : String} {T : u_T} {N : Nat} {ty : Nat → FieldType} (K : KC ci C T N ty) {k : Nat} (hk : k < L.1) (hc : L.2.1 k = ci) {y : MethodName} {bytes : ByteArray} {maxL n : Nat} {ret : Option FieldType} {rmc : Room} (m : MI y bytes maxL ret n) (mv : MV y) (hC : y.cls = C) (hl : Cond.methodLink own idx y ∈ GT) {As : List Value} {r : String ⊕ Option Value} {M' : KMem}
    (hM : CtrX (xL X) B y bytes maxL ret rmc (.ref (B.1 + k) :: As) L M r M') (hn : As.length = n) (hs : st = As.reverse ++ .ref (B.1 + k) :: rest) (hR : Nat.ble (rmc.frames + 1) rm.frames = true ∧ Nat.ble (8 + (maxL + 11) + rmc.locals) rm.locals = true) (hr : Nat.ble ((rest.map fun v => v.category).sum) 8 = true) (hcs : Nat.ble (cn + rmc.cells) rm.cells = true ∧ Nat.ble (sn + rmc.slots) rm.slots = true)
    (kk : ∀ v, r = .inr v → KK X B L nL (cn + rmc.cells) (sn + rmc.slots) M' (pc + 3) ls (v.toList ++ rest)) (kx : ∀ E, r = .inl E → KT X B L nL (cn + rmc.cells) (sn + rmc.slots) M' pc ls rest E) : KK X B L nL cn sn M pc ls st := by
  intro H locs la hW hS hla
  subst hC
  have hrm : xR X = rm := G.2.2.2.2.2.2.2.2.2.2
  refine k_runX hS hla (vx_runV (good_fix G) hM ⟨good_cb G m hl hR, G.2.2.2.2.1 _ mv.1, G.2.2.2.2.1 _ mv.2⟩ ⟨kpc_blind, va_recv G.2.2.2.2.2.1 hW.1 (ci := ci) (q0 := k) K.1 (by rw [kW_get hk, kE_obj hc K.2.2.2.2.2]), fun U hU hWm => ⟨rfl, good_kwo G hW hS hU hWm⟩⟩ rfl hn hla.1 hs (lv_room (Nat.le_of_ble_eq_true hr)) d (by rw [hrm]; exact ⟨Nat.le_of_ble_eq_true hcs.1, Nat.le_of_ble_eq_true hcs.2⟩)) kk kx
theorem k_callSX (G : Good X B own cc nL rm) {idx : Nat} (d : decode cc pc = .ok (.invokestatic idx, 3)) {y : MethodName} {bytes : ByteArray} {maxL n : Nat} {ret : Option FieldType} {rmc : Room} (m : MI y bytes maxL ret n) (ms : Cond.static y ∈ GT) (hl : Cond.methodLink own idx y ∈ GT) {As : List Value} {r : String ⊕ Option Value} {M' : KMem}
    (hM : CtrX (xL X) B y bytes maxL ret rmc As L M r M') (hn : As.length = n) (hs : st = As.reverse ++ rest) (hR : Nat.ble (rmc.frames + 1) rm.frames = true ∧ Nat.ble (8 + (maxL + 11) + rmc.locals) rm.locals = true) (hr : Nat.ble ((rest.map fun v => v.category).sum) 8 = true) (hcs : Nat.ble (cn + rmc.cells) rm.cells = true ∧ Nat.ble (sn + rmc.slots) rm.slots = true)
    (kk : ∀ v, r = .inr v → KK X B L nL (cn + rmc.cells) (sn + rmc.slots) M' (pc + 3) ls (v.toList ++ rest)) (kx : ∀ E, r = .inl E → KT X B L nL (cn + rmc.cells) (sn + rmc.slots) M' pc ls rest E) : KK X B L nL cn sn M pc ls st := by
  intro H locs la hW hS hla
  have hrm : xR X = rm := G.2.2.2.2.2.2.2.2.2.2
  refine k_runX hS hla (vx_runS (good_fix G) hM ⟨good_cb G m hl hR, G.2.2.2.2.1 _ ms⟩ ⟨kpc_blind, fun U hU hWm => ⟨rfl, good_kwo G hW hS hU hWm⟩⟩ rfl hn hla.1 hs (lv_room (Nat.le_of_ble_eq_true hr)) d (by rw [hrm]; exact ⟨Nat.le_of_ble_eq_true hcs.1, Nat.le_of_ble_eq_true hcs.2⟩)) kk kx
end XRows
end
section
/-! THE LAYOUT: which objects lie behind one another -/
abbrev kT : Type := List (Nat × Nat × Nat × List (Nat × Nat))
/-- from t on: (place, kind, length, (field or place, place of what it refers to)) -/
def okL (L : KLay) (t : Nat) (T : kT) : Prop := ∀ q ∈ T, t + q.1 < L.1 ∧ L.2.1 (t + q.1) = q.2.1 ∧ L.2.2.1 (t + q.1) = q.2.2.1 ∧ ∀ r ∈ q.2.2.2, L.2.2.2 (t + q.1) r.1 = some (t + r.2)
section OK
variable {L : KLay} {t : Nat} {T : kT}
theorem okL_lt {o k n : Nat} {rs : List (Nat × Nat)} (h : okL L t T) (i : Nat) (hq : T[i]? = some (o, k, n, rs)) : t + o < L.1 := (h _ (List.mem_of_getElem? hq)).1
theorem okL_k {o k n : Nat} {rs : List (Nat × Nat)} (h : okL L t T) (i : Nat) (hq : T[i]? = some (o, k, n, rs)) : L.2.1 (t + o) = k := (h _ (List.mem_of_getElem? hq)).2.1
theorem okL_n {o k n : Nat} {rs : List (Nat × Nat)} (h : okL L t T) (i : Nat) (hq : T[i]? = some (o, k, n, rs)) : L.2.2.1 (t + o) = n := (h _ (List.mem_of_getElem? hq)).2.2.1
theorem okL_r {o k n j c : Nat} {rs : List (Nat × Nat)} (h : okL L t T) (i : Nat) (hq : T[i]? = some (o, k, n, rs)) (p : Nat) (hr : rs[p]? = some (j, c)) : L.2.2.2 (t + o) j = some (t + c) := (h _ (List.mem_of_getElem? hq)).2.2.2 _ (List.mem_of_getElem? hr)
def kSh (c : Nat) (q : Nat × Nat × Nat × List (Nat × Nat)) : Nat × Nat × Nat × List (Nat × Nat) := (c + q.1, q.2.1, q.2.2.1, q.2.2.2.map (fun r => (r.1, c + r.2)))
def subT (T1 : kT) (c : Nat) (T2 : kT) : Bool := T2.all (fun q => decide (kSh c q ∈ T1))
theorem okL_sub {T2 : kT} (h : okL L t T) (c : Nat) (hs : subT T c T2 = true) : okL L (t + c) T2 := by
  intro q hq
  have h1 := h _ (of_decide_eq_true (List.all_eq_true.mp hs q hq))
  refine ⟨?_, ?_, ?_, fun r hr => ?_⟩
  · rw [Nat.add_assoc]; exact h1.1
  · rw [Nat.add_assoc]; exact h1.2.1
  · rw [Nat.add_assoc]; exact h1.2.2.1
  · have h2 := h1.2.2.2 (r.1, c + r.2) (List.mem_map.mpr ⟨r, hr, rfl⟩)
    rw [Nat.add_assoc, Nat.add_assoc]
    exact h2
end OK
/-- an array -/
def arL (L : KLay) (a k n : Nat) : Prop := a < L.1 ∧ L.2.1 a = k ∧ L.2.2.1 a = n
theorem okL_a {L : KLay} {t : Nat} {T : kT} {o k n : Nat} {rs : List (Nat × Nat)} (h : okL L t T) (i : Nat) (hq : T[i]? = some (o, k, n, rs)) : arL L (t + o) k n := ⟨okL_lt h i hq, okL_k h i hq, okL_n h i hq⟩
def deT : kT := [(0, 0, 0, [(1, 1)]), (1, 9, 50, [])]
def stT : kT := [(0, 5, 0, [(0, 1), (2, 3), (3, 4), (4, 5), (5, 6), (6, 7), (7, 8), (8, 9), (9, 10), (10, 11)]), (1, 0, 0, [(1, 2)]), (2, 9, 50, []), (3, 9, 8, []), (4, 9, 8, []), (5, 9, 8, []), (6, 9, 8, []), (7, 9, 8, []), (8, 9, 8, []), (9, 9, 4, []), (10, 9, 4, []), (11, 9, 2, [])]
def ruT : kT := [(0, 4, 0, [(0, 1)]), (1, 9, 9, [])]
def flT : kT := [(0, 1, 0, [(0, 1)]), (1, 9, 10, [])]
def twT : kT := [(0, 6, 0, [(0, 1), (1, 13), (2, 15), (3, 17)])] ++ stT.map (kSh 1) ++ ruT.map (kSh 13) ++ flT.map (kSh 15) ++ [(17, 9, 8, [])]
def txT : kT := [(0, 3, 0, [(0, 1)]), (1, 9, 120, [])]
def meT : kT := [(0, 2, 0, [(0, 1), (3, 2), (4, 3)]), (1, 11, 14, (List.range 14).map (fun j => (j, 4 + 12 * j))), (2, 11, 2, (List.range 2).map (fun j => (j, 172 + 12 * j))), (3, 10, 2, [])] ++ (List.range 16).flatMap (fun j => stT.map (kSh (4 + 12 * j)))
def srT : kT := [(0, 7, 0, [(0, 1), (1, 3), (2, 21), (3, 39)])] ++ txT.map (kSh 1) ++ twT.map (kSh 3) ++ twT.map (kSh 21) ++ meT.map (kSh 39)
def moT : kT := [(0, 8, 0, [(1, 1), (2, 2), (3, 3), (5, 4), (7, 5), (9, 6), (10, 7), (17, 8)]), (1, 9, 108, []), (2, 9, 108, []), (3, 9, 1512, []), (4, 9, 216, []), (5, 9, 120, []), (6, 9, 81, []), (7, 9, 51, []), (8, 9, 8, [])]
theorem me_ring {L : KLay} {m j : Nat} (h : okL L m meT) (hj : j < 14) : L.2.2.2 (m + 1) j = some (m + (4 + 12 * j)) := by
  have h1 := h (1, 11, 14, (List.range 14).map (fun j => (j, 4 + 12 * j))) (by decide +kernel)
  exact h1.2.2.2 (j, 4 + 12 * j) (List.mem_map.mpr ⟨j, List.mem_range.mpr hj, rfl⟩)
theorem me_slot {L : KLay} {m j : Nat} (h : okL L m meT) (hj : j < 2) : L.2.2.2 (m + 2) j = some (m + (172 + 12 * j)) := by
  have h1 := h (2, 11, 2, (List.range 2).map (fun j => (j, 172 + 12 * j))) (by decide +kernel)
  exact h1.2.2.2 (j, 172 + 12 * j) (List.mem_map.mpr ⟨j, List.mem_range.mpr hj, rfl⟩)
theorem me_subs : ∀ j, j < 16 → subT meT (4 + 12 * j) stT = true := by decide +kernel
theorem me_rs {L : KLay} {m j : Nat} (h : okL L m meT) (hj : j < 14) : okL L (m + (4 + 12 * j)) stT := okL_sub h _ (me_subs j (by omega))
theorem me_ss {L : KLay} {m j : Nat} (h : okL L m meT) (hj : j < 2) : okL L (m + (172 + 12 * j)) stT := by
  have e : 172 + 12 * j = 4 + 12 * (14 + j) := by omega
  rw [e]
  exact okL_sub h _ (me_subs (14 + j) (by omega))
/-- a boolean's value -/
def kz (x : Int32) : Option Int32 := if x = 0 ∨ x = 1 then some x else none
theorem kz_ok {x v : Int32} (h : kz x = some v) : x = v ∧ narrow .boolean (.int v) = .int v := by
  unfold kz at h
  split at h
  · rename_i hc
    cases h
    rcases hc with rfl | rfl <;> exact ⟨rfl, rfl⟩
  · cases h
/-- a join: what is behind it, what leads there -/
theorem kJ {α β : Type} {o : Option α} {f : α → Option β} {P : β → Prop} {G : Prop} (h : kOk (o.bind f) P) (Q : α → Prop) (hr : ∀ x, kOk (f x) P → Q x) (hb : kOk o Q → G) : G := by
  obtain ⟨x, h1, h2⟩ := kOk_b h
  exact hb ⟨x, h1, hr x h2⟩

theorem gst {X : KX} {B : KB} {own : String} {cc : ByteArray} {nL : Nat} {rm : Room} (G : Good X B own cc nL rm) : (xL X).stackTraces = false := G.2.2.2.2.2.2.2.2.2.1
/-- what a method that may throw answers: an exception's name, or an int (RXI), or nothing (RXV) -/
def rI (r : String ⊕ Int32) : String ⊕ Option Value := match r with | .inl E => .inl E | .inr v => .inr (some (.int v))
def rV (r : Option String) : String ⊕ Option Value := match r with | some E => .inl E | none => .inr none
theorem rV_inr {r : Option String} {v : Option Value} (h : rV r = .inr v) : r = none ∧ v = none := by
  cases r with
  | none => cases h; exact ⟨rfl, rfl⟩
  | some E => cases h
theorem rV_inl {r : Option String} {E : String} (h : rV r = .inl E) : r = some E := by
  cases r with
  | none => cases h
  | some E9 => cases h; rfl
theorem rI_inr {r : String ⊕ Int32} {v : Option Value} (h : rI r = .inr v) : ∃ x, r = .inr x ∧ v = some (.int x) := by
  cases r with
  | inl E => cases h
  | inr x => cases h; exact ⟨x, rfl, rfl⟩
theorem rI_inl {r : String ⊕ Int32} {E : String} (h : rI r = .inl E) : r = .inl E := by
  cases r with
  | inl E9 => cases h; rfl
  | inr x => cases h
def RXI (X : KX) (B : KB) (L : KLay) (nL : Nat) (own : String) (cc : ByteArray) (fty : FieldType) (rm : Room) (r : String ⊕ Int32) (M : KMem) : Prop :=
  (∀ v, r = .inr v → RI X B L nL cc fty rm v M) ∧ ∀ E, r = .inl E → RP X B L nL rm E M ∧ RT X B L nL own cc rm E M ∧ RTW X B L nL own cc rm E M
def RXV (X : KX) (B : KB) (L : KLay) (nL : Nat) (own : String) (cc : ByteArray) (rm : Room) (r : Option String) (M : KMem) : Prop :=
  (r = none → RV X B L nL cc rm M) ∧ ∀ E, r = some E → RP X B L nL rm E M ∧ RT X B L nL own cc rm E M ∧ RTW X B L nL own cc rm E M
section MkX
variable {l : Launch} {B : KB} {y : MethodName} {bytes : ByteArray} {maxL : Nat} {rm : Room} {As : List Value} {L : KLay} {M M' : KMem}
theorem mkXI {fty : FieldType} {r : String ⊕ Int32} (hx : B.2.2.2 = false) (hy : plainName y.cls = true) (hst : l.stackTraces = false) (hlen : Nat.ble (lg_sl As).length maxL = true)
    (body : ∀ X : KX, xL X = l → Good X B y.cls bytes maxL rm → RXI X B L maxL y.cls bytes fty rm r M' → KK X B L maxL 0 0 M 0 (lv_args 0 As) []) : CtrX l B y bytes maxL (some fty) rm As L M (rI r) M' := by
  refine mk_X hx hy hst hlen fun X hl G h1 h2 h3 h4 h5 => body X hl G ⟨fun v hv => ?_, fun E hE => ?_⟩
  · subst hv
    exact h1 v fty rfl rfl
  · subst hE
    exact ⟨h3 E rfl, h4 E rfl, h5 E rfl⟩
theorem mkXV {r : Option String} (hx : B.2.2.2 = false) (hy : plainName y.cls = true) (hst : l.stackTraces = false) (hlen : Nat.ble (lg_sl As).length maxL = true)
    (body : ∀ X : KX, xL X = l → Good X B y.cls bytes maxL rm → RXV X B L maxL y.cls bytes rm r M' → KK X B L maxL 0 0 M 0 (lv_args 0 As) []) : CtrX l B y bytes maxL none rm As L M (rV r) M' := by
  refine mk_X hx hy hst hlen fun X hl G h1 h2 h3 h4 h5 => body X hl G ⟨fun hv => ?_, fun E hE => ?_⟩
  · subst hv
    exact h2 rfl rfl
  · subst hE
    exact ⟨h3 E rfl, h4 E rfl, h5 E rfl⟩
end MkX
end
section
/-! WORDS of the tables that the walks use; constants -/
theorem cI_m1 : Int32.ofInt (-1) = (-1) := by decide
theorem cI_0 : Int32.ofInt 0 = 0 := by decide
theorem cI_1 : Int32.ofInt 1 = 1 := by decide
theorem cI_2 : Int32.ofInt 2 = 2 := by decide
theorem cI_3 : Int32.ofInt 3 = 3 := by decide
theorem cI_4 : Int32.ofInt 4 = 4 := by decide
theorem cI_5 : Int32.ofInt 5 = 5 := by decide
theorem cI_6 : Int32.ofInt 6 = 6 := by decide
theorem cI_7 : Int32.ofInt 7 = 7 := by decide
theorem cI_8 : Int32.ofInt 8 = 8 := by decide
theorem cI_9 : Int32.ofInt 9 = 9 := by decide
theorem cI_10 : Int32.ofInt 10 = 10 := by decide
theorem cI_11 : Int32.ofInt 11 = 11 := by decide
theorem cI_100 : Int32.ofInt 100 = 100 := by decide
theorem cI_101 : Int32.ofInt 101 = 101 := by decide
theorem cI_102 : Int32.ofInt 102 = 102 := by decide
theorem cI_103 : Int32.ofInt 103 = 103 := by decide
theorem cI_104 : Int32.ofInt 104 = 104 := by decide
theorem cI_105 : Int32.ofInt 105 = 105 := by decide
theorem cI_106 : Int32.ofInt 106 = 106 := by decide
theorem cI_107 : Int32.ofInt 107 = 107 := by decide
theorem cI_108 : Int32.ofInt 108 = 108 := by decide
theorem cI_109 : Int32.ofInt 109 = 109 := by decide
theorem cI_110 : Int32.ofInt 110 = 110 := by decide
theorem cI_111 : Int32.ofInt 111 = 111 := by decide
theorem cI_112 : Int32.ofInt 112 = 112 := by decide
theorem cI_113 : Int32.ofInt 113 = 113 := by decide
theorem cI_114 : Int32.ofInt 114 = 114 := by decide
theorem cI_115 : Int32.ofInt 115 = 115 := by decide
theorem cI_116 : Int32.ofInt 116 = 116 := by decide
theorem cI_117 : Int32.ofInt 117 = 117 := by decide
theorem cI_118 : Int32.ofInt 118 = 118 := by decide
theorem cI_119 : Int32.ofInt 119 = 119 := by decide
theorem cI_120 : Int32.ofInt 120 = 120 := by decide
theorem cI_121 : Int32.ofInt 121 = 121 := by decide
theorem cB_m9 : (Int8.ofInt (-9)).toInt32 = (-9) := by decide
theorem cB_6 : (Int8.ofInt 6).toInt32 = 6 := by decide
theorem cB_7 : (Int8.ofInt 7).toInt32 = 7 := by decide
theorem cB_8 : (Int8.ofInt 8).toInt32 = 8 := by decide
theorem cB_9 : (Int8.ofInt 9).toInt32 = 9 := by decide
theorem cB_10 : (Int8.ofInt 10).toInt32 = 10 := by decide
theorem cB_11 : (Int8.ofInt 11).toInt32 = 11 := by decide
theorem cB_12 : (Int8.ofInt 12).toInt32 = 12 := by decide
theorem cB_14 : (Int8.ofInt 14).toInt32 = 14 := by decide
theorem cB_20 : (Int8.ofInt 20).toInt32 = 20 := by decide
theorem cB_32 : (Int8.ofInt 32).toInt32 = 32 := by decide
theorem cB_33 : (Int8.ofInt 33).toInt32 = 33 := by decide
theorem cB_41 : (Int8.ofInt 41).toInt32 = 41 := by decide
theorem cB_42 : (Int8.ofInt 42).toInt32 = 42 := by decide
theorem cB_46 : (Int8.ofInt 46).toInt32 = 46 := by decide
theorem cB_48 : (Int8.ofInt 48).toInt32 = 48 := by decide
theorem cB_49 : (Int8.ofInt 49).toInt32 = 49 := by decide
theorem cB_51 : (Int8.ofInt 51).toInt32 = 51 := by decide
theorem cB_54 : (Int8.ofInt 54).toInt32 = 54 := by decide
theorem cB_55 : (Int8.ofInt 55).toInt32 = 55 := by decide
theorem cB_57 : (Int8.ofInt 57).toInt32 = 57 := by decide
theorem cB_60 : (Int8.ofInt 60).toInt32 = 60 := by decide
theorem cB_64 : (Int8.ofInt 64).toInt32 = 64 := by decide
theorem cB_81 : (Int8.ofInt 81).toInt32 = 81 := by decide
theorem cB_82 : (Int8.ofInt 82).toInt32 = 82 := by decide
theorem cB_92 : (Int8.ofInt 92).toInt32 = 92 := by decide
theorem cB_93 : (Int8.ofInt 93).toInt32 = 93 := by decide
theorem cB_94 : (Int8.ofInt 94).toInt32 = 94 := by decide
theorem cB_95 : (Int8.ofInt 95).toInt32 = 95 := by decide
theorem cB_96 : (Int8.ofInt 96).toInt32 = 96 := by decide
theorem cB_97 : (Int8.ofInt 97).toInt32 = 97 := by decide
theorem cB_98 : (Int8.ofInt 98).toInt32 = 98 := by decide
theorem cB_100 : (Int8.ofInt 100).toInt32 = 100 := by decide
theorem cB_102 : (Int8.ofInt 102).toInt32 = 102 := by decide
theorem cB_106 : (Int8.ofInt 106).toInt32 = 106 := by decide
theorem cB_107 : (Int8.ofInt 107).toInt32 = 107 := by decide
theorem cB_108 : (Int8.ofInt 108).toInt32 = 108 := by decide
theorem cB_109 : (Int8.ofInt 109).toInt32 = 109 := by decide
theorem cB_111 : (Int8.ofInt 111).toInt32 = 111 := by decide
theorem cB_112 : (Int8.ofInt 112).toInt32 = 112 := by decide
theorem cB_114 : (Int8.ofInt 114).toInt32 = 114 := by decide
theorem cB_115 : (Int8.ofInt 115).toInt32 = 115 := by decide
theorem cB_120 : (Int8.ofInt 120).toInt32 = 120 := by decide
theorem cB_121 : (Int8.ofInt 121).toInt32 = 121 := by decide
theorem cS_200 : (Int16.ofInt 200).toInt32 = 200 := by decide
theorem cS_255 : (Int16.ofInt 255).toInt32 = 255 := by decide
theorem cS_999 : (Int16.ofInt 999).toInt32 = 999 := by decide
theorem cS_1000 : (Int16.ofInt 1000).toInt32 = 1000 := by decide
theorem cS_1404 : (Int16.ofInt 1404).toInt32 = 1404 := by decide
theorem cS_10000 : (Int16.ofInt 10000).toInt32 = 10000 := by decide
theorem czI_3 : ¬ (3 : Int32) = 0 := by decide
theorem czI_4 : ¬ (4 : Int32) = 0 := by decide
theorem czI_5 : ¬ (5 : Int32) = 0 := by decide
theorem czI_6 : ¬ (6 : Int32) = 0 := by decide
theorem czI_8 : ¬ (8 : Int32) = 0 := by decide
theorem czI_9 : ¬ (9 : Int32) = 0 := by decide
theorem czI_10 : ¬ (10 : Int32) = 0 := by decide
theorem czI_12 : ¬ (12 : Int32) = 0 := by decide
theorem czI_14 : ¬ (14 : Int32) = 0 := by decide
theorem czI_32 : ¬ (32 : Int32) = 0 := by decide
theorem czI_64 : ¬ (64 : Int32) = 0 := by decide
theorem czI_100 : ¬ (100 : Int32) = 0 := by decide
theorem czI_1000 : ¬ (1000 : Int32) = 0 := by decide
theorem czI_10000 : ¬ (10000 : Int32) = 0 := by decide
theorem czL_10000 : ¬ (10000 : Int64) = 0 := by decide
theorem ld_RX11_45 : Cond.constant RX11 45 66666666 ∈ GT := gt_in 1191 (by decide +kernel) rfl
theorem ld_RX9_9 : Cond.constant RX9 9 66666666 ∈ GT := gt_in 851 (by decide +kernel) rfl
theorem ld_RX10_226 : Cond.constantLong RX10 226 10000 ∈ GT := gt_in 990 (by decide +kernel) rfl
theorem ld_RX10_244 : Cond.constantLong RX10 244 6364136223846793005 ∈ GT := gt_in 1020 (by decide +kernel) rfl
theorem ld_RX10_246 : Cond.constantLong RX10 246 1442695040888963407 ∈ GT := gt_in 1021 (by decide +kernel) rfl
theorem ld_RX11_237 : Cond.constantLong RX11 237 10000 ∈ GT := gt_in 1429 (by decide +kernel) rfl
theorem ld_RX11_245 : Cond.constantLong RX11 245 100000000 ∈ GT := gt_in 1430 (by decide +kernel) rfl
theorem ld_RX11_247 : Cond.constantLong RX11 247 1000000000000 ∈ GT := gt_in 1431 (by decide +kernel) rfl
theorem ld_RX11_249 : Cond.constantLong RX11 249 10000000000000000 ∈ GT := gt_in 1432 (by decide +kernel) rfl
theorem ld_RX11_258 : Cond.constantLong RX11 258 6364136223846793005 ∈ GT := gt_in 1457 (by decide +kernel) rfl
theorem ld_RX11_260 : Cond.constantLong RX11 260 1442695040888963407 ∈ GT := gt_in 1458 (by decide +kernel) rfl
theorem fl_RX0_11 : Cond.fieldLink RX0 11 (TX0 1).1 (TX0 1).2.1 (TX0 1).2.2.1 ∈ GT := gt_in 155 (by decide +kernel) rfl
theorem fl_RX0_21 : Cond.fieldLink RX0 21 (TX0 0).1 (TX0 0).2.1 (TX0 0).2.2.1 ∈ GT := gt_in 152 (by decide +kernel) rfl
theorem fl_RX1_9 : Cond.fieldLink RX1 9 (TX1 0).1 (TX1 0).2.1 (TX1 0).2.2.1 ∈ GT := gt_in 250 (by decide +kernel) rfl
theorem fl_RX1_35 : Cond.fieldLinkNest RX1 35 (TX0 0).1 (TX0 0).2.1 (TX0 0).2.2.1 "SignReforms" ∈ lw_tbl := List.mem_of_getElem? (i := 153) (by decide +kernel)
theorem fl_RX10_10 : Cond.fieldLink RX10 10 (TX10 0).1 (TX10 0).2.1 (TX10 0).2.2.1 ∈ GT := gt_in 296 (by decide +kernel) rfl
theorem fl_RX10_19 : Cond.fieldLink RX10 19 (TX10 1).1 (TX10 1).2.1 (TX10 1).2.2.1 ∈ GT := gt_in 297 (by decide +kernel) rfl
theorem fl_RX10_23 : Cond.fieldLink RX10 23 (TX10 2).1 (TX10 2).2.1 (TX10 2).2.2.1 ∈ GT := gt_in 298 (by decide +kernel) rfl
theorem fl_RX10_29 : Cond.fieldLink RX10 29 (TX10 3).1 (TX10 3).2.1 (TX10 3).2.2.1 ∈ GT := gt_in 299 (by decide +kernel) rfl
theorem fl_RX10_40 : Cond.fieldLinkNest RX10 40 (TX3 1).1 (TX3 1).2.1 (TX3 1).2.2.1 "SignReforms" ∈ lw_tbl := List.mem_of_getElem? (i := 111) (by decide +kernel)
theorem fl_RX10_59 : Cond.fieldLink RX10 59 (TX8 0).1 (TX8 0).2.1 (TX8 0).2.2.1 ∈ GT := gt_in 256 (by decide +kernel) rfl
theorem fl_RX10_87 : Cond.fieldLinkNest RX10 87 (TX3 5).1 (TX3 5).2.1 (TX3 5).2.2.1 "SignReforms" ∈ lw_tbl := List.mem_of_getElem? (i := 118) (by decide +kernel)
theorem fl_RX10_90 : Cond.fieldLinkNest RX10 90 (TX3 3).1 (TX3 3).2.1 (TX3 3).2.2.1 "SignReforms" ∈ lw_tbl := List.mem_of_getElem? (i := 113) (by decide +kernel)
theorem fl_RX10_93 : Cond.fieldLinkNest RX10 93 (TX3 4).1 (TX3 4).2.1 (TX3 4).2.2.1 "SignReforms" ∈ lw_tbl := List.mem_of_getElem? (i := 115) (by decide +kernel)
theorem fl_RX10_135 : Cond.fieldLink RX10 135 (TX7 0).1 (TX7 0).2.1 (TX7 0).2.2.1 ∈ GT := gt_in 170 (by decide +kernel) rfl
theorem fl_RX10_160 : Cond.fieldLink RX10 160 (TX7 10).1 (TX7 10).2.1 (TX7 10).2.2.1 ∈ GT := gt_in 193 (by decide +kernel) rfl
theorem fl_RX10_172 : Cond.fieldLink RX10 172 (TX7 1).1 (TX7 1).2.1 (TX7 1).2.2.1 ∈ GT := gt_in 173 (by decide +kernel) rfl
theorem fl_RX10_202 : Cond.fieldLinkNest RX10 202 (TX2 2).1 (TX2 2).2.1 (TX2 2).2.2.1 "SignReforms" ∈ lw_tbl := List.mem_of_getElem? (i := 281) (by decide +kernel)
theorem fl_RX10_267 : Cond.fieldLink RX10 267 (TX7 11).1 (TX7 11).2.1 (TX7 11).2.2.1 ∈ GT := gt_in 196 (by decide +kernel) rfl
theorem fl_RX11_7 : Cond.fieldLink RX11 7 (TX11 1).1 (TX11 1).2.1 (TX11 1).2.2.1 ∈ GT := gt_in 1079 (by decide +kernel) rfl
theorem fl_RX11_13 : Cond.fieldLink RX11 13 (TX11 2).1 (TX11 2).2.1 (TX11 2).2.2.1 ∈ GT := gt_in 1080 (by decide +kernel) rfl
theorem fl_RX11_16 : Cond.fieldLink RX11 16 (TX11 3).1 (TX11 3).2.1 (TX11 3).2.2.1 ∈ GT := gt_in 1081 (by decide +kernel) rfl
theorem fl_RX11_19 : Cond.fieldLink RX11 19 (TX11 5).1 (TX11 5).2.1 (TX11 5).2.2.1 ∈ GT := gt_in 1083 (by decide +kernel) rfl
theorem fl_RX11_22 : Cond.fieldLink RX11 22 (TX11 7).1 (TX11 7).2.1 (TX11 7).2.2.1 ∈ GT := gt_in 1085 (by decide +kernel) rfl
theorem fl_RX11_25 : Cond.fieldLink RX11 25 (TX11 9).1 (TX11 9).2.1 (TX11 9).2.2.1 ∈ GT := gt_in 1087 (by decide +kernel) rfl
theorem fl_RX11_28 : Cond.fieldLink RX11 28 (TX11 10).1 (TX11 10).2.1 (TX11 10).2.2.1 ∈ GT := gt_in 1088 (by decide +kernel) rfl
theorem fl_RX11_31 : Cond.fieldLink RX11 31 (TX11 17).1 (TX11 17).2.1 (TX11 17).2.2.1 ∈ GT := gt_in 1095 (by decide +kernel) rfl
theorem fl_RX11_37 : Cond.fieldLink RX11 37 (TX11 0).1 (TX11 0).2.1 (TX11 0).2.2.1 ∈ GT := gt_in 1078 (by decide +kernel) rfl
theorem fl_RX11_50 : Cond.fieldLink RX11 50 (TX11 4).1 (TX11 4).2.1 (TX11 4).2.2.1 ∈ GT := gt_in 1082 (by decide +kernel) rfl
theorem fl_RX11_115 : Cond.fieldLink RX11 115 (TX11 11).1 (TX11 11).2.1 (TX11 11).2.2.1 ∈ GT := gt_in 1089 (by decide +kernel) rfl
theorem fl_RX11_118 : Cond.fieldLink RX11 118 (TX11 12).1 (TX11 12).2.1 (TX11 12).2.2.1 ∈ GT := gt_in 1090 (by decide +kernel) rfl
theorem fl_RX11_121 : Cond.fieldLink RX11 121 (TX11 13).1 (TX11 13).2.1 (TX11 13).2.2.1 ∈ GT := gt_in 1091 (by decide +kernel) rfl
theorem fl_RX11_137 : Cond.fieldLink RX11 137 (TX11 14).1 (TX11 14).2.1 (TX11 14).2.2.1 ∈ GT := gt_in 1092 (by decide +kernel) rfl
theorem fl_RX11_161 : Cond.fieldLink RX11 161 (TX11 8).1 (TX11 8).2.1 (TX11 8).2.2.1 ∈ GT := gt_in 1086 (by decide +kernel) rfl
theorem fl_RX11_167 : Cond.fieldLink RX11 167 (TX11 16).1 (TX11 16).2.1 (TX11 16).2.2.1 ∈ GT := gt_in 1094 (by decide +kernel) rfl
theorem fl_RX11_171 : Cond.fieldLink RX11 171 (TX11 15).1 (TX11 15).2.1 (TX11 15).2.2.1 ∈ GT := gt_in 1093 (by decide +kernel) rfl
theorem fl_RX11_201 : Cond.fieldLink RX11 201 (TX11 6).1 (TX11 6).2.1 (TX11 6).2.2.1 ∈ GT := gt_in 1084 (by decide +kernel) rfl
theorem fl_RX2_11 : Cond.fieldLink RX2 11 (TX2 0).1 (TX2 0).2.1 (TX2 0).2.2.1 ∈ GT := gt_in 278 (by decide +kernel) rfl
theorem fl_RX2_17 : Cond.fieldLink RX2 17 (TX2 3).1 (TX2 3).2.1 (TX2 3).2.2.1 ∈ GT := gt_in 282 (by decide +kernel) rfl
theorem fl_RX2_20 : Cond.fieldLink RX2 20 (TX2 4).1 (TX2 4).2.1 (TX2 4).2.2.1 ∈ GT := gt_in 283 (by decide +kernel) rfl
theorem fl_RX2_25 : Cond.fieldLink RX2 25 (TX2 1).1 (TX2 1).2.1 (TX2 1).2.2.1 ∈ GT := gt_in 279 (by decide +kernel) rfl
theorem fl_RX2_29 : Cond.fieldLink RX2 29 (TX2 2).1 (TX2 2).2.1 (TX2 2).2.2.1 ∈ GT := gt_in 280 (by decide +kernel) rfl
theorem fl_RX3_9 : Cond.fieldLink RX3 9 (TX3 0).1 (TX3 0).2.1 (TX3 0).2.2.1 ∈ GT := gt_in 109 (by decide +kernel) rfl
theorem fl_RX3_15 : Cond.fieldLink RX3 15 (TX3 1).1 (TX3 1).2.1 (TX3 1).2.2.1 ∈ GT := gt_in 110 (by decide +kernel) rfl
theorem fl_RX3_23 : Cond.fieldLink RX3 23 (TX3 2).1 (TX3 2).2.1 (TX3 2).2.2.1 ∈ GT := gt_in 112 (by decide +kernel) rfl
theorem fl_RX3_36 : Cond.fieldLink RX3 36 (TX3 5).1 (TX3 5).2.1 (TX3 5).2.2.1 ∈ GT := gt_in 117 (by decide +kernel) rfl
theorem fl_RX3_47 : Cond.fieldLink RX3 47 (TX3 3).1 (TX3 3).2.1 (TX3 3).2.2.1 ∈ GT := gt_in 114 (by decide +kernel) rfl
theorem fl_RX3_63 : Cond.fieldLink RX3 63 (TX3 4).1 (TX3 4).2.1 (TX3 4).2.2.1 ∈ GT := gt_in 116 (by decide +kernel) rfl
theorem fl_RX4_9 : Cond.fieldLink RX4 9 (TX4 0).1 (TX4 0).2.1 (TX4 0).2.2.1 ∈ GT := gt_in 240 (by decide +kernel) rfl
theorem fl_RX5_42 : Cond.fieldLink RX5 42 (TX8 0).1 (TX8 0).2.1 (TX8 0).2.2.1 ∈ GT := gt_in 255 (by decide +kernel) rfl
theorem fl_RX5_46 : Cond.fieldLink RX5 46 (TX7 8).1 (TX7 8).2.1 (TX7 8).2.2.1 ∈ GT := gt_in 187 (by decide +kernel) rfl
theorem fl_RX7_12 : Cond.fieldLink RX7 12 (TX7 0).1 (TX7 0).2.1 (TX7 0).2.2.1 ∈ GT := gt_in 168 (by decide +kernel) rfl
theorem fl_RX7_18 : Cond.fieldLink RX7 18 (TX7 2).1 (TX7 2).2.1 (TX7 2).2.2.1 ∈ GT := gt_in 174 (by decide +kernel) rfl
theorem fl_RX7_22 : Cond.fieldLink RX7 22 (TX7 3).1 (TX7 3).2.1 (TX7 3).2.2.1 ∈ GT := gt_in 176 (by decide +kernel) rfl
theorem fl_RX7_25 : Cond.fieldLink RX7 25 (TX7 4).1 (TX7 4).2.1 (TX7 4).2.2.1 ∈ GT := gt_in 178 (by decide +kernel) rfl
theorem fl_RX7_28 : Cond.fieldLink RX7 28 (TX7 5).1 (TX7 5).2.1 (TX7 5).2.2.1 ∈ GT := gt_in 180 (by decide +kernel) rfl
theorem fl_RX7_31 : Cond.fieldLink RX7 31 (TX7 6).1 (TX7 6).2.1 (TX7 6).2.2.1 ∈ GT := gt_in 182 (by decide +kernel) rfl
theorem fl_RX7_34 : Cond.fieldLink RX7 34 (TX7 7).1 (TX7 7).2.1 (TX7 7).2.2.1 ∈ GT := gt_in 184 (by decide +kernel) rfl
theorem fl_RX7_37 : Cond.fieldLink RX7 37 (TX7 8).1 (TX7 8).2.1 (TX7 8).2.2.1 ∈ GT := gt_in 186 (by decide +kernel) rfl
theorem fl_RX7_40 : Cond.fieldLink RX7 40 (TX7 9).1 (TX7 9).2.1 (TX7 9).2.2.1 ∈ GT := gt_in 189 (by decide +kernel) rfl
theorem fl_RX7_43 : Cond.fieldLink RX7 43 (TX7 10).1 (TX7 10).2.1 (TX7 10).2.2.1 ∈ GT := gt_in 191 (by decide +kernel) rfl
theorem fl_RX7_49 : Cond.fieldLinkNest RX7 49 (TX0 0).1 (TX0 0).2.1 (TX0 0).2.2.1 "SignReforms" ∈ lw_tbl := List.mem_of_getElem? (i := 151) (by decide +kernel)
theorem fl_RX7_53 : Cond.fieldLink RX7 53 (TX7 1).1 (TX7 1).2.1 (TX7 1).2.2.1 ∈ GT := gt_in 172 (by decide +kernel) rfl
theorem fl_RX7_62 : Cond.fieldLink RX7 62 (TX7 11).1 (TX7 11).2.1 (TX7 11).2.2.1 ∈ GT := gt_in 194 (by decide +kernel) rfl
theorem fl_RX7_65 : Cond.fieldLink RX7 65 (TX7 12).1 (TX7 12).2.1 (TX7 12).2.2.1 ∈ GT := gt_in 197 (by decide +kernel) rfl
theorem fl_RX7_68 : Cond.fieldLink RX7 68 (TX7 13).1 (TX7 13).2.1 (TX7 13).2.2.1 ∈ GT := gt_in 199 (by decide +kernel) rfl
theorem fl_RX7_71 : Cond.fieldLink RX7 71 (TX7 14).1 (TX7 14).2.1 (TX7 14).2.2.1 ∈ GT := gt_in 201 (by decide +kernel) rfl
theorem fl_RX8_12 : Cond.fieldLink RX8 12 (TX8 0).1 (TX8 0).2.1 (TX8 0).2.2.1 ∈ GT := gt_in 254 (by decide +kernel) rfl
theorem fl_RX8_21 : Cond.fieldLink RX8 21 (TX8 1).1 (TX8 1).2.1 (TX8 1).2.2.1 ∈ GT := gt_in 257 (by decide +kernel) rfl
theorem fl_RX8_28 : Cond.fieldLink RX8 28 (TX8 2).1 (TX8 2).2.1 (TX8 2).2.2.1 ∈ GT := gt_in 258 (by decide +kernel) rfl
theorem fl_RX8_32 : Cond.fieldLink RX8 32 (TX8 3).1 (TX8 3).2.1 (TX8 3).2.2.1 ∈ GT := gt_in 259 (by decide +kernel) rfl
theorem fl_RX8_36 : Cond.fieldLink RX8 36 (TX7 1).1 (TX7 1).2.1 (TX7 1).2.2.1 ∈ GT := gt_in 171 (by decide +kernel) rfl
theorem fl_RX8_40 : Cond.fieldLink RX8 40 (TX7 4).1 (TX7 4).2.1 (TX7 4).2.2.1 ∈ GT := gt_in 179 (by decide +kernel) rfl
theorem fl_RX8_43 : Cond.fieldLink RX8 43 (TX7 5).1 (TX7 5).2.1 (TX7 5).2.2.1 ∈ GT := gt_in 181 (by decide +kernel) rfl
theorem fl_RX8_54 : Cond.fieldLink RX8 54 (TX7 10).1 (TX7 10).2.1 (TX7 10).2.2.1 ∈ GT := gt_in 192 (by decide +kernel) rfl
theorem fl_RX8_61 : Cond.fieldLink RX8 61 (TX7 3).1 (TX7 3).2.1 (TX7 3).2.2.1 ∈ GT := gt_in 177 (by decide +kernel) rfl
theorem fl_RX8_64 : Cond.fieldLink RX8 64 (TX7 0).1 (TX7 0).2.1 (TX7 0).2.2.1 ∈ GT := gt_in 169 (by decide +kernel) rfl
theorem fl_RX8_79 : Cond.fieldLink RX8 79 (TX7 2).1 (TX7 2).2.1 (TX7 2).2.2.1 ∈ GT := gt_in 175 (by decide +kernel) rfl
theorem fl_RX8_82 : Cond.fieldLink RX8 82 (TX7 6).1 (TX7 6).2.1 (TX7 6).2.2.1 ∈ GT := gt_in 183 (by decide +kernel) rfl
theorem fl_RX8_85 : Cond.fieldLink RX8 85 (TX7 7).1 (TX7 7).2.1 (TX7 7).2.2.1 ∈ GT := gt_in 185 (by decide +kernel) rfl
theorem fl_RX8_96 : Cond.fieldLink RX8 96 (TX7 11).1 (TX7 11).2.1 (TX7 11).2.2.1 ∈ GT := gt_in 195 (by decide +kernel) rfl
theorem fl_RX8_129 : Cond.fieldLink RX8 129 (TX7 14).1 (TX7 14).2.1 (TX7 14).2.2.1 ∈ GT := gt_in 202 (by decide +kernel) rfl
theorem fl_RX8_135 : Cond.fieldLink RX8 135 (TX7 9).1 (TX7 9).2.1 (TX7 9).2.2.1 ∈ GT := gt_in 190 (by decide +kernel) rfl
theorem fl_RX8_141 : Cond.fieldLink RX8 141 (TX7 12).1 (TX7 12).2.1 (TX7 12).2.2.1 ∈ GT := gt_in 198 (by decide +kernel) rfl
theorem fl_RX8_150 : Cond.fieldLink RX8 150 (TX7 8).1 (TX7 8).2.1 (TX7 8).2.2.1 ∈ GT := gt_in 188 (by decide +kernel) rfl
theorem fl_RX8_153 : Cond.fieldLink RX8 153 (TX7 13).1 (TX7 13).2.1 (TX7 13).2.2.1 ∈ GT := gt_in 200 (by decide +kernel) rfl
theorem fl_RX8_172 : Cond.fieldLinkNest RX8 172 (TX0 0).1 (TX0 0).2.1 (TX0 0).2.2.1 "SignReforms" ∈ lw_tbl := List.mem_of_getElem? (i := 154) (by decide +kernel)
theorem ml_RX0_15 : Cond.methodLink RX0 15 yX9_isLetter ∈ GT := gt_in 887 (by decide +kernel) rfl
theorem ml_RX0_25 : Cond.methodLink RX0 25 yX0_has ∈ GT := gt_in 642 (by decide +kernel) rfl
theorem ml_RX0_28 : Cond.methodLink RX0 28 yX0_areFull ∈ GT := gt_in 625 (by decide +kernel) rfl
theorem ml_RX0_32 : Cond.methodLink RX0 32 arraycopyName ∈ GT := gt_in 643 (by decide +kernel) rfl
theorem ml_RX0_38 : Cond.methodLink RX0 38 yX0_spellingWithout ∈ GT := gt_in 603 (by decide +kernel) rfl
theorem ml_RX0_42 : Cond.methodLink RX0 42 yX9_decreed ∈ GT := gt_in 607 (by decide +kernel) rfl
theorem ml_RX1_15 : Cond.methodLink RX1 15 yJ7_fill_53178 ∈ GT := gt_in 812 (by decide +kernel) rfl
theorem ml_RX1_21 : Cond.methodLink RX1 21 yX9_mirrored ∈ GT := gt_in 813 (by decide +kernel) rfl
theorem ml_RX1_27 : Cond.methodLink RX1 27 yX1_through ∈ GT := gt_in 814 (by decide +kernel) rfl
theorem ml_RX1_31 : Cond.methodLink RX1 31 yX1_joinedTo ∈ GT := gt_in 827 (by decide +kernel) rfl
theorem ml_RX1_41 : Cond.methodLink RX1 41 yX1_pastDecree ∈ GT := gt_in 818 (by decide +kernel) rfl
theorem ml_RX1_45 : Cond.methodLink RX1 45 yX1_let ∈ GT := gt_in 822 (by decide +kernel) rfl
theorem ml_RX1_48 : Cond.methodLink RX1 48 yX0_number ∈ GT := gt_in 826 (by decide +kernel) rfl
theorem ml_RX10_49 : Cond.methodLink RX10 49 yX3_put ∈ GT := gt_in 564 (by decide +kernel) rfl
theorem ml_RX10_53 : Cond.methodLink RX10 53 yX3_firstError ∈ GT := gt_in 317 (by decide +kernel) rfl
theorem ml_RX10_63 : Cond.methodLink RX10 63 yX7_clear ∈ GT := gt_in 576 (by decide +kernel) rfl
theorem ml_RX10_68 : Cond.methodLink RX10 68 yX2_forgetStates ∈ GT := gt_in 577 (by decide +kernel) rfl
theorem ml_RX10_71 : Cond.methodLink RX10 71 yX2_emptySlots ∈ GT := gt_in 581 (by decide +kernel) rfl
theorem ml_RX10_74 : Cond.methodLink RX10 74 yX3_restart ∈ GT := gt_in 588 (by decide +kernel) rfl
theorem ml_RX10_78 : Cond.methodLink RX10 78 yX3_hasMore ∈ GT := gt_in 589 (by decide +kernel) rfl
theorem ml_RX10_81 : Cond.methodLink RX10 81 yX3_readCommand ∈ GT := gt_in 590 (by decide +kernel) rfl
theorem ml_RX10_84 : Cond.methodLink RX10 84 yX10_doneInTown ∈ GT := gt_in 591 (by decide +kernel) rfl
theorem ml_RX10_96 : Cond.methodLink RX10 96 yX8_bringSign ∈ GT := gt_in 595 (by decide +kernel) rfl
theorem ml_RX10_100 : Cond.methodLink RX10 100 yX8_giveDecree ∈ GT := gt_in 612 (by decide +kernel) rfl
theorem ml_RX10_104 : Cond.methodLink RX10 104 yX8_takeDecree ∈ GT := gt_in 629 (by decide +kernel) rfl
theorem ml_RX10_108 : Cond.methodLink RX10 108 yX8_repaint ∈ GT := gt_in 644 (by decide +kernel) rfl
theorem ml_RX10_111 : Cond.methodLink RX10 111 yX8_passMonths ∈ GT := gt_in 668 (by decide +kernel) rfl
theorem ml_RX10_114 : Cond.methodLink RX10 114 yX8_forgive ∈ GT := gt_in 687 (by decide +kernel) rfl
theorem ml_RX10_119 : Cond.methodLink RX10 119 yX8_numberOfTown ∈ GT := gt_in 707 (by decide +kernel) rfl
theorem ml_RX10_122 : Cond.methodLink RX10 122 yX10_requireSign ∈ GT := gt_in 732 (by decide +kernel) rfl
theorem ml_RX10_127 : Cond.methodLink RX10 127 yX8_numberOfSign ∈ GT := gt_in 754 (by decide +kernel) rfl
theorem ml_RX10_130 : Cond.methodLink RX10 130 yX10_requireDecree ∈ GT := gt_in 765 (by decide +kernel) rfl
theorem ml_RX10_139 : Cond.methodLink RX10 139 yX0_number ∈ GT := gt_in 772 (by decide +kernel) rfl
theorem ml_RX10_143 : Cond.methodLink RX10 143 yX10_requireGuild ∈ GT := gt_in 783 (by decide +kernel) rfl
theorem ml_RX10_148 : Cond.methodLink RX10 148 yX8_numberOfGuild ∈ GT := gt_in 788 (by decide +kernel) rfl
theorem ml_RX10_153 : Cond.methodLink RX10 153 yX8_spelled ∈ GT := gt_in 804 (by decide +kernel) rfl
theorem ml_RX10_157 : Cond.methodLink RX10 157 yX10_requireSetting ∈ GT := gt_in 837 (by decide +kernel) rfl
theorem ml_RX10_164 : Cond.methodLink RX10 164 yX9_isWord ∈ GT := gt_in 848 (by decide +kernel) rfl
theorem ml_RX10_177 : Cond.methodLink RX10 177 yX2_remember ∈ GT := gt_in 857 (by decide +kernel) rfl
theorem ml_RX10_181 : Cond.methodLink RX10 181 yX8_counted ∈ GT := gt_in 870 (by decide +kernel) rfl
theorem ml_RX10_184 : Cond.methodLink RX10 184 yX10_requireDecreeArguments ∈ GT := gt_in 881 (by decide +kernel) rfl
theorem ml_RX10_188 : Cond.methodLink RX10 188 yX0_areFull ∈ GT := gt_in 888 (by decide +kernel) rfl
theorem ml_RX10_195 : Cond.methodLink RX10 195 yX8_canForgive ∈ GT := gt_in 919 (by decide +kernel) rfl
theorem ml_RX10_207 : Cond.methodLink RX10 207 yX2_takeBack ∈ GT := gt_in 937 (by decide +kernel) rfl
theorem ml_RX10_210 : Cond.methodLink RX10 210 yX8_reasonAgainstDecree ∈ GT := gt_in 445 (by decide +kernel) rfl
theorem ml_RX10_213 : Cond.methodLink RX10 213 yX8_spellingsApart ∈ GT := gt_in 955 (by decide +kernel) rfl
theorem ml_RX10_218 : Cond.methodLink RX10 218 yX8_signsPaidBy ∈ GT := gt_in 967 (by decide +kernel) rfl
theorem ml_RX10_221 : Cond.methodLink RX10 221 yX8_monthsTillFinesAreMore ∈ GT := gt_in 978 (by decide +kernel) rfl
theorem ml_RX10_230 : Cond.methodLink RX10 230 yX7_copyFrom ∈ GT := gt_in 992 (by decide +kernel) rfl
theorem ml_RX10_233 : Cond.methodLink RX10 233 yX5_succeeds ∈ GT := gt_in 993 (by decide +kernel) rfl
theorem ml_RX10_241 : Cond.methodLink RX10 241 yX8_allFines ∈ GT := gt_in 1019 (by decide +kernel) rfl
theorem ml_RX10_248 : Cond.methodLink RX10 248 yX6_takeTurn ∈ GT := gt_in 1022 (by decide +kernel) rfl
theorem ml_RX10_254 : Cond.methodLink RX10 254 yX8_lettersOfRights ∈ GT := gt_in 1034 (by decide +kernel) rfl
theorem ml_RX10_257 : Cond.methodLink RX10 257 yX8_wrongSigns ∈ GT := gt_in 1035 (by decide +kernel) rfl
theorem ml_RX10_260 : Cond.methodLink RX10 260 yX10_requireSlot ∈ GT := gt_in 1043 (by decide +kernel) rfl
theorem ml_RX10_263 : Cond.methodLink RX10 263 yX2_fillSlot ∈ GT := gt_in 1047 (by decide +kernel) rfl
theorem ml_RX10_270 : Cond.methodLink RX10 270 yX2_isFilled ∈ GT := gt_in 1058 (by decide +kernel) rfl
theorem ml_RX10_275 : Cond.methodLink RX10 275 yX2_copySlot ∈ GT := gt_in 1063 (by decide +kernel) rfl
theorem ml_RX10_278 : Cond.methodLink RX10 278 yX8_hasSign ∈ GT := gt_in 736 (by decide +kernel) rfl
theorem ml_RX10_286 : Cond.methodLink RX10 286 yX0_has ∈ GT := gt_in 769 (by decide +kernel) rfl
theorem ml_RX10_297 : Cond.methodLink RX10 297 yX0_canBe ∈ GT := gt_in 884 (by decide +kernel) rfl
theorem ml_RX11_34 : Cond.methodLink RX11 34 yX11_begins ∈ GT := gt_in 1074 (by decide +kernel) rfl
theorem ml_RX11_41 : Cond.methodLink RX11 41 yX11_in ∈ GT := gt_in 1141 (by decide +kernel) rfl
theorem ml_RX11_46 : Cond.methodLink RX11 46 yX11_isLetter ∈ GT := gt_in 1192 (by decide +kernel) rfl
theorem ml_RX11_53 : Cond.methodLink RX11 53 yX11_lettersOf ∈ GT := gt_in 1213 (by decide +kernel) rfl
theorem ml_RX11_57 : Cond.methodLink RX11 57 yX11_ofDecree ∈ GT := gt_in 1210 (by decide +kernel) rfl
theorem ml_RX11_61 : Cond.methodLink RX11 61 yX11_letterAt ∈ GT := gt_in 1216 (by decide +kernel) rfl
theorem ml_RX11_64 : Cond.methodLink RX11 64 yX11_made ∈ GT := gt_in 1206 (by decide +kernel) rfl
theorem ml_RX11_67 : Cond.methodLink RX11 67 yX11_of ∈ GT := gt_in 1199 (by decide +kernel) rfl
theorem ml_RX11_70 : Cond.methodLink RX11 70 yX11_spelled ∈ GT := gt_in 1202 (by decide +kernel) rfl
theorem ml_RX11_73 : Cond.methodLink RX11 73 yX11_rightOf ∈ GT := gt_in 1223 (by decide +kernel) rfl
theorem ml_RX11_76 : Cond.methodLink RX11 76 yX11_lesser ∈ GT := gt_in 1278 (by decide +kernel) rfl
theorem ml_RX11_79 : Cond.methodLink RX11 79 yX11_apartOf ∈ GT := gt_in 1274 (by decide +kernel) rfl
theorem ml_RX11_82 : Cond.methodLink RX11 82 yX11_apartBy ∈ GT := gt_in 1270 (by decide +kernel) rfl
theorem ml_RX11_85 : Cond.methodLink RX11 85 yX11_isWrong ∈ GT := gt_in 1285 (by decide +kernel) rfl
theorem ml_RX11_88 : Cond.methodLink RX11 88 yX11_hindrance ∈ GT := gt_in 1219 (by decide +kernel) rfl
theorem ml_RX11_92 : Cond.methodLink RX11 92 yX11_putsDecree ∈ GT := gt_in 1238 (by decide +kernel) rfl
theorem ml_RX11_96 : Cond.methodLink RX11 96 yX11_keepsDecrees ∈ GT := gt_in 1250 (by decide +kernel) rfl
theorem ml_RX11_99 : Cond.methodLink RX11 99 yX11_restoresDecrees ∈ GT := gt_in 1254 (by decide +kernel) rfl
theorem ml_RX11_102 : Cond.methodLink RX11 102 yX11_costOf ∈ GT := gt_in 1266 (by decide +kernel) rfl
theorem ml_RX11_105 : Cond.methodLink RX11 105 yX11_wrongs ∈ GT := gt_in 1297 (by decide +kernel) rfl
theorem ml_RX11_108 : Cond.methodLink RX11 108 yX11_isWord ∈ GT := gt_in 1188 (by decide +kernel) rfl
theorem ml_RX11_111 : Cond.methodLink RX11 111 yX11_areArguments ∈ GT := gt_in 1231 (by decide +kernel) rfl
theorem ml_RX11_124 : Cond.methodLink RX11 124 yX11_errorOfSign ∈ GT := gt_in 1184 (by decide +kernel) rfl
theorem ml_RX11_127 : Cond.methodLink RX11 127 yX11_comes ∈ GT := gt_in 1195 (by decide +kernel) rfl
theorem ml_RX11_130 : Cond.methodLink RX11 130 yX11_errorOfDecree ∈ GT := gt_in 1227 (by decide +kernel) rfl
theorem ml_RX11_134 : Cond.methodLink RX11 134 yX11_gives ∈ GT := gt_in 1234 (by decide +kernel) rfl
theorem ml_RX11_140 : Cond.methodLink RX11 140 yX11_isDecree ∈ GT := gt_in 1242 (by decide +kernel) rfl
theorem ml_RX11_143 : Cond.methodLink RX11 143 yX11_revokes ∈ GT := gt_in 1246 (by decide +kernel) rfl
theorem ml_RX11_146 : Cond.methodLink RX11 146 yX11_isSign ∈ GT := gt_in 1258 (by decide +kernel) rfl
theorem ml_RX11_149 : Cond.methodLink RX11 149 yX11_paints ∈ GT := gt_in 1262 (by decide +kernel) rfl
theorem ml_RX11_152 : Cond.methodLink RX11 152 yX11_goesOn ∈ GT := gt_in 1281 (by decide +kernel) rfl
theorem ml_RX11_155 : Cond.methodLink RX11 155 yX11_errorOfAmnesty ∈ GT := gt_in 1289 (by decide +kernel) rfl
theorem ml_RX11_158 : Cond.methodLink RX11 158 yX11_spares ∈ GT := gt_in 1293 (by decide +kernel) rfl
theorem ml_RX11_164 : Cond.methodLink RX11 164 yX11_holds ∈ GT := gt_in 1144 (by decide +kernel) rfl
theorem ml_RX11_174 : Cond.methodLink RX11 174 yX11_isNext ∈ GT := gt_in 1164 (by decide +kernel) rfl
theorem ml_RX11_178 : Cond.methodLink RX11 178 yX11_takes ∈ GT := gt_in 1160 (by decide +kernel) rfl
theorem ml_RX11_181 : Cond.methodLink RX11 181 yX11_readWord ∈ GT := gt_in 1172 (by decide +kernel) rfl
theorem ml_RX11_184 : Cond.methodLink RX11 184 yX11_readMonths ∈ GT := gt_in 1176 (by decide +kernel) rfl
theorem ml_RX11_187 : Cond.methodLink RX11 187 yX11_readCommand ∈ GT := gt_in 1168 (by decide +kernel) rfl
theorem ml_RX11_190 : Cond.methodLink RX11 190 yX11_does ∈ GT := gt_in 1180 (by decide +kernel) rfl
theorem ml_RX11_193 : Cond.methodLink RX11 193 yX11_hasReasons ∈ GT := gt_in 1301 (by decide +kernel) rfl
theorem ml_RX11_197 : Cond.methodLink RX11 197 yX11_goesThrough ∈ GT := gt_in 1156 (by decide +kernel) rfl
theorem ml_RX11_204 : Cond.methodLink RX11 204 yX11_sumOf ∈ GT := gt_in 1317 (by decide +kernel) rfl
theorem ml_RX11_207 : Cond.methodLink RX11 207 yX11_told ∈ GT := gt_in 1313 (by decide +kernel) rfl
theorem ml_RX11_210 : Cond.methodLink RX11 210 yX11_ofSign ∈ GT := gt_in 1325 (by decide +kernel) rfl
theorem ml_RX11_213 : Cond.methodLink RX11 213 yX11_ofGuild ∈ GT := gt_in 1337 (by decide +kernel) rfl
theorem ml_RX11_216 : Cond.methodLink RX11 216 yX11_remember ∈ GT := gt_in 1357 (by decide +kernel) rfl
theorem ml_RX11_219 : Cond.methodLink RX11 219 yX11_acts ∈ GT := gt_in 1353 (by decide +kernel) rfl
theorem ml_RX11_222 : Cond.methodLink RX11 222 yX11_wouldHinderMore ∈ GT := gt_in 1397 (by decide +kernel) rfl
theorem ml_RX11_225 : Cond.methodLink RX11 225 yX11_wouldHinder ∈ GT := gt_in 1393 (by decide +kernel) rfl
theorem ml_RX11_228 : Cond.methodLink RX11 228 yX11_paidBy ∈ GT := gt_in 1413 (by decide +kernel) rfl
theorem ml_RX11_231 : Cond.methodLink RX11 231 yX11_worthBehind ∈ GT := gt_in 1421 (by decide +kernel) rfl
theorem ml_RX11_234 : Cond.methodLink RX11 234 yX11_putAside ∈ GT := gt_in 1437 (by decide +kernel) rfl
theorem ml_RX11_239 : Cond.methodLink RX11 239 yX11_succeeds ∈ GT := gt_in 1441 (by decide +kernel) rfl
theorem ml_RX11_242 : Cond.methodLink RX11 242 yX11_putBack ∈ GT := gt_in 1445 (by decide +kernel) rfl
theorem ml_RX11_251 : Cond.methodLink RX11 251 yX11_runs ∈ GT := gt_in 1433 (by decide +kernel) rfl
theorem ml_RX11_255 : Cond.methodLink RX11 255 yX11_wordBy ∈ GT := gt_in 1463 (by decide +kernel) rfl
theorem ml_RX11_262 : Cond.methodLink RX11 262 yX11_turns ∈ GT := gt_in 1459 (by decide +kernel) rfl
theorem ml_RX11_265 : Cond.methodLink RX11 265 yX11_simulates ∈ GT := gt_in 1453 (by decide +kernel) rfl
theorem ml_RX2_32 : Cond.methodLink RX2 32 yX7_copyFrom ∈ GT := gt_in 861 (by decide +kernel) rfl
theorem ml_RX2_36 : Cond.methodLink RX2 36 yX2_isFilled ∈ GT := gt_in 1067 (by decide +kernel) rfl
theorem ml_RX2_40 : Cond.methodLink RX2 40 yJ7_fill_49daa ∈ GT := gt_in 585 (by decide +kernel) rfl
theorem ml_RX3_19 : Cond.methodLink RX3 19 yX3_restart ∈ GT := gt_in 321 (by decide +kernel) rfl
theorem ml_RX3_26 : Cond.methodLink RX3 26 yX3_hasMore ∈ GT := gt_in 329 (by decide +kernel) rfl
theorem ml_RX3_29 : Cond.methodLink RX3 29 yX3_readCommand ∈ GT := gt_in 333 (by decide +kernel) rfl
theorem ml_RX3_32 : Cond.methodLink RX3 32 yX3_readMark ∈ GT := gt_in 325 (by decide +kernel) rfl
theorem ml_RX3_50 : Cond.methodLink RX3 50 yX3_readDigit ∈ GT := gt_in 424 (by decide +kernel) rfl
theorem ml_RX3_54 : Cond.methodLink RX3 54 yX3_readWord ∈ GT := gt_in 428 (by decide +kernel) rfl
theorem ml_RX3_57 : Cond.methodLink RX3 57 yX3_readLetter ∈ GT := gt_in 432 (by decide +kernel) rfl
theorem ml_RX3_60 : Cond.methodLink RX3 60 yX3_readMonths ∈ GT := gt_in 436 (by decide +kernel) rfl
theorem ml_RX4_15 : Cond.methodLink RX4 15 yX4_nextRow ∈ GT := gt_in 660 (by decide +kernel) rfl
theorem ml_RX4_19 : Cond.methodLink RX4 19 yX9_letters ∈ GT := gt_in 665 (by decide +kernel) rfl
theorem ml_RX4_25 : Cond.methodLink RX4 25 Lib.Math.min.name ∈ GT := gt_in 664 (by decide +kernel) rfl
theorem ml_RX5_9 : Cond.methodLink RX5 9 yX5_isGiven ∈ GT := gt_in 996 (by decide +kernel) rfl
theorem ml_RX5_15 : Cond.methodLink RX5 15 yX8_takeDecree ∈ GT := gt_in 1001 (by decide +kernel) rfl
theorem ml_RX5_21 : Cond.methodLink RX5 21 yX8_repaint ∈ GT := gt_in 1002 (by decide +kernel) rfl
theorem ml_RX5_24 : Cond.methodLink RX5 24 yX5_monthsPass ∈ GT := gt_in 1003 (by decide +kernel) rfl
theorem ml_RX5_28 : Cond.methodLink RX5 28 yX8_forgive ∈ GT := gt_in 1007 (by decide +kernel) rfl
theorem ml_RX5_31 : Cond.methodLink RX5 31 yX8_hasSign ∈ GT := gt_in 1008 (by decide +kernel) rfl
theorem ml_RX5_35 : Cond.methodLink RX5 35 yX8_lettersWrong ∈ GT := gt_in 1009 (by decide +kernel) rfl
theorem ml_RX5_38 : Cond.methodLink RX5 38 yX8_wrongSigns ∈ GT := gt_in 1010 (by decide +kernel) rfl
theorem ml_RX5_52 : Cond.methodLink RX5 52 yX0_canBe ∈ GT := gt_in 999 (by decide +kernel) rfl
theorem ml_RX5_58 : Cond.methodLink RX5 58 yX8_giveDecree ∈ GT := gt_in 1000 (by decide +kernel) rfl
theorem ml_RX5_62 : Cond.methodLink RX5 62 yX8_passMonths ∈ GT := gt_in 1006 (by decide +kernel) rfl
theorem ml_RX6_9 : Cond.methodLink RX6 9 yX6_wordFrom ∈ GT := gt_in 1025 (by decide +kernel) rfl
theorem ml_RX6_15 : Cond.methodLink RX6 15 yX8_bringSign ∈ GT := gt_in 1028 (by decide +kernel) rfl
theorem ml_RX6_21 : Cond.methodLink RX6 21 yX8_giveDecree ∈ GT := gt_in 1029 (by decide +kernel) rfl
theorem ml_RX6_25 : Cond.methodLink RX6 25 yX8_takeDecree ∈ GT := gt_in 1030 (by decide +kernel) rfl
theorem ml_RX6_28 : Cond.methodLink RX6 28 yX8_repaint ∈ GT := gt_in 1031 (by decide +kernel) rfl
theorem ml_RX6_31 : Cond.methodLink RX6 31 yX8_forgive ∈ GT := gt_in 1032 (by decide +kernel) rfl
theorem ml_RX6_34 : Cond.methodLink RX6 34 yX8_passMonths ∈ GT := gt_in 1033 (by decide +kernel) rfl
theorem ml_RX7_56 : Cond.methodLink RX7 56 yJ7_fill_53178 ∈ GT := gt_in 165 (by decide +kernel) rfl
theorem ml_RX7_74 : Cond.methodLink RX7 74 yX0_copyFrom ∈ GT := gt_in 865 (by decide +kernel) rfl
theorem ml_RX7_78 : Cond.methodLink RX7 78 arraycopyName ∈ GT := gt_in 869 (by decide +kernel) rfl
theorem ml_RX8_46 : Cond.methodLink RX8 46 yX4_measured ∈ GT := gt_in 656 (by decide +kernel) rfl
theorem ml_RX8_50 : Cond.methodLink RX8 50 yX8_lettersWrong ∈ GT := gt_in 652 (by decide +kernel) rfl
theorem ml_RX8_57 : Cond.methodLink RX8 57 yX8_hasSign ∈ GT := gt_in 449 (by decide +kernel) rfl
theorem ml_RX8_68 : Cond.methodLink RX8 68 yX1_spellingOf ∈ GT := gt_in 808 (by decide +kernel) rfl
theorem ml_RX8_72 : Cond.methodLink RX8 72 yX0_spellingOf ∈ GT := gt_in 599 (by decide +kernel) rfl
theorem ml_RX8_76 : Cond.methodLink RX8 76 yX8_reasonAgainstSign ∈ GT := gt_in 608 (by decide +kernel) rfl
theorem ml_RX8_88 : Cond.methodLink RX8 88 yX0_areFull ∈ GT := gt_in 616 (by decide +kernel) rfl
theorem ml_RX8_92 : Cond.methodLink RX8 92 yX8_reasonAgainstDecree ∈ GT := gt_in 620 (by decide +kernel) rfl
theorem ml_RX8_99 : Cond.methodLink RX8 99 yX0_add ∈ GT := gt_in 621 (by decide +kernel) rfl
theorem ml_RX8_103 : Cond.methodLink RX8 103 arraycopyName ∈ GT := gt_in 626 (by decide +kernel) rfl
theorem ml_RX8_109 : Cond.methodLink RX8 109 yX0_has ∈ GT := gt_in 633 (by decide +kernel) rfl
theorem ml_RX8_112 : Cond.methodLink RX8 112 yX0_spellingWithout ∈ GT := gt_in 637 (by decide +kernel) rfl
theorem ml_RX8_115 : Cond.methodLink RX8 115 yX8_reasonAgainstPlan ∈ GT := gt_in 468 (by decide +kernel) rfl
theorem ml_RX8_119 : Cond.methodLink RX8 119 yX0_remove ∈ GT := gt_in 638 (by decide +kernel) rfl
theorem ml_RX8_123 : Cond.methodLink RX8 123 yX9_decreed ∈ GT := gt_in 453 (by decide +kernel) rfl
theorem ml_RX8_132 : Cond.methodLink RX8 132 yX8_costOf ∈ GT := gt_in 648 (by decide +kernel) rfl
theorem ml_RX8_138 : Cond.methodLink RX8 138 yX8_allFines ∈ GT := gt_in 672 (by decide +kernel) rfl
theorem ml_RX8_144 : Cond.methodLink RX8 144 yX8_fineWrongSigns ∈ GT := gt_in 679 (by decide +kernel) rfl
theorem ml_RX8_147 : Cond.methodLink RX8 147 yX8_isWrong ∈ GT := gt_in 683 (by decide +kernel) rfl
theorem ml_RX8_156 : Cond.methodLink RX8 156 yX8_canForgive ∈ GT := gt_in 691 (by decide +kernel) rfl
theorem ml_RX8_159 : Cond.methodLink RX8 159 yX8_wrongSigns ∈ GT := gt_in 695 (by decide +kernel) rfl
theorem ml_RX8_162 : Cond.methodLink RX8 162 yX8_sum ∈ GT := gt_in 676 (by decide +kernel) rfl
theorem ml_RX8_166 : Cond.methodLink RX8 166 yX8_lettersOf ∈ GT := gt_in 711 (by decide +kernel) rfl
theorem ml_RX8_169 : Cond.methodLink RX8 169 yX9_letters ∈ GT := gt_in 715 (by decide +kernel) rfl
theorem ml_RX8_175 : Cond.methodLink RX8 175 yX8_lettersOfRights ∈ GT := gt_in 716 (by decide +kernel) rfl
theorem ml_RX8_178 : Cond.methodLink RX8 178 yX8_costOfAll ∈ GT := gt_in 720 (by decide +kernel) rfl
theorem ml_RX8_181 : Cond.methodLink RX8 181 yX8_signsOfGuild ∈ GT := gt_in 792 (by decide +kernel) rfl
theorem ml_RX9_10 : Cond.methodLink RX9 10 yX9_isLetter ∈ GT := gt_in 852 (by decide +kernel) rfl
theorem ml_RX9_16 : Cond.methodLink RX9 16 yX9_mirrored ∈ GT := gt_in 456 (by decide +kernel) rfl
theorem ml_RX9_20 : Cond.methodLink RX9 20 yX9_dropped ∈ GT := gt_in 459 (by decide +kernel) rfl
theorem ml_RX9_24 : Cond.methodLink RX9 24 yX9_joined ∈ GT := gt_in 462 (by decide +kernel) rfl
theorem ml_RX9_28 : Cond.methodLink RX9 28 yX9_single ∈ GT := gt_in 465 (by decide +kernel) rfl
set_option maxRecDepth 100000 in
theorem mi_Ar_fillZ : MI yJ7_fill_49daa cJ7_fill_49daa 4 none 2 := ⟨gt_in 587 (by rfl) rfl, gt_in 74 (by decide +kernel) rfl, by decide +kernel, by decide +kernel⟩
theorem ms_Ar_fillZ : Cond.static yJ7_fill_49daa ∈ GT := gt_in 586 (by decide +kernel) rfl
set_option maxRecDepth 100000 in
theorem mi_Ar_fillI : MI yJ7_fill_53178 cJ7_fill_53178 4 none 2 := ⟨gt_in 167 (by rfl) rfl, gt_in 74 (by decide +kernel) rfl, by decide +kernel, by decide +kernel⟩
theorem ms_Ar_fillI : Cond.static yJ7_fill_53178 ∈ GT := gt_in 166 (by decide +kernel) rfl
set_option maxRecDepth 100000 in
theorem mi_De_add : MI yX0_add cX0_add 7 none 5 := ⟨gt_in 624 (by rfl) rfl, gt_in 73 (by decide +kernel) rfl, by decide +kernel, by decide +kernel⟩
theorem mv_De_add : MV yX0_add := ⟨gt_in 622 (by decide +kernel) rfl, gt_in 623 (by decide +kernel) rfl⟩
set_option maxRecDepth 100000 in
theorem mi_De_areFull : MI yX0_areFull cX0_areFull 1 (some .boolean) 0 := ⟨gt_in 619 (by rfl) rfl, gt_in 73 (by decide +kernel) rfl, by decide +kernel, by decide +kernel⟩
theorem mv_De_areFull : MV yX0_areFull := ⟨gt_in 617 (by decide +kernel) rfl, gt_in 618 (by decide +kernel) rfl⟩
set_option maxRecDepth 100000 in
theorem mi_De_canBe : MI yX0_canBe cX0_canBe 4 (some .boolean) 4 := ⟨gt_in 886 (by rfl) rfl, gt_in 73 (by decide +kernel) rfl, by decide +kernel, by decide +kernel⟩
theorem ms_De_canBe : Cond.static yX0_canBe ∈ GT := gt_in 885 (by decide +kernel) rfl
set_option maxRecDepth 100000 in
theorem mi_De_copyFrom : MI yX0_copyFrom cX0_copyFrom 2 none 1 := ⟨gt_in 868 (by rfl) rfl, gt_in 73 (by decide +kernel) rfl, by decide +kernel, by decide +kernel⟩
theorem mv_De_copyFrom : MV yX0_copyFrom := ⟨gt_in 866 (by decide +kernel) rfl, gt_in 867 (by decide +kernel) rfl⟩
set_option maxRecDepth 100000 in
theorem mi_De_has : MI yX0_has cX0_has 2 (some .boolean) 1 := ⟨gt_in 636 (by rfl) rfl, gt_in 73 (by decide +kernel) rfl, by decide +kernel, by decide +kernel⟩
theorem mv_De_has : MV yX0_has := ⟨gt_in 634 (by decide +kernel) rfl, gt_in 635 (by decide +kernel) rfl⟩
set_option maxRecDepth 100000 in
theorem mi_De_number : MI yX0_number cX0_number 3 (some .int) 2 := ⟨gt_in 775 (by rfl) rfl, gt_in 73 (by decide +kernel) rfl, by decide +kernel, by decide +kernel⟩
theorem mv_De_number : MV yX0_number := ⟨gt_in 773 (by decide +kernel) rfl, gt_in 774 (by decide +kernel) rfl⟩
set_option maxRecDepth 100000 in
theorem mi_De_remove : MI yX0_remove cX0_remove 3 none 1 := ⟨gt_in 641 (by rfl) rfl, gt_in 73 (by decide +kernel) rfl, by decide +kernel, by decide +kernel⟩
theorem mv_De_remove : MV yX0_remove := ⟨gt_in 639 (by decide +kernel) rfl, gt_in 640 (by decide +kernel) rfl⟩
set_option maxRecDepth 100000 in
theorem mi_De_spellingOf : MI yX0_spellingOf cX0_spellingOf 2 (some .int) 1 := ⟨gt_in 602 (by rfl) rfl, gt_in 73 (by decide +kernel) rfl, by decide +kernel, by decide +kernel⟩
theorem mv_De_spellingOf : MV yX0_spellingOf := ⟨gt_in 600 (by decide +kernel) rfl, gt_in 601 (by decide +kernel) rfl⟩
set_option maxRecDepth 100000 in
theorem mi_De_spellingWithout : MI yX0_spellingWithout cX0_spellingWithout 6 (some .int) 2 := ⟨gt_in 606 (by rfl) rfl, gt_in 73 (by decide +kernel) rfl, by decide +kernel, by decide +kernel⟩
theorem mv_De_spellingWithout : MV yX0_spellingWithout := ⟨gt_in 604 (by decide +kernel) rfl, gt_in 605 (by decide +kernel) rfl⟩
set_option maxRecDepth 100000 in
theorem mi_SR_doneInTown : MI yX10_doneInTown cX10_doneInTown 2 (some .boolean) 0 := ⟨gt_in 594 (by rfl) rfl, gt_in 69 (by decide +kernel) rfl, by decide +kernel, by decide +kernel⟩
theorem mv_SR_doneInTown : MV yX10_doneInTown := ⟨gt_in 593 (by decide +kernel) rfl, gt_in 7 (by decide +kernel) rfl⟩
set_option maxRecDepth 100000 in
theorem mi_SR_requireDecree : MI yX10_requireDecree cX10_requireDecree 2 none 1 := ⟨gt_in 768 (by rfl) rfl, gt_in 69 (by decide +kernel) rfl, by decide +kernel, by decide +kernel⟩
theorem mv_SR_requireDecree : MV yX10_requireDecree := ⟨gt_in 767 (by decide +kernel) rfl, gt_in 14 (by decide +kernel) rfl⟩
set_option maxRecDepth 100000 in
theorem mi_SR_requireDecreeArguments : MI yX10_requireDecreeArguments cX10_requireDecreeArguments 4 none 4 := ⟨gt_in 883 (by rfl) rfl, gt_in 69 (by decide +kernel) rfl, by decide +kernel, by decide +kernel⟩
theorem ms_SR_requireDecreeArguments : Cond.static yX10_requireDecreeArguments ∈ GT := gt_in 882 (by decide +kernel) rfl
set_option maxRecDepth 100000 in
theorem mi_SR_requireGuild : MI yX10_requireGuild cX10_requireGuild 1 none 1 := ⟨gt_in 785 (by rfl) rfl, gt_in 69 (by decide +kernel) rfl, by decide +kernel, by decide +kernel⟩
theorem ms_SR_requireGuild : Cond.static yX10_requireGuild ∈ GT := gt_in 784 (by decide +kernel) rfl
set_option maxRecDepth 100000 in
theorem mi_SR_requireSetting : MI yX10_requireSetting cX10_requireSetting 1 none 1 := ⟨gt_in 839 (by rfl) rfl, gt_in 69 (by decide +kernel) rfl, by decide +kernel, by decide +kernel⟩
theorem ms_SR_requireSetting : Cond.static yX10_requireSetting ∈ GT := gt_in 838 (by decide +kernel) rfl
set_option maxRecDepth 100000 in
theorem mi_SR_requireSign : MI yX10_requireSign cX10_requireSign 2 none 1 := ⟨gt_in 735 (by rfl) rfl, gt_in 69 (by decide +kernel) rfl, by decide +kernel, by decide +kernel⟩
theorem mv_SR_requireSign : MV yX10_requireSign := ⟨gt_in 734 (by decide +kernel) rfl, gt_in 13 (by decide +kernel) rfl⟩
set_option maxRecDepth 100000 in
theorem mi_SR_requireSlot : MI yX10_requireSlot cX10_requireSlot 1 none 1 := ⟨gt_in 1045 (by rfl) rfl, gt_in 69 (by decide +kernel) rfl, by decide +kernel, by decide +kernel⟩
theorem ms_SR_requireSlot : Cond.static yX10_requireSlot ∈ GT := gt_in 1044 (by decide +kernel) rfl
set_option maxRecDepth 100000 in
theorem mi_Mo_acts : MI yX11_acts cX11_acts 6 (some .int) 4 := ⟨gt_in 1356 (by rfl) rfl, gt_in 78 (by decide +kernel) rfl, by decide +kernel, by decide +kernel⟩
theorem mv_Mo_acts : MV yX11_acts := ⟨gt_in 1355 (by decide +kernel) rfl, gt_in 56 (by decide +kernel) rfl⟩
set_option maxRecDepth 100000 in
theorem mi_Mo_apartBy : MI yX11_apartBy cX11_apartBy 2 (some .int) 1 := ⟨gt_in 1273 (by rfl) rfl, gt_in 78 (by decide +kernel) rfl, by decide +kernel, by decide +kernel⟩
theorem mv_Mo_apartBy : MV yX11_apartBy := ⟨gt_in 1272 (by decide +kernel) rfl, gt_in 44 (by decide +kernel) rfl⟩
set_option maxRecDepth 100000 in
theorem mi_Mo_apartOf : MI yX11_apartOf cX11_apartOf 9 (some .int) 2 := ⟨gt_in 1277 (by rfl) rfl, gt_in 78 (by decide +kernel) rfl, by decide +kernel, by decide +kernel⟩
theorem mv_Mo_apartOf : MV yX11_apartOf := ⟨gt_in 1276 (by decide +kernel) rfl, gt_in 45 (by decide +kernel) rfl⟩
set_option maxRecDepth 100000 in
theorem mi_Mo_areArguments : MI yX11_areArguments cX11_areArguments 5 (some .boolean) 4 := ⟨gt_in 1233 (by rfl) rfl, gt_in 78 (by decide +kernel) rfl, by decide +kernel, by decide +kernel⟩
theorem ms_Mo_areArguments : Cond.static yX11_areArguments ∈ GT := gt_in 1232 (by decide +kernel) rfl
set_option maxRecDepth 100000 in
theorem mi_Mo_begins : MI yX11_begins cX11_begins 2 none 0 := ⟨gt_in 1077 (by rfl) rfl, gt_in 78 (by decide +kernel) rfl, by decide +kernel, by decide +kernel⟩
theorem mv_Mo_begins : MV yX11_begins := ⟨gt_in 1076 (by decide +kernel) rfl, gt_in 19 (by decide +kernel) rfl⟩
set_option maxRecDepth 100000 in
theorem mi_Mo_comes : MI yX11_comes cX11_comes 5 (some .int) 2 := ⟨gt_in 1198 (by rfl) rfl, gt_in 78 (by decide +kernel) rfl, by decide +kernel, by decide +kernel⟩
theorem mv_Mo_comes : MV yX11_comes := ⟨gt_in 1197 (by decide +kernel) rfl, gt_in 29 (by decide +kernel) rfl⟩
set_option maxRecDepth 100000 in
theorem mi_Mo_costOf : MI yX11_costOf cX11_costOf 2 (some .int) 1 := ⟨gt_in 1269 (by rfl) rfl, gt_in 78 (by decide +kernel) rfl, by decide +kernel, by decide +kernel⟩
theorem mv_Mo_costOf : MV yX11_costOf := ⟨gt_in 1268 (by decide +kernel) rfl, gt_in 43 (by decide +kernel) rfl⟩
set_option maxRecDepth 100000 in
theorem mi_Mo_does : MI yX11_does cX11_does 1 (some .int) 0 := ⟨gt_in 1183 (by rfl) rfl, gt_in 78 (by decide +kernel) rfl, by decide +kernel, by decide +kernel⟩
theorem mv_Mo_does : MV yX11_does := ⟨gt_in 1182 (by decide +kernel) rfl, gt_in 27 (by decide +kernel) rfl⟩
set_option maxRecDepth 100000 in
theorem mi_Mo_errorOfAmnesty : MI yX11_errorOfAmnesty cX11_errorOfAmnesty 3 (some .int) 1 := ⟨gt_in 1292 (by rfl) rfl, gt_in 78 (by decide +kernel) rfl, by decide +kernel, by decide +kernel⟩
theorem mv_Mo_errorOfAmnesty : MV yX11_errorOfAmnesty := ⟨gt_in 1291 (by decide +kernel) rfl, gt_in 48 (by decide +kernel) rfl⟩
set_option maxRecDepth 100000 in
theorem mi_Mo_errorOfDecree : MI yX11_errorOfDecree cX11_errorOfDecree 5 (some .int) 4 := ⟨gt_in 1230 (by rfl) rfl, gt_in 78 (by decide +kernel) rfl, by decide +kernel, by decide +kernel⟩
theorem mv_Mo_errorOfDecree : MV yX11_errorOfDecree := ⟨gt_in 1229 (by decide +kernel) rfl, gt_in 34 (by decide +kernel) rfl⟩
set_option maxRecDepth 100000 in
theorem mi_Mo_errorOfSign : MI yX11_errorOfSign cX11_errorOfSign 3 (some .int) 2 := ⟨gt_in 1187 (by rfl) rfl, gt_in 78 (by decide +kernel) rfl, by decide +kernel, by decide +kernel⟩
theorem mv_Mo_errorOfSign : MV yX11_errorOfSign := ⟨gt_in 1186 (by decide +kernel) rfl, gt_in 28 (by decide +kernel) rfl⟩
set_option maxRecDepth 100000 in
theorem mi_Mo_gives : MI yX11_gives cX11_gives 6 (some .int) 4 := ⟨gt_in 1237 (by rfl) rfl, gt_in 78 (by decide +kernel) rfl, by decide +kernel, by decide +kernel⟩
theorem mv_Mo_gives : MV yX11_gives := ⟨gt_in 1236 (by decide +kernel) rfl, gt_in 35 (by decide +kernel) rfl⟩
set_option maxRecDepth 100000 in
theorem mi_Mo_goesOn : MI yX11_goesOn cX11_goesOn 6 (some .int) 1 := ⟨gt_in 1284 (by rfl) rfl, gt_in 78 (by decide +kernel) rfl, by decide +kernel, by decide +kernel⟩
theorem mv_Mo_goesOn : MV yX11_goesOn := ⟨gt_in 1283 (by decide +kernel) rfl, gt_in 46 (by decide +kernel) rfl⟩
set_option maxRecDepth 100000 in
theorem mi_Mo_goesThrough : MI yX11_goesThrough cX11_goesThrough 5 (some .int) 1 := ⟨gt_in 1159 (by rfl) rfl, gt_in 78 (by decide +kernel) rfl, by decide +kernel, by decide +kernel⟩
theorem mv_Mo_goesThrough : MV yX11_goesThrough := ⟨gt_in 1158 (by decide +kernel) rfl, gt_in 21 (by decide +kernel) rfl⟩
set_option maxRecDepth 100000 in
theorem mi_Mo_hasReasons : MI yX11_hasReasons cX11_hasReasons 1 (some .boolean) 0 := ⟨gt_in 1304 (by rfl) rfl, gt_in 78 (by decide +kernel) rfl, by decide +kernel, by decide +kernel⟩
theorem mv_Mo_hasReasons : MV yX11_hasReasons := ⟨gt_in 1303 (by decide +kernel) rfl, gt_in 51 (by decide +kernel) rfl⟩
set_option maxRecDepth 100000 in
theorem mi_Mo_hindrance : MI yX11_hindrance cX11_hindrance 6 (some .int) 0 := ⟨gt_in 1222 (by rfl) rfl, gt_in 78 (by decide +kernel) rfl, by decide +kernel, by decide +kernel⟩
theorem mv_Mo_hindrance : MV yX11_hindrance := ⟨gt_in 1221 (by decide +kernel) rfl, gt_in 32 (by decide +kernel) rfl⟩
set_option maxRecDepth 100000 in
theorem mi_Mo_holds : MI yX11_holds cX11_holds 2 (some .boolean) 1 := ⟨gt_in 1147 (by rfl) rfl, gt_in 78 (by decide +kernel) rfl, by decide +kernel, by decide +kernel⟩
theorem mv_Mo_holds : MV yX11_holds := ⟨gt_in 1146 (by decide +kernel) rfl, gt_in 20 (by decide +kernel) rfl⟩
set_option maxRecDepth 100000 in
theorem mi_Mo_in : MI yX11_in cX11_in 3 (some .boolean) 3 := ⟨gt_in 1143 (by rfl) rfl, gt_in 78 (by decide +kernel) rfl, by decide +kernel, by decide +kernel⟩
theorem ms_Mo_in : Cond.static yX11_in ∈ GT := gt_in 1142 (by decide +kernel) rfl
set_option maxRecDepth 100000 in
theorem mi_Mo_isDecree : MI yX11_isDecree cX11_isDecree 2 (some .boolean) 1 := ⟨gt_in 1245 (by rfl) rfl, gt_in 78 (by decide +kernel) rfl, by decide +kernel, by decide +kernel⟩
theorem mv_Mo_isDecree : MV yX11_isDecree := ⟨gt_in 1244 (by decide +kernel) rfl, gt_in 37 (by decide +kernel) rfl⟩
set_option maxRecDepth 100000 in
theorem mi_Mo_isLetter : MI yX11_isLetter cX11_isLetter 1 (some .boolean) 1 := ⟨gt_in 1194 (by rfl) rfl, gt_in 78 (by decide +kernel) rfl, by decide +kernel, by decide +kernel⟩
theorem ms_Mo_isLetter : Cond.static yX11_isLetter ∈ GT := gt_in 1193 (by decide +kernel) rfl
set_option maxRecDepth 100000 in
theorem mi_Mo_isNext : MI yX11_isNext cX11_isNext 3 (some .boolean) 2 := ⟨gt_in 1167 (by rfl) rfl, gt_in 78 (by decide +kernel) rfl, by decide +kernel, by decide +kernel⟩
theorem mv_Mo_isNext : MV yX11_isNext := ⟨gt_in 1166 (by decide +kernel) rfl, gt_in 23 (by decide +kernel) rfl⟩
set_option maxRecDepth 100000 in
theorem mi_Mo_isSign : MI yX11_isSign cX11_isSign 2 (some .boolean) 1 := ⟨gt_in 1261 (by rfl) rfl, gt_in 78 (by decide +kernel) rfl, by decide +kernel, by decide +kernel⟩
theorem mv_Mo_isSign : MV yX11_isSign := ⟨gt_in 1260 (by decide +kernel) rfl, gt_in 41 (by decide +kernel) rfl⟩
set_option maxRecDepth 100000 in
theorem mi_Mo_isWord : MI yX11_isWord cX11_isWord 3 (some .boolean) 1 := ⟨gt_in 1190 (by rfl) rfl, gt_in 78 (by decide +kernel) rfl, by decide +kernel, by decide +kernel⟩
theorem ms_Mo_isWord : Cond.static yX11_isWord ∈ GT := gt_in 1189 (by decide +kernel) rfl
set_option maxRecDepth 100000 in
theorem mi_Mo_isWrong : MI yX11_isWrong cX11_isWrong 2 (some .boolean) 1 := ⟨gt_in 1288 (by rfl) rfl, gt_in 78 (by decide +kernel) rfl, by decide +kernel, by decide +kernel⟩
theorem mv_Mo_isWrong : MV yX11_isWrong := ⟨gt_in 1287 (by decide +kernel) rfl, gt_in 47 (by decide +kernel) rfl⟩
set_option maxRecDepth 100000 in
theorem mi_Mo_keepsDecrees : MI yX11_keepsDecrees cX11_keepsDecrees 2 none 0 := ⟨gt_in 1253 (by rfl) rfl, gt_in 78 (by decide +kernel) rfl, by decide +kernel, by decide +kernel⟩
theorem mv_Mo_keepsDecrees : MV yX11_keepsDecrees := ⟨gt_in 1252 (by decide +kernel) rfl, gt_in 39 (by decide +kernel) rfl⟩
set_option maxRecDepth 100000 in
theorem mi_Mo_lesser : MI yX11_lesser cX11_lesser 2 (some .int) 2 := ⟨gt_in 1280 (by rfl) rfl, gt_in 78 (by decide +kernel) rfl, by decide +kernel, by decide +kernel⟩
theorem ms_Mo_lesser : Cond.static yX11_lesser ∈ GT := gt_in 1279 (by decide +kernel) rfl
set_option maxRecDepth 100000 in
theorem mi_Mo_letterAt : MI yX11_letterAt cX11_letterAt 4 (some .int) 2 := ⟨gt_in 1218 (by rfl) rfl, gt_in 78 (by decide +kernel) rfl, by decide +kernel, by decide +kernel⟩
theorem ms_Mo_letterAt : Cond.static yX11_letterAt ∈ GT := gt_in 1217 (by decide +kernel) rfl
set_option maxRecDepth 100000 in
theorem mi_Mo_lettersOf : MI yX11_lettersOf cX11_lettersOf 3 (some .int) 1 := ⟨gt_in 1215 (by rfl) rfl, gt_in 78 (by decide +kernel) rfl, by decide +kernel, by decide +kernel⟩
theorem ms_Mo_lettersOf : Cond.static yX11_lettersOf ∈ GT := gt_in 1214 (by decide +kernel) rfl
set_option maxRecDepth 100000 in
theorem mi_Mo_made : MI yX11_made cX11_made 14 (some .int) 2 := ⟨gt_in 1209 (by rfl) rfl, gt_in 78 (by decide +kernel) rfl, by decide +kernel, by decide +kernel⟩
theorem mv_Mo_made : MV yX11_made := ⟨gt_in 1208 (by decide +kernel) rfl, gt_in 31 (by decide +kernel) rfl⟩
set_option maxRecDepth 100000 in
theorem mi_Mo_of : MI yX11_of cX11_of 2 (some .int) 2 := ⟨gt_in 1201 (by rfl) rfl, gt_in 78 (by decide +kernel) rfl, by decide +kernel, by decide +kernel⟩
theorem ms_Mo_of : Cond.static yX11_of ∈ GT := gt_in 1200 (by decide +kernel) rfl
set_option maxRecDepth 100000 in
theorem mi_Mo_ofDecree : MI yX11_ofDecree cX11_ofDecree 2 (some .int) 2 := ⟨gt_in 1212 (by rfl) rfl, gt_in 78 (by decide +kernel) rfl, by decide +kernel, by decide +kernel⟩
theorem ms_Mo_ofDecree : Cond.static yX11_ofDecree ∈ GT := gt_in 1211 (by decide +kernel) rfl
set_option maxRecDepth 100000 in
theorem mi_Mo_ofGuild : MI yX11_ofGuild cX11_ofGuild 5 (some .int) 2 := ⟨gt_in 1340 (by rfl) rfl, gt_in 78 (by decide +kernel) rfl, by decide +kernel, by decide +kernel⟩
theorem mv_Mo_ofGuild : MV yX11_ofGuild := ⟨gt_in 1339 (by decide +kernel) rfl, gt_in 55 (by decide +kernel) rfl⟩
set_option maxRecDepth 100000 in
theorem mi_Mo_ofSign : MI yX11_ofSign cX11_ofSign 3 (some .int) 2 := ⟨gt_in 1328 (by rfl) rfl, gt_in 78 (by decide +kernel) rfl, by decide +kernel, by decide +kernel⟩
theorem mv_Mo_ofSign : MV yX11_ofSign := ⟨gt_in 1327 (by decide +kernel) rfl, gt_in 54 (by decide +kernel) rfl⟩
set_option maxRecDepth 100000 in
theorem mi_Mo_paidBy : MI yX11_paidBy cX11_paidBy 9 (some .int) 1 := ⟨gt_in 1416 (by rfl) rfl, gt_in 78 (by decide +kernel) rfl, by decide +kernel, by decide +kernel⟩
theorem mv_Mo_paidBy : MV yX11_paidBy := ⟨gt_in 1415 (by decide +kernel) rfl, gt_in 60 (by decide +kernel) rfl⟩
set_option maxRecDepth 100000 in
theorem mi_Mo_paints : MI yX11_paints cX11_paints 3 (some .int) 1 := ⟨gt_in 1265 (by rfl) rfl, gt_in 78 (by decide +kernel) rfl, by decide +kernel, by decide +kernel⟩
theorem mv_Mo_paints : MV yX11_paints := ⟨gt_in 1264 (by decide +kernel) rfl, gt_in 42 (by decide +kernel) rfl⟩
set_option maxRecDepth 100000 in
theorem mi_Mo_putAside : MI yX11_putAside cX11_putAside 2 none 0 := ⟨gt_in 1440 (by rfl) rfl, gt_in 78 (by decide +kernel) rfl, by decide +kernel, by decide +kernel⟩
theorem mv_Mo_putAside : MV yX11_putAside := ⟨gt_in 1439 (by decide +kernel) rfl, gt_in 63 (by decide +kernel) rfl⟩
set_option maxRecDepth 100000 in
theorem mi_Mo_putBack : MI yX11_putBack cX11_putBack 2 none 0 := ⟨gt_in 1448 (by rfl) rfl, gt_in 78 (by decide +kernel) rfl, by decide +kernel, by decide +kernel⟩
theorem mv_Mo_putBack : MV yX11_putBack := ⟨gt_in 1447 (by decide +kernel) rfl, gt_in 65 (by decide +kernel) rfl⟩
set_option maxRecDepth 100000 in
theorem mi_Mo_putsDecree : MI yX11_putsDecree cX11_putsDecree 6 none 4 := ⟨gt_in 1241 (by rfl) rfl, gt_in 78 (by decide +kernel) rfl, by decide +kernel, by decide +kernel⟩
theorem mv_Mo_putsDecree : MV yX11_putsDecree := ⟨gt_in 1240 (by decide +kernel) rfl, gt_in 36 (by decide +kernel) rfl⟩
set_option maxRecDepth 100000 in
theorem mi_Mo_readCommand : MI yX11_readCommand cX11_readCommand 1 none 0 := ⟨gt_in 1171 (by rfl) rfl, gt_in 78 (by decide +kernel) rfl, by decide +kernel, by decide +kernel⟩
theorem mv_Mo_readCommand : MV yX11_readCommand := ⟨gt_in 1170 (by decide +kernel) rfl, gt_in 24 (by decide +kernel) rfl⟩
set_option maxRecDepth 100000 in
theorem mi_Mo_readMonths : MI yX11_readMonths cX11_readMonths 2 (some .int) 0 := ⟨gt_in 1179 (by rfl) rfl, gt_in 78 (by decide +kernel) rfl, by decide +kernel, by decide +kernel⟩
theorem mv_Mo_readMonths : MV yX11_readMonths := ⟨gt_in 1178 (by decide +kernel) rfl, gt_in 26 (by decide +kernel) rfl⟩
set_option maxRecDepth 100000 in
theorem mi_Mo_readWord : MI yX11_readWord cX11_readWord 3 (some .int) 0 := ⟨gt_in 1175 (by rfl) rfl, gt_in 78 (by decide +kernel) rfl, by decide +kernel, by decide +kernel⟩
theorem mv_Mo_readWord : MV yX11_readWord := ⟨gt_in 1174 (by decide +kernel) rfl, gt_in 25 (by decide +kernel) rfl⟩
set_option maxRecDepth 100000 in
theorem mi_Mo_remember : MI yX11_remember cX11_remember 2 none 0 := ⟨gt_in 1360 (by rfl) rfl, gt_in 78 (by decide +kernel) rfl, by decide +kernel, by decide +kernel⟩
theorem mv_Mo_remember : MV yX11_remember := ⟨gt_in 1359 (by decide +kernel) rfl, gt_in 57 (by decide +kernel) rfl⟩
set_option maxRecDepth 100000 in
theorem mi_Mo_restoresDecrees : MI yX11_restoresDecrees cX11_restoresDecrees 2 none 0 := ⟨gt_in 1257 (by rfl) rfl, gt_in 78 (by decide +kernel) rfl, by decide +kernel, by decide +kernel⟩
theorem mv_Mo_restoresDecrees : MV yX11_restoresDecrees := ⟨gt_in 1256 (by decide +kernel) rfl, gt_in 40 (by decide +kernel) rfl⟩
set_option maxRecDepth 100000 in
theorem mi_Mo_revokes : MI yX11_revokes cX11_revokes 3 (some .int) 1 := ⟨gt_in 1249 (by rfl) rfl, gt_in 78 (by decide +kernel) rfl, by decide +kernel, by decide +kernel⟩
theorem mv_Mo_revokes : MV yX11_revokes := ⟨gt_in 1248 (by decide +kernel) rfl, gt_in 38 (by decide +kernel) rfl⟩
set_option maxRecDepth 100000 in
theorem mi_Mo_rightOf : MI yX11_rightOf cX11_rightOf 2 (some .int) 1 := ⟨gt_in 1226 (by rfl) rfl, gt_in 78 (by decide +kernel) rfl, by decide +kernel, by decide +kernel⟩
theorem mv_Mo_rightOf : MV yX11_rightOf := ⟨gt_in 1225 (by decide +kernel) rfl, gt_in 33 (by decide +kernel) rfl⟩
set_option maxRecDepth 100000 in
theorem mi_Mo_runs : MI yX11_runs cX11_runs 9 (some .int) 2 := ⟨gt_in 1436 (by rfl) rfl, gt_in 78 (by decide +kernel) rfl, by decide +kernel, by decide +kernel⟩
theorem mv_Mo_runs : MV yX11_runs := ⟨gt_in 1435 (by decide +kernel) rfl, gt_in 62 (by decide +kernel) rfl⟩
set_option maxRecDepth 100000 in
theorem mi_Mo_simulates : MI yX11_simulates cX11_simulates 8 (some .int) 2 := ⟨gt_in 1456 (by rfl) rfl, gt_in 78 (by decide +kernel) rfl, by decide +kernel, by decide +kernel⟩
theorem mv_Mo_simulates : MV yX11_simulates := ⟨gt_in 1455 (by decide +kernel) rfl, gt_in 66 (by decide +kernel) rfl⟩
set_option maxRecDepth 100000 in
theorem mi_Mo_spares : MI yX11_spares cX11_spares 2 (some .int) 1 := ⟨gt_in 1296 (by rfl) rfl, gt_in 78 (by decide +kernel) rfl, by decide +kernel, by decide +kernel⟩
theorem mv_Mo_spares : MV yX11_spares := ⟨gt_in 1295 (by decide +kernel) rfl, gt_in 49 (by decide +kernel) rfl⟩
set_option maxRecDepth 100000 in
theorem mi_Mo_spelled : MI yX11_spelled cX11_spelled 4 (some .int) 1 := ⟨gt_in 1205 (by rfl) rfl, gt_in 78 (by decide +kernel) rfl, by decide +kernel, by decide +kernel⟩
theorem mv_Mo_spelled : MV yX11_spelled := ⟨gt_in 1204 (by decide +kernel) rfl, gt_in 30 (by decide +kernel) rfl⟩
set_option maxRecDepth 100000 in
theorem mi_Mo_succeeds : MI yX11_succeeds cX11_succeeds 5 (some .boolean) 1 := ⟨gt_in 1444 (by rfl) rfl, gt_in 78 (by decide +kernel) rfl, by decide +kernel, by decide +kernel⟩
theorem mv_Mo_succeeds : MV yX11_succeeds := ⟨gt_in 1443 (by decide +kernel) rfl, gt_in 64 (by decide +kernel) rfl⟩
set_option maxRecDepth 100000 in
theorem mi_Mo_sumOf : MI yX11_sumOf cX11_sumOf 4 (some .int) 1 := ⟨gt_in 1320 (by rfl) rfl, gt_in 78 (by decide +kernel) rfl, by decide +kernel, by decide +kernel⟩
theorem mv_Mo_sumOf : MV yX11_sumOf := ⟨gt_in 1319 (by decide +kernel) rfl, gt_in 53 (by decide +kernel) rfl⟩
set_option maxRecDepth 100000 in
theorem mi_Mo_takes : MI yX11_takes cX11_takes 5 (some .int) 2 := ⟨gt_in 1163 (by rfl) rfl, gt_in 78 (by decide +kernel) rfl, by decide +kernel, by decide +kernel⟩
theorem mv_Mo_takes : MV yX11_takes := ⟨gt_in 1162 (by decide +kernel) rfl, gt_in 22 (by decide +kernel) rfl⟩
set_option maxRecDepth 100000 in
theorem mi_Mo_told : MI yX11_told cX11_told 2 (some .int) 1 := ⟨gt_in 1316 (by rfl) rfl, gt_in 78 (by decide +kernel) rfl, by decide +kernel, by decide +kernel⟩
theorem mv_Mo_told : MV yX11_told := ⟨gt_in 1315 (by decide +kernel) rfl, gt_in 52 (by decide +kernel) rfl⟩
set_option maxRecDepth 100000 in
theorem mi_Mo_turns : MI yX11_turns cX11_turns 3 (some .int) 1 := ⟨gt_in 1462 (by rfl) rfl, gt_in 78 (by decide +kernel) rfl, by decide +kernel, by decide +kernel⟩
theorem mv_Mo_turns : MV yX11_turns := ⟨gt_in 1461 (by decide +kernel) rfl, gt_in 67 (by decide +kernel) rfl⟩
set_option maxRecDepth 100000 in
theorem mi_Mo_wordBy : MI yX11_wordBy cX11_wordBy 5 (some .int) 1 := ⟨gt_in 1465 (by rfl) rfl, gt_in 78 (by decide +kernel) rfl, by decide +kernel, by decide +kernel⟩
theorem ms_Mo_wordBy : Cond.static yX11_wordBy ∈ GT := gt_in 1464 (by decide +kernel) rfl
set_option maxRecDepth 100000 in
theorem mi_Mo_worthBehind : MI yX11_worthBehind cX11_worthBehind 5 (some .int) 1 := ⟨gt_in 1424 (by rfl) rfl, gt_in 78 (by decide +kernel) rfl, by decide +kernel, by decide +kernel⟩
theorem mv_Mo_worthBehind : MV yX11_worthBehind := ⟨gt_in 1423 (by decide +kernel) rfl, gt_in 61 (by decide +kernel) rfl⟩
set_option maxRecDepth 100000 in
theorem mi_Mo_wouldHinder : MI yX11_wouldHinder cX11_wouldHinder 6 (some .int) 4 := ⟨gt_in 1396 (by rfl) rfl, gt_in 78 (by decide +kernel) rfl, by decide +kernel, by decide +kernel⟩
theorem mv_Mo_wouldHinder : MV yX11_wouldHinder := ⟨gt_in 1395 (by decide +kernel) rfl, gt_in 58 (by decide +kernel) rfl⟩
set_option maxRecDepth 100000 in
theorem mi_Mo_wouldHinderMore : MI yX11_wouldHinderMore cX11_wouldHinderMore 7 (some .int) 4 := ⟨gt_in 1400 (by rfl) rfl, gt_in 78 (by decide +kernel) rfl, by decide +kernel, by decide +kernel⟩
theorem mv_Mo_wouldHinderMore : MV yX11_wouldHinderMore := ⟨gt_in 1399 (by decide +kernel) rfl, gt_in 59 (by decide +kernel) rfl⟩
set_option maxRecDepth 100000 in
theorem mi_Mo_wrongs : MI yX11_wrongs cX11_wrongs 3 (some .int) 0 := ⟨gt_in 1300 (by rfl) rfl, gt_in 78 (by decide +kernel) rfl, by decide +kernel, by decide +kernel⟩
theorem mv_Mo_wrongs : MV yX11_wrongs := ⟨gt_in 1299 (by decide +kernel) rfl, gt_in 50 (by decide +kernel) rfl⟩
set_option maxRecDepth 100000 in
theorem mi_Fl_joinedTo : MI yX1_joinedTo cX1_joinedTo 5 (some .int) 2 := ⟨gt_in 829 (by rfl) rfl, gt_in 76 (by decide +kernel) rfl, by decide +kernel, by decide +kernel⟩
theorem ms_Fl_joinedTo : Cond.static yX1_joinedTo ∈ GT := gt_in 828 (by decide +kernel) rfl
set_option maxRecDepth 100000 in
theorem mi_Fl_let : MI yX1_let cX1_let 7 (some .int) 3 := ⟨gt_in 825 (by rfl) rfl, gt_in 76 (by decide +kernel) rfl, by decide +kernel, by decide +kernel⟩
theorem mv_Fl_let : MV yX1_let := ⟨gt_in 824 (by decide +kernel) rfl, gt_in 18 (by decide +kernel) rfl⟩
set_option maxRecDepth 100000 in
theorem mi_Fl_pastDecree : MI yX1_pastDecree cX1_pastDecree 7 (some .int) 3 := ⟨gt_in 821 (by rfl) rfl, gt_in 76 (by decide +kernel) rfl, by decide +kernel, by decide +kernel⟩
theorem mv_Fl_pastDecree : MV yX1_pastDecree := ⟨gt_in 820 (by decide +kernel) rfl, gt_in 17 (by decide +kernel) rfl⟩
set_option maxRecDepth 100000 in
theorem mi_Fl_spellingOf : MI yX1_spellingOf cX1_spellingOf 6 (some .int) 2 := ⟨gt_in 811 (by rfl) rfl, gt_in 76 (by decide +kernel) rfl, by decide +kernel, by decide +kernel⟩
theorem mv_Fl_spellingOf : MV yX1_spellingOf := ⟨gt_in 809 (by decide +kernel) rfl, gt_in 810 (by decide +kernel) rfl⟩
set_option maxRecDepth 100000 in
theorem mi_Fl_through : MI yX1_through cX1_through 6 (some .int) 3 := ⟨gt_in 817 (by rfl) rfl, gt_in 76 (by decide +kernel) rfl, by decide +kernel, by decide +kernel⟩
theorem mv_Fl_through : MV yX1_through := ⟨gt_in 816 (by decide +kernel) rfl, gt_in 16 (by decide +kernel) rfl⟩
set_option maxRecDepth 100000 in
theorem mi_Me_copySlot : MI yX2_copySlot cX2_copySlot 4 none 2 := ⟨gt_in 1066 (by rfl) rfl, gt_in 77 (by decide +kernel) rfl, by decide +kernel, by decide +kernel⟩
theorem mv_Me_copySlot : MV yX2_copySlot := ⟨gt_in 1064 (by decide +kernel) rfl, gt_in 1065 (by decide +kernel) rfl⟩
set_option maxRecDepth 100000 in
theorem mi_Me_emptySlots : MI yX2_emptySlots cX2_emptySlots 1 none 0 := ⟨gt_in 584 (by rfl) rfl, gt_in 77 (by decide +kernel) rfl, by decide +kernel, by decide +kernel⟩
theorem mv_Me_emptySlots : MV yX2_emptySlots := ⟨gt_in 582 (by decide +kernel) rfl, gt_in 583 (by decide +kernel) rfl⟩
set_option maxRecDepth 100000 in
theorem mi_Me_fillSlot : MI yX2_fillSlot cX2_fillSlot 4 none 2 := ⟨gt_in 1050 (by rfl) rfl, gt_in 77 (by decide +kernel) rfl, by decide +kernel, by decide +kernel⟩
theorem mv_Me_fillSlot : MV yX2_fillSlot := ⟨gt_in 1048 (by decide +kernel) rfl, gt_in 1049 (by decide +kernel) rfl⟩
set_option maxRecDepth 100000 in
theorem mi_Me_forgetStates : MI yX2_forgetStates cX2_forgetStates 1 none 0 := ⟨gt_in 580 (by rfl) rfl, gt_in 77 (by decide +kernel) rfl, by decide +kernel, by decide +kernel⟩
theorem mv_Me_forgetStates : MV yX2_forgetStates := ⟨gt_in 578 (by decide +kernel) rfl, gt_in 579 (by decide +kernel) rfl⟩
set_option maxRecDepth 100000 in
theorem mi_Me_isFilled : MI yX2_isFilled cX2_isFilled 2 (some .boolean) 1 := ⟨gt_in 1061 (by rfl) rfl, gt_in 77 (by decide +kernel) rfl, by decide +kernel, by decide +kernel⟩
theorem mv_Me_isFilled : MV yX2_isFilled := ⟨gt_in 1059 (by decide +kernel) rfl, gt_in 1060 (by decide +kernel) rfl⟩
set_option maxRecDepth 100000 in
theorem mi_Me_remember : MI yX2_remember cX2_remember 3 none 1 := ⟨gt_in 860 (by rfl) rfl, gt_in 77 (by decide +kernel) rfl, by decide +kernel, by decide +kernel⟩
theorem mv_Me_remember : MV yX2_remember := ⟨gt_in 858 (by decide +kernel) rfl, gt_in 859 (by decide +kernel) rfl⟩
set_option maxRecDepth 100000 in
theorem mi_Me_takeBack : MI yX2_takeBack cX2_takeBack 3 none 1 := ⟨gt_in 940 (by rfl) rfl, gt_in 77 (by decide +kernel) rfl, by decide +kernel, by decide +kernel⟩
theorem mv_Me_takeBack : MV yX2_takeBack := ⟨gt_in 938 (by decide +kernel) rfl, gt_in 939 (by decide +kernel) rfl⟩
set_option maxRecDepth 100000 in
theorem mi_Tx_firstError : MI yX3_firstError cX3_firstError 2 (some .int) 0 := ⟨gt_in 320 (by rfl) rfl, gt_in 70 (by decide +kernel) rfl, by decide +kernel, by decide +kernel⟩
theorem mv_Tx_firstError : MV yX3_firstError := ⟨gt_in 318 (by decide +kernel) rfl, gt_in 319 (by decide +kernel) rfl⟩
set_option maxRecDepth 100000 in
theorem mi_Tx_hasMore : MI yX3_hasMore cX3_hasMore 1 (some .boolean) 0 := ⟨gt_in 332 (by rfl) rfl, gt_in 70 (by decide +kernel) rfl, by decide +kernel, by decide +kernel⟩
theorem mv_Tx_hasMore : MV yX3_hasMore := ⟨gt_in 330 (by decide +kernel) rfl, gt_in 331 (by decide +kernel) rfl⟩
set_option maxRecDepth 100000 in
theorem mi_Tx_put : MI yX3_put cX3_put 2 none 1 := ⟨gt_in 567 (by rfl) rfl, gt_in 70 (by decide +kernel) rfl, by decide +kernel, by decide +kernel⟩
theorem mv_Tx_put : MV yX3_put := ⟨gt_in 565 (by decide +kernel) rfl, gt_in 566 (by decide +kernel) rfl⟩
set_option maxRecDepth 100000 in
theorem mi_Tx_readCommand : MI yX3_readCommand cX3_readCommand 1 (some .boolean) 0 := ⟨gt_in 336 (by rfl) rfl, gt_in 70 (by decide +kernel) rfl, by decide +kernel, by decide +kernel⟩
theorem mv_Tx_readCommand : MV yX3_readCommand := ⟨gt_in 334 (by decide +kernel) rfl, gt_in 335 (by decide +kernel) rfl⟩
set_option maxRecDepth 100000 in
theorem mi_Tx_readDigit : MI yX3_readDigit cX3_readDigit 4 (some .boolean) 2 := ⟨gt_in 427 (by rfl) rfl, gt_in 70 (by decide +kernel) rfl, by decide +kernel, by decide +kernel⟩
theorem mv_Tx_readDigit : MV yX3_readDigit := ⟨gt_in 426 (by decide +kernel) rfl, gt_in 1 (by decide +kernel) rfl⟩
set_option maxRecDepth 100000 in
theorem mi_Tx_readLetter : MI yX3_readLetter cX3_readLetter 1 (some .boolean) 0 := ⟨gt_in 435 (by rfl) rfl, gt_in 70 (by decide +kernel) rfl, by decide +kernel, by decide +kernel⟩
theorem mv_Tx_readLetter : MV yX3_readLetter := ⟨gt_in 434 (by decide +kernel) rfl, gt_in 3 (by decide +kernel) rfl⟩
set_option maxRecDepth 100000 in
theorem mi_Tx_readMark : MI yX3_readMark cX3_readMark 2 (some .boolean) 1 := ⟨gt_in 328 (by rfl) rfl, gt_in 70 (by decide +kernel) rfl, by decide +kernel, by decide +kernel⟩
theorem mv_Tx_readMark : MV yX3_readMark := ⟨gt_in 327 (by decide +kernel) rfl, gt_in 0 (by decide +kernel) rfl⟩
set_option maxRecDepth 100000 in
theorem mi_Tx_readMonths : MI yX3_readMonths cX3_readMonths 1 (some .boolean) 0 := ⟨gt_in 439 (by rfl) rfl, gt_in 70 (by decide +kernel) rfl, by decide +kernel, by decide +kernel⟩
theorem mv_Tx_readMonths : MV yX3_readMonths := ⟨gt_in 438 (by decide +kernel) rfl, gt_in 4 (by decide +kernel) rfl⟩
set_option maxRecDepth 100000 in
theorem mi_Tx_readWord : MI yX3_readWord cX3_readWord 2 (some .boolean) 0 := ⟨gt_in 431 (by rfl) rfl, gt_in 70 (by decide +kernel) rfl, by decide +kernel, by decide +kernel⟩
theorem mv_Tx_readWord : MV yX3_readWord := ⟨gt_in 430 (by decide +kernel) rfl, gt_in 2 (by decide +kernel) rfl⟩
set_option maxRecDepth 100000 in
theorem mi_Tx_restart : MI yX3_restart cX3_restart 1 (some .boolean) 0 := ⟨gt_in 324 (by rfl) rfl, gt_in 70 (by decide +kernel) rfl, by decide +kernel, by decide +kernel⟩
theorem mv_Tx_restart : MV yX3_restart := ⟨gt_in 322 (by decide +kernel) rfl, gt_in 323 (by decide +kernel) rfl⟩
set_option maxRecDepth 100000 in
theorem mi_Ru_measured : MI yX4_measured cX4_measured 5 (some .int) 2 := ⟨gt_in 659 (by rfl) rfl, gt_in 75 (by decide +kernel) rfl, by decide +kernel, by decide +kernel⟩
theorem mv_Ru_measured : MV yX4_measured := ⟨gt_in 657 (by decide +kernel) rfl, gt_in 658 (by decide +kernel) rfl⟩
set_option maxRecDepth 100000 in
theorem mi_Ru_nextRow : MI yX4_nextRow cX4_nextRow 7 none 2 := ⟨gt_in 663 (by rfl) rfl, gt_in 75 (by decide +kernel) rfl, by decide +kernel, by decide +kernel⟩
theorem mv_Ru_nextRow : MV yX4_nextRow := ⟨gt_in 662 (by decide +kernel) rfl, gt_in 9 (by decide +kernel) rfl⟩
set_option maxRecDepth 100000 in
theorem mi_Sc_isGiven : MI yX5_isGiven cX5_isGiven 5 (some .boolean) 5 := ⟨gt_in 998 (by rfl) rfl, gt_in 93 (by decide +kernel) rfl, by decide +kernel, by decide +kernel⟩
theorem ms_Sc_isGiven : Cond.static yX5_isGiven ∈ GT := gt_in 997 (by decide +kernel) rfl
set_option maxRecDepth 100000 in
theorem mi_Sc_monthsPass : MI yX5_monthsPass cX5_monthsPass 2 (some .boolean) 2 := ⟨gt_in 1005 (by rfl) rfl, gt_in 93 (by decide +kernel) rfl, by decide +kernel, by decide +kernel⟩
theorem ms_Sc_monthsPass : Cond.static yX5_monthsPass ∈ GT := gt_in 1004 (by decide +kernel) rfl
set_option maxRecDepth 100000 in
theorem mi_Sc_succeeds : MI yX5_succeeds cX5_succeeds 6 (some .boolean) 2 := ⟨gt_in 995 (by rfl) rfl, gt_in 93 (by decide +kernel) rfl, by decide +kernel, by decide +kernel⟩
theorem ms_Sc_succeeds : Cond.static yX5_succeeds ∈ GT := gt_in 994 (by decide +kernel) rfl
set_option maxRecDepth 100000 in
theorem mi_Si_takeTurn : MI yX6_takeTurn cX6_takeTurn 3 none 2 := ⟨gt_in 1024 (by rfl) rfl, gt_in 94 (by decide +kernel) rfl, by decide +kernel, by decide +kernel⟩
theorem ms_Si_takeTurn : Cond.static yX6_takeTurn ∈ GT := gt_in 1023 (by decide +kernel) rfl
set_option maxRecDepth 100000 in
theorem mi_Si_wordFrom : MI yX6_wordFrom cX6_wordFrom 5 (some .int) 1 := ⟨gt_in 1027 (by rfl) rfl, gt_in 94 (by decide +kernel) rfl, by decide +kernel, by decide +kernel⟩
theorem ms_Si_wordFrom : Cond.static yX6_wordFrom ∈ GT := gt_in 1026 (by decide +kernel) rfl
set_option maxRecDepth 100000 in
theorem mi_St_clear : MI yX7_clear cX7_clear 1 none 0 := ⟨gt_in 164 (by rfl) rfl, gt_in 72 (by decide +kernel) rfl, by decide +kernel, by decide +kernel⟩
theorem mv_St_clear : MV yX7_clear := ⟨gt_in 162 (by decide +kernel) rfl, gt_in 163 (by decide +kernel) rfl⟩
set_option maxRecDepth 100000 in
theorem mi_St_copyFrom : MI yX7_copyFrom cX7_copyFrom 2 none 1 := ⟨gt_in 864 (by rfl) rfl, gt_in 72 (by decide +kernel) rfl, by decide +kernel, by decide +kernel⟩
theorem mv_St_copyFrom : MV yX7_copyFrom := ⟨gt_in 862 (by decide +kernel) rfl, gt_in 863 (by decide +kernel) rfl⟩
set_option maxRecDepth 100000 in
theorem mi_Tw_allFines : MI yX8_allFines cX8_allFines 1 (some .int) 0 := ⟨gt_in 675 (by rfl) rfl, gt_in 71 (by decide +kernel) rfl, by decide +kernel, by decide +kernel⟩
theorem mv_Tw_allFines : MV yX8_allFines := ⟨gt_in 673 (by decide +kernel) rfl, gt_in 674 (by decide +kernel) rfl⟩
set_option maxRecDepth 100000 in
theorem mi_Tw_bringSign : MI yX8_bringSign cX8_bringSign 6 (some .int) 2 := ⟨gt_in 598 (by rfl) rfl, gt_in 71 (by decide +kernel) rfl, by decide +kernel, by decide +kernel⟩
theorem mv_Tw_bringSign : MV yX8_bringSign := ⟨gt_in 596 (by decide +kernel) rfl, gt_in 597 (by decide +kernel) rfl⟩
set_option maxRecDepth 100000 in
theorem mi_Tw_canForgive : MI yX8_canForgive cX8_canForgive 1 (some .boolean) 0 := ⟨gt_in 694 (by rfl) rfl, gt_in 71 (by decide +kernel) rfl, by decide +kernel, by decide +kernel⟩
theorem mv_Tw_canForgive : MV yX8_canForgive := ⟨gt_in 692 (by decide +kernel) rfl, gt_in 693 (by decide +kernel) rfl⟩
set_option maxRecDepth 100000 in
theorem mi_Tw_costOf : MI yX8_costOf cX8_costOf 2 (some .int) 1 := ⟨gt_in 651 (by rfl) rfl, gt_in 71 (by decide +kernel) rfl, by decide +kernel, by decide +kernel⟩
theorem mv_Tw_costOf : MV yX8_costOf := ⟨gt_in 649 (by decide +kernel) rfl, gt_in 650 (by decide +kernel) rfl⟩
set_option maxRecDepth 100000 in
theorem mi_Tw_costOfAll : MI yX8_costOfAll cX8_costOfAll 3 (some .int) 0 := ⟨gt_in 723 (by rfl) rfl, gt_in 71 (by decide +kernel) rfl, by decide +kernel, by decide +kernel⟩
theorem mv_Tw_costOfAll : MV yX8_costOfAll := ⟨gt_in 722 (by decide +kernel) rfl, gt_in 12 (by decide +kernel) rfl⟩
set_option maxRecDepth 100000 in
theorem mi_Tw_counted : MI yX8_counted cX8_counted 2 (some .int) 1 := ⟨gt_in 873 (by rfl) rfl, gt_in 71 (by decide +kernel) rfl, by decide +kernel, by decide +kernel⟩
theorem mv_Tw_counted : MV yX8_counted := ⟨gt_in 871 (by decide +kernel) rfl, gt_in 872 (by decide +kernel) rfl⟩
set_option maxRecDepth 100000 in
theorem mi_Tw_fineWrongSigns : MI yX8_fineWrongSigns cX8_fineWrongSigns 3 none 0 := ⟨gt_in 682 (by rfl) rfl, gt_in 71 (by decide +kernel) rfl, by decide +kernel, by decide +kernel⟩
theorem mv_Tw_fineWrongSigns : MV yX8_fineWrongSigns := ⟨gt_in 681 (by decide +kernel) rfl, gt_in 10 (by decide +kernel) rfl⟩
set_option maxRecDepth 100000 in
theorem mi_Tw_forgive : MI yX8_forgive cX8_forgive 2 (some .int) 1 := ⟨gt_in 690 (by rfl) rfl, gt_in 71 (by decide +kernel) rfl, by decide +kernel, by decide +kernel⟩
theorem mv_Tw_forgive : MV yX8_forgive := ⟨gt_in 688 (by decide +kernel) rfl, gt_in 689 (by decide +kernel) rfl⟩
set_option maxRecDepth 100000 in
theorem mi_Tw_giveDecree : MI yX8_giveDecree cX8_giveDecree 6 (some .int) 4 := ⟨gt_in 615 (by rfl) rfl, gt_in 71 (by decide +kernel) rfl, by decide +kernel, by decide +kernel⟩
theorem mv_Tw_giveDecree : MV yX8_giveDecree := ⟨gt_in 613 (by decide +kernel) rfl, gt_in 614 (by decide +kernel) rfl⟩
set_option maxRecDepth 100000 in
theorem mi_Tw_hasSign : MI yX8_hasSign cX8_hasSign 2 (some .boolean) 1 := ⟨gt_in 452 (by rfl) rfl, gt_in 71 (by decide +kernel) rfl, by decide +kernel, by decide +kernel⟩
theorem mv_Tw_hasSign : MV yX8_hasSign := ⟨gt_in 450 (by decide +kernel) rfl, gt_in 451 (by decide +kernel) rfl⟩
set_option maxRecDepth 100000 in
theorem mi_Tw_isWrong : MI yX8_isWrong cX8_isWrong 2 (some .boolean) 1 := ⟨gt_in 686 (by rfl) rfl, gt_in 71 (by decide +kernel) rfl, by decide +kernel, by decide +kernel⟩
theorem mv_Tw_isWrong : MV yX8_isWrong := ⟨gt_in 684 (by decide +kernel) rfl, gt_in 685 (by decide +kernel) rfl⟩
set_option maxRecDepth 100000 in
theorem mi_Tw_lettersOf : MI yX8_lettersOf cX8_lettersOf 4 (some .int) 1 := ⟨gt_in 714 (by rfl) rfl, gt_in 71 (by decide +kernel) rfl, by decide +kernel, by decide +kernel⟩
theorem mv_Tw_lettersOf : MV yX8_lettersOf := ⟨gt_in 713 (by decide +kernel) rfl, gt_in 11 (by decide +kernel) rfl⟩
set_option maxRecDepth 100000 in
theorem mi_Tw_lettersOfRights : MI yX8_lettersOfRights cX8_lettersOfRights 1 (some .int) 0 := ⟨gt_in 719 (by rfl) rfl, gt_in 71 (by decide +kernel) rfl, by decide +kernel, by decide +kernel⟩
theorem mv_Tw_lettersOfRights : MV yX8_lettersOfRights := ⟨gt_in 717 (by decide +kernel) rfl, gt_in 718 (by decide +kernel) rfl⟩
set_option maxRecDepth 100000 in
theorem mi_Tw_lettersWrong : MI yX8_lettersWrong cX8_lettersWrong 2 (some .int) 1 := ⟨gt_in 655 (by rfl) rfl, gt_in 71 (by decide +kernel) rfl, by decide +kernel, by decide +kernel⟩
theorem mv_Tw_lettersWrong : MV yX8_lettersWrong := ⟨gt_in 653 (by decide +kernel) rfl, gt_in 654 (by decide +kernel) rfl⟩
set_option maxRecDepth 100000 in
theorem mi_Tw_monthsTillFinesAreMore : MI yX8_monthsTillFinesAreMore cX8_monthsTillFinesAreMore 5 (some .int) 1 := ⟨gt_in 981 (by rfl) rfl, gt_in 71 (by decide +kernel) rfl, by decide +kernel, by decide +kernel⟩
theorem mv_Tw_monthsTillFinesAreMore : MV yX8_monthsTillFinesAreMore := ⟨gt_in 979 (by decide +kernel) rfl, gt_in 980 (by decide +kernel) rfl⟩
set_option maxRecDepth 100000 in
theorem mi_Tw_numberOfGuild : MI yX8_numberOfGuild cX8_numberOfGuild 3 (some .int) 2 := ⟨gt_in 791 (by rfl) rfl, gt_in 71 (by decide +kernel) rfl, by decide +kernel, by decide +kernel⟩
theorem mv_Tw_numberOfGuild : MV yX8_numberOfGuild := ⟨gt_in 789 (by decide +kernel) rfl, gt_in 790 (by decide +kernel) rfl⟩
set_option maxRecDepth 100000 in
theorem mi_Tw_numberOfSign : MI yX8_numberOfSign cX8_numberOfSign 3 (some .int) 2 := ⟨gt_in 757 (by rfl) rfl, gt_in 71 (by decide +kernel) rfl, by decide +kernel, by decide +kernel⟩
theorem mv_Tw_numberOfSign : MV yX8_numberOfSign := ⟨gt_in 755 (by decide +kernel) rfl, gt_in 756 (by decide +kernel) rfl⟩
set_option maxRecDepth 100000 in
theorem mi_Tw_numberOfTown : MI yX8_numberOfTown cX8_numberOfTown 2 (some .int) 1 := ⟨gt_in 710 (by rfl) rfl, gt_in 71 (by decide +kernel) rfl, by decide +kernel, by decide +kernel⟩
theorem mv_Tw_numberOfTown : MV yX8_numberOfTown := ⟨gt_in 708 (by decide +kernel) rfl, gt_in 709 (by decide +kernel) rfl⟩
set_option maxRecDepth 100000 in
theorem mi_Tw_passMonths : MI yX8_passMonths cX8_passMonths 4 (some .int) 1 := ⟨gt_in 671 (by rfl) rfl, gt_in 71 (by decide +kernel) rfl, by decide +kernel, by decide +kernel⟩
theorem mv_Tw_passMonths : MV yX8_passMonths := ⟨gt_in 669 (by decide +kernel) rfl, gt_in 670 (by decide +kernel) rfl⟩
set_option maxRecDepth 100000 in
theorem mi_Tw_reasonAgainstDecree : MI yX8_reasonAgainstDecree cX8_reasonAgainstDecree 6 (some .int) 4 := ⟨gt_in 448 (by rfl) rfl, gt_in 71 (by decide +kernel) rfl, by decide +kernel, by decide +kernel⟩
theorem mv_Tw_reasonAgainstDecree : MV yX8_reasonAgainstDecree := ⟨gt_in 446 (by decide +kernel) rfl, gt_in 447 (by decide +kernel) rfl⟩
set_option maxRecDepth 100000 in
theorem mi_Tw_reasonAgainstPlan : MI yX8_reasonAgainstPlan cX8_reasonAgainstPlan 3 (some .int) 0 := ⟨gt_in 471 (by rfl) rfl, gt_in 71 (by decide +kernel) rfl, by decide +kernel, by decide +kernel⟩
theorem mv_Tw_reasonAgainstPlan : MV yX8_reasonAgainstPlan := ⟨gt_in 470 (by decide +kernel) rfl, gt_in 5 (by decide +kernel) rfl⟩
set_option maxRecDepth 100000 in
theorem mi_Tw_reasonAgainstSign : MI yX8_reasonAgainstSign cX8_reasonAgainstSign 4 (some .int) 2 := ⟨gt_in 611 (by rfl) rfl, gt_in 71 (by decide +kernel) rfl, by decide +kernel, by decide +kernel⟩
theorem mv_Tw_reasonAgainstSign : MV yX8_reasonAgainstSign := ⟨gt_in 610 (by decide +kernel) rfl, gt_in 8 (by decide +kernel) rfl⟩
set_option maxRecDepth 100000 in
theorem mi_Tw_repaint : MI yX8_repaint cX8_repaint 3 (some .int) 1 := ⟨gt_in 647 (by rfl) rfl, gt_in 71 (by decide +kernel) rfl, by decide +kernel, by decide +kernel⟩
theorem mv_Tw_repaint : MV yX8_repaint := ⟨gt_in 645 (by decide +kernel) rfl, gt_in 646 (by decide +kernel) rfl⟩
set_option maxRecDepth 100000 in
theorem mi_Tw_signsOfGuild : MI yX8_signsOfGuild cX8_signsOfGuild 5 (some .int) 2 := ⟨gt_in 795 (by rfl) rfl, gt_in 71 (by decide +kernel) rfl, by decide +kernel, by decide +kernel⟩
theorem mv_Tw_signsOfGuild : MV yX8_signsOfGuild := ⟨gt_in 794 (by decide +kernel) rfl, gt_in 15 (by decide +kernel) rfl⟩
set_option maxRecDepth 100000 in
theorem mi_Tw_signsPaidBy : MI yX8_signsPaidBy cX8_signsPaidBy 7 (some .int) 1 := ⟨gt_in 970 (by rfl) rfl, gt_in 71 (by decide +kernel) rfl, by decide +kernel, by decide +kernel⟩
theorem mv_Tw_signsPaidBy : MV yX8_signsPaidBy := ⟨gt_in 968 (by decide +kernel) rfl, gt_in 969 (by decide +kernel) rfl⟩
set_option maxRecDepth 100000 in
theorem mi_Tw_spelled : MI yX8_spelled cX8_spelled 4 (some .int) 2 := ⟨gt_in 807 (by rfl) rfl, gt_in 71 (by decide +kernel) rfl, by decide +kernel, by decide +kernel⟩
theorem mv_Tw_spelled : MV yX8_spelled := ⟨gt_in 805 (by decide +kernel) rfl, gt_in 806 (by decide +kernel) rfl⟩
set_option maxRecDepth 100000 in
theorem mi_Tw_spellingsApart : MI yX8_spellingsApart cX8_spellingsApart 3 (some .int) 2 := ⟨gt_in 958 (by rfl) rfl, gt_in 71 (by decide +kernel) rfl, by decide +kernel, by decide +kernel⟩
theorem mv_Tw_spellingsApart : MV yX8_spellingsApart := ⟨gt_in 956 (by decide +kernel) rfl, gt_in 957 (by decide +kernel) rfl⟩
set_option maxRecDepth 100000 in
theorem mi_Tw_sum : MI yX8_sum cX8_sum 6 (some .int) 1 := ⟨gt_in 678 (by rfl) rfl, gt_in 71 (by decide +kernel) rfl, by decide +kernel, by decide +kernel⟩
theorem ms_Tw_sum : Cond.static yX8_sum ∈ GT := gt_in 677 (by decide +kernel) rfl
set_option maxRecDepth 100000 in
theorem mi_Tw_takeDecree : MI yX8_takeDecree cX8_takeDecree 3 (some .int) 1 := ⟨gt_in 632 (by rfl) rfl, gt_in 71 (by decide +kernel) rfl, by decide +kernel, by decide +kernel⟩
theorem mv_Tw_takeDecree : MV yX8_takeDecree := ⟨gt_in 630 (by decide +kernel) rfl, gt_in 631 (by decide +kernel) rfl⟩
set_option maxRecDepth 100000 in
theorem mi_Tw_wrongSigns : MI yX8_wrongSigns cX8_wrongSigns 3 (some .int) 0 := ⟨gt_in 698 (by rfl) rfl, gt_in 71 (by decide +kernel) rfl, by decide +kernel, by decide +kernel⟩
theorem mv_Tw_wrongSigns : MV yX8_wrongSigns := ⟨gt_in 696 (by decide +kernel) rfl, gt_in 697 (by decide +kernel) rfl⟩
set_option maxRecDepth 100000 in
theorem mi_Wo_decreed : MI yX9_decreed cX9_decreed 6 (some .int) 5 := ⟨gt_in 455 (by rfl) rfl, gt_in 90 (by decide +kernel) rfl, by decide +kernel, by decide +kernel⟩
theorem ms_Wo_decreed : Cond.static yX9_decreed ∈ GT := gt_in 454 (by decide +kernel) rfl
set_option maxRecDepth 100000 in
theorem mi_Wo_dropped : MI yX9_dropped cX9_dropped 6 (some .int) 2 := ⟨gt_in 461 (by rfl) rfl, gt_in 90 (by decide +kernel) rfl, by decide +kernel, by decide +kernel⟩
theorem ms_Wo_dropped : Cond.static yX9_dropped ∈ GT := gt_in 460 (by decide +kernel) rfl
set_option maxRecDepth 100000 in
theorem mi_Wo_isLetter : MI yX9_isLetter cX9_isLetter 1 (some .boolean) 1 := ⟨gt_in 854 (by rfl) rfl, gt_in 90 (by decide +kernel) rfl, by decide +kernel, by decide +kernel⟩
theorem ms_Wo_isLetter : Cond.static yX9_isLetter ∈ GT := gt_in 853 (by decide +kernel) rfl
set_option maxRecDepth 100000 in
theorem mi_Wo_isWord : MI yX9_isWord cX9_isWord 3 (some .boolean) 1 := ⟨gt_in 850 (by rfl) rfl, gt_in 90 (by decide +kernel) rfl, by decide +kernel, by decide +kernel⟩
theorem ms_Wo_isWord : Cond.static yX9_isWord ∈ GT := gt_in 849 (by decide +kernel) rfl
set_option maxRecDepth 100000 in
theorem mi_Wo_joined : MI yX9_joined cX9_joined 8 (some .int) 4 := ⟨gt_in 464 (by rfl) rfl, gt_in 90 (by decide +kernel) rfl, by decide +kernel, by decide +kernel⟩
theorem ms_Wo_joined : Cond.static yX9_joined ∈ GT := gt_in 463 (by decide +kernel) rfl
set_option maxRecDepth 100000 in
theorem mi_Wo_letters : MI yX9_letters cX9_letters 4 (some .int) 1 := ⟨gt_in 667 (by rfl) rfl, gt_in 90 (by decide +kernel) rfl, by decide +kernel, by decide +kernel⟩
theorem ms_Wo_letters : Cond.static yX9_letters ∈ GT := gt_in 666 (by decide +kernel) rfl
set_option maxRecDepth 100000 in
theorem mi_Wo_mirrored : MI yX9_mirrored cX9_mirrored 4 (some .int) 1 := ⟨gt_in 458 (by rfl) rfl, gt_in 90 (by decide +kernel) rfl, by decide +kernel, by decide +kernel⟩
theorem ms_Wo_mirrored : Cond.static yX9_mirrored ∈ GT := gt_in 457 (by decide +kernel) rfl
set_option maxRecDepth 100000 in
theorem mi_Wo_single : MI yX9_single cX9_single 7 (some .int) 2 := ⟨gt_in 467 (by rfl) rfl, gt_in 90 (by decide +kernel) rfl, by decide +kernel, by decide +kernel⟩
theorem ms_Wo_single : Cond.static yX9_single ∈ GT := gt_in 466 (by decide +kernel) rfl
theorem ts_RX10_33_37 : tsW RX10 33 37 "java/lang/IllegalArgumentException" ["java/lang/RuntimeException", "java/lang/Exception"] = true := by decide +kernel
theorem ts_RX10_44_48 : tsW RX10 44 48 "java/lang/IllegalStateException" ["java/lang/RuntimeException", "java/lang/Exception"] = true := by decide +kernel
theorem ts_RX10_281_285 : tsW RX10 281 285 "java/lang/IndexOutOfBoundsException" ["java/lang/RuntimeException", "java/lang/Exception"] = true := by decide +kernel
theorem sr_RX10_35 : Cond.stringRef RX10 35 "no character code" ∈ lw_tbl := List.mem_of_getElem? (i := 522) (by decide +kernel)
theorem sr_RX10_46 : Cond.stringRef RX10 46 "the text is full" ∈ lw_tbl := List.mem_of_getElem? (i := 557) (by decide +kernel)
theorem sr_RX10_57 : Cond.stringRef RX10 57 "the text is not a reform" ∈ lw_tbl := List.mem_of_getElem? (i := 575) (by decide +kernel)
theorem sr_RX10_117 : Cond.stringRef RX10 117 "no such number of the reform" ∈ lw_tbl := List.mem_of_getElem? (i := 706) (by decide +kernel)
theorem sr_RX10_125 : Cond.stringRef RX10 125 "no such number of a sign" ∈ lw_tbl := List.mem_of_getElem? (i := 753) (by decide +kernel)
theorem sr_RX10_133 : Cond.stringRef RX10 133 "no such number of a decree" ∈ lw_tbl := List.mem_of_getElem? (i := 771) (by decide +kernel)
theorem sr_RX10_146 : Cond.stringRef RX10 146 "no such number of a guild" ∈ lw_tbl := List.mem_of_getElem? (i := 787) (by decide +kernel)
theorem sr_RX10_151 : Cond.stringRef RX10 151 "no such way" ∈ lw_tbl := List.mem_of_getElem? (i := 803) (by decide +kernel)
theorem sr_RX10_170 : Cond.stringRef RX10 170 "no word" ∈ lw_tbl := List.mem_of_getElem? (i := 855) (by decide +kernel)
theorem sr_RX10_175 : Cond.stringRef RX10 175 "there are 8 signs" ∈ lw_tbl := List.mem_of_getElem? (i := 856) (by decide +kernel)
theorem sr_RX10_191 : Cond.stringRef RX10 191 "10 decrees are in force" ∈ lw_tbl := List.mem_of_getElem? (i := 889) (by decide +kernel)
theorem sr_RX10_193 : Cond.stringRef RX10 193 "no such number of months" ∈ lw_tbl := List.mem_of_getElem? (i := 911) (by decide +kernel)
theorem sr_RX10_198 : Cond.stringRef RX10 198 "no amnesty can be given yet" ∈ lw_tbl := List.mem_of_getElem? (i := 920) (by decide +kernel)
theorem sr_RX10_200 : Cond.stringRef RX10 200 "no value of a setting" ∈ lw_tbl := List.mem_of_getElem? (i := 928) (by decide +kernel)
theorem sr_RX10_205 : Cond.stringRef RX10 205 "no state is remembered" ∈ lw_tbl := List.mem_of_getElem? (i := 936) (by decide +kernel)
theorem sr_RX10_216 : Cond.stringRef RX10 216 "no such purse" ∈ lw_tbl := List.mem_of_getElem? (i := 966) (by decide +kernel)
theorem sr_RX10_224 : Cond.stringRef RX10 224 "no such number of commands" ∈ lw_tbl := List.mem_of_getElem? (i := 989) (by decide +kernel)
theorem sr_RX10_228 : Cond.stringRef RX10 228 "no script of so many commands" ∈ lw_tbl := List.mem_of_getElem? (i := 991) (by decide +kernel)
theorem sr_RX10_239 : Cond.stringRef RX10 239 "no such number of turns" ∈ lw_tbl := List.mem_of_getElem? (i := 1018) (by decide +kernel)
theorem sr_RX10_273 : Cond.stringRef RX10 273 "nothing has been saved in the slot" ∈ lw_tbl := List.mem_of_getElem? (i := 1062) (by decide +kernel)
theorem sr_RX10_283 : Cond.stringRef RX10 283 "no such sign" ∈ lw_tbl := List.mem_of_getElem? (i := 746) (by decide +kernel)
theorem sr_RX10_289 : Cond.stringRef RX10 289 "no such decree" ∈ lw_tbl := List.mem_of_getElem? (i := 770) (by decide +kernel)
theorem sr_RX10_291 : Cond.stringRef RX10 291 "no such guild" ∈ lw_tbl := List.mem_of_getElem? (i := 786) (by decide +kernel)
theorem sr_RX10_293 : Cond.stringRef RX10 293 "no such save slot" ∈ lw_tbl := List.mem_of_getElem? (i := 1046) (by decide +kernel)
theorem sr_RX10_295 : Cond.stringRef RX10 295 "no such setting" ∈ lw_tbl := List.mem_of_getElem? (i := 840) (by decide +kernel)
theorem mathmin : Cond.static Lib.Math.min.name ∈ GT ∧ Cond.initialized "java/lang/Math" ∈ GT ∧ Cond.code Lib.Math.min.name Lib.Math.min.code 2 (some .int) ∈ GT := ⟨gt_in 370 (by decide +kernel) rfl, gt_in 86 (by decide +kernel) rfl, gt_in 371 (by decide +kernel) rfl⟩
theorem syscopy : Cond.native arraycopyName ∈ GT ∧ Cond.static arraycopyName ∈ GT ∧ Cond.initialized "java/lang/System" ∈ GT := ⟨gt_in 628 (by decide +kernel) rfl, gt_in 627 (by decide +kernel) rfl, gt_in 91 (by decide +kernel) rfl⟩
end
section
/-! laid by wip/whole/lay.py: Ar_fillI, Ar_fillZ -/
def I_Ar_fillI : List (Nat × Instr × Nat) := [(0, .iconst 0, 1), (1, .istore_n 2, 1), (2, .aload_n 0, 1), (3, .arraylength, 1), (4, .istore_n 3, 1), (5, .iload_n 2, 1), (6, .iload_n 3, 1), (7, .if_icmp .ge 13, 3), (10, .aload_n 0, 1), (11, .iload_n 2, 1), (12, .iload_n 1, 1), (13, .iastore, 1), (14, .iinc 2 1, 3), (17, .goto (-12), 3), (20, .return_, 1)]
set_option maxRecDepth 100000 in
theorem d_Ar_fillI : decA cJ7_fill_53178 I_Ar_fillI = true := by decide +kernel
abbrev rm_Ar_fillI : Room := ({ frames := 0, cells := 0, slots := 0, locals := 0 } : Room)
def m_Ar_fillI_l5 (p0 : Nat) (p0n : Nat) (p1 : Int32) : (Int32 × KMem) → Option ((Int32 × KMem) ⊕ KMem) := fun (v2_1, M2) =>
 if (Int32.ofNat p0n) ≤ v2_1 then
 (some (.inr M2))
 else
 (Option.bind (wrI M2 p0 p0n v2_1 p1) fun M5 =>
 some (.inl (v2_1 + 1, M5)))
def m_Ar_fillI (p0 : Nat) (p0n : Nat) (p1 : Int32) (M : KMem) : Option KMem :=
 Option.bind (α := KMem) (kLp (m_Ar_fillI_l5 p0 p0n p1) kFU (0, M)) fun M6 =>
 some M6
set_option maxHeartbeats 4000000 in
set_option maxRecDepth 100000 in
theorem b_Ar_fillI {X : KX} {B : KB} {L : KLay} {M : KMem} {p0 : Nat} {p0n : Nat} {p1 : Int32} (G : Good X B RJ7 cJ7_fill_53178 4 rm_Ar_fillI) (hp0 : arL L p0 9 p0n) (h : kOk (m_Ar_fillI p0 p0n p1 M) (fun r => RV X B L 4 cJ7_fill_53178 rm_Ar_fillI r)) : KK X B L 4 0 0 M 0 [(0, .ref (B.1 + p0)), (1, .int p1)] [] := by
  unfold m_Ar_fillI at h
  refine k_iconst G (dc d_Ar_fillI 0 rfl) cI_0 ?_
  refine k_istore_n G (dc d_Ar_fillI 1 rfl) (ls' := [(2, .int 0), (0, .ref (B.1 + p0)), (1, .int p1)]) rfl rfl rfl ?_
  refine k_aload_n G (dc d_Ar_fillI 2 rfl) 1 rfl rfl ?_
  refine k_len G (dc d_Ar_fillI 3 rfl) hp0.1 hp0.2.1 (v := Int32.ofNat p0n) (by rw [hp0.2.2]) ?_
  refine k_istore_n G (dc d_Ar_fillI 4 rfl) (ls' := [(3, .int (Int32.ofNat p0n)), (2, .int 0), (0, .ref (B.1 + p0)), (1, .int p1)]) rfl rfl rfl ?_
  refine kJ h (fun r7 => KK X B L 4 0 0 r7 20 [] []) (fun r7 h => ?_) (fun h => ?_)
  · obtain ⟨M6, rfl⟩ : ∃ z, z = r7 := ⟨_, rfl⟩
    show KK X B L 4 0 0 M6 20 [] []
    exact (kOk_s h) _ _ _ _ rfl rfl (dc d_Ar_fillI 14 rfl)
  · refine k_sub [2, 3, 1, 0] rfl ?_
    refine kLp_ok (P := fun s8 => KK X B L 4 0 0 s8.2 5 [(0, .ref (B.1 + p0)), (1, .int p1), (2, .int s8.1), (3, .int (Int32.ofNat p0n))] []) (fun s8 h => ?_) kFU _ h
    obtain ⟨v2_1, M2⟩ := s8
    unfold m_Ar_fillI_l5 at h
    show KK X B L 4 0 0 M2 5 [(0, .ref (B.1 + p0)), (1, .int p1), (2, .int v2_1), (3, .int (Int32.ofNat p0n))] []
    refine k_iload_n G (dc d_Ar_fillI 5 rfl) 2 rfl rfl ?_
    refine k_iload_n G (dc d_Ar_fillI 6 rfl) 3 rfl rfl ?_
    refine k_icmp_ge G (dc d_Ar_fillI 7 rfl) (tgt := 20) rfl (fun c3 => ?_) (fun c3 => ?_)
    · replace h := kOk_p c3 h
      refine k_sub [] rfl ?_
      have h9 := kOk_s h
      exact h9
    · replace h := kOk_n c3 h
      refine k_aload_n G (dc d_Ar_fillI 8 rfl) 0 rfl rfl ?_
      refine k_iload_n G (dc d_Ar_fillI 9 rfl) 2 rfl rfl ?_
      refine k_iload_n G (dc d_Ar_fillI 10 rfl) 1 rfl rfl ?_
      obtain ⟨M5, e4, h⟩ := kOk_b h
      refine k_ist G (dc d_Ar_fillI 11 rfl) hp0.1 hp0.2.1 hp0.2.2 e4 ?_
      refine k_iinc G (dc d_Ar_fillI 12 rfl) (ls' := [(2, .int (v2_1 + 1)), (0, .ref (B.1 + p0)), (1, .int p1), (3, .int (Int32.ofNat p0n))]) 2 rfl cI_1 rfl rfl ?_
      refine k_goto G (dc d_Ar_fillI 13 rfl) (tgt := 5) rfl ?_
      refine k_sub [1, 2, 0, 3] rfl ?_
      have h9 := kOk_s h
      exact h9
theorem c_Ar_fillI {l : Launch} {B : KB} {L : KLay} {M : KMem} {p0 : Nat} {p0n : Nat} {p1 : Int32} (hst : l.stackTraces = false) (hp0 : arL L p0 9 p0n) {M' : KMem} (e : m_Ar_fillI p0 p0n p1 M = some M') : CtrN l B yJ7_fill_53178 cJ7_fill_53178 4 none rm_Ar_fillI [.ref (B.1 + p0), .int p1] L M none L M' :=
  mk_V rfl hst rfl (fun X hl G _ R => b_Ar_fillI G hp0 ⟨_, e, R⟩)
def I_Ar_fillZ : List (Nat × Instr × Nat) := [(0, .iconst 0, 1), (1, .istore_n 2, 1), (2, .aload_n 0, 1), (3, .arraylength, 1), (4, .istore_n 3, 1), (5, .iload_n 2, 1), (6, .iload_n 3, 1), (7, .if_icmp .ge 13, 3), (10, .aload_n 0, 1), (11, .iload_n 2, 1), (12, .iload_n 1, 1), (13, .bastore, 1), (14, .iinc 2 1, 3), (17, .goto (-12), 3), (20, .return_, 1)]
set_option maxRecDepth 100000 in
theorem d_Ar_fillZ : decA cJ7_fill_49daa I_Ar_fillZ = true := by decide +kernel
abbrev rm_Ar_fillZ : Room := ({ frames := 0, cells := 0, slots := 0, locals := 0 } : Room)
def m_Ar_fillZ_l5 (p0 : Nat) (p0n : Nat) (p1 : Int32) : (Int32 × KMem) → Option ((Int32 × KMem) ⊕ KMem) := fun (v2_1, M2) =>
 if (Int32.ofNat p0n) ≤ v2_1 then
 (some (.inr M2))
 else
 (Option.bind (wrZ M2 p0 p0n v2_1 p1) fun M5 =>
 some (.inl (v2_1 + 1, M5)))
def m_Ar_fillZ (p0 : Nat) (p0n : Nat) (p1 : Int32) (M : KMem) : Option KMem :=
 Option.bind (α := KMem) (kLp (m_Ar_fillZ_l5 p0 p0n p1) kFU (0, M)) fun M6 =>
 some M6
set_option maxHeartbeats 4000000 in
set_option maxRecDepth 100000 in
theorem b_Ar_fillZ {X : KX} {B : KB} {L : KLay} {M : KMem} {p0 : Nat} {p0n : Nat} {p1 : Int32} (G : Good X B RJ7 cJ7_fill_49daa 4 rm_Ar_fillZ) (hp0 : arL L p0 10 p0n) (h : kOk (m_Ar_fillZ p0 p0n p1 M) (fun r => RV X B L 4 cJ7_fill_49daa rm_Ar_fillZ r)) : KK X B L 4 0 0 M 0 [(0, .ref (B.1 + p0)), (1, .int p1)] [] := by
  unfold m_Ar_fillZ at h
  refine k_iconst G (dc d_Ar_fillZ 0 rfl) cI_0 ?_
  refine k_istore_n G (dc d_Ar_fillZ 1 rfl) (ls' := [(2, .int 0), (0, .ref (B.1 + p0)), (1, .int p1)]) rfl rfl rfl ?_
  refine k_aload_n G (dc d_Ar_fillZ 2 rfl) 1 rfl rfl ?_
  refine k_lenZ G (dc d_Ar_fillZ 3 rfl) hp0.1 hp0.2.1 (v := Int32.ofNat p0n) (by rw [hp0.2.2]) ?_
  refine k_istore_n G (dc d_Ar_fillZ 4 rfl) (ls' := [(3, .int (Int32.ofNat p0n)), (2, .int 0), (0, .ref (B.1 + p0)), (1, .int p1)]) rfl rfl rfl ?_
  refine kJ h (fun r7 => KK X B L 4 0 0 r7 20 [] []) (fun r7 h => ?_) (fun h => ?_)
  · obtain ⟨M6, rfl⟩ : ∃ z, z = r7 := ⟨_, rfl⟩
    show KK X B L 4 0 0 M6 20 [] []
    exact (kOk_s h) _ _ _ _ rfl rfl (dc d_Ar_fillZ 14 rfl)
  · refine k_sub [2, 3, 1, 0] rfl ?_
    refine kLp_ok (P := fun s8 => KK X B L 4 0 0 s8.2 5 [(0, .ref (B.1 + p0)), (1, .int p1), (2, .int s8.1), (3, .int (Int32.ofNat p0n))] []) (fun s8 h => ?_) kFU _ h
    obtain ⟨v2_1, M2⟩ := s8
    unfold m_Ar_fillZ_l5 at h
    show KK X B L 4 0 0 M2 5 [(0, .ref (B.1 + p0)), (1, .int p1), (2, .int v2_1), (3, .int (Int32.ofNat p0n))] []
    refine k_iload_n G (dc d_Ar_fillZ 5 rfl) 2 rfl rfl ?_
    refine k_iload_n G (dc d_Ar_fillZ 6 rfl) 3 rfl rfl ?_
    refine k_icmp_ge G (dc d_Ar_fillZ 7 rfl) (tgt := 20) rfl (fun c3 => ?_) (fun c3 => ?_)
    · replace h := kOk_p c3 h
      refine k_sub [] rfl ?_
      have h9 := kOk_s h
      exact h9
    · replace h := kOk_n c3 h
      refine k_aload_n G (dc d_Ar_fillZ 8 rfl) 0 rfl rfl ?_
      refine k_iload_n G (dc d_Ar_fillZ 9 rfl) 2 rfl rfl ?_
      refine k_iload_n G (dc d_Ar_fillZ 10 rfl) 1 rfl rfl ?_
      obtain ⟨M5, e4, h⟩ := kOk_b h
      refine k_zst G (dc d_Ar_fillZ 11 rfl) hp0.1 hp0.2.1 hp0.2.2 e4 ?_
      refine k_iinc G (dc d_Ar_fillZ 12 rfl) (ls' := [(2, .int (v2_1 + 1)), (0, .ref (B.1 + p0)), (1, .int p1), (3, .int (Int32.ofNat p0n))]) 2 rfl cI_1 rfl rfl ?_
      refine k_goto G (dc d_Ar_fillZ 13 rfl) (tgt := 5) rfl ?_
      refine k_sub [1, 2, 0, 3] rfl ?_
      have h9 := kOk_s h
      exact h9
theorem c_Ar_fillZ {l : Launch} {B : KB} {L : KLay} {M : KMem} {p0 : Nat} {p0n : Nat} {p1 : Int32} (hst : l.stackTraces = false) (hp0 : arL L p0 10 p0n) {M' : KMem} (e : m_Ar_fillZ p0 p0n p1 M = some M') : CtrN l B yJ7_fill_49daa cJ7_fill_49daa 4 none rm_Ar_fillZ [.ref (B.1 + p0), .int p1] L M none L M' :=
  mk_V rfl hst rfl (fun X hl G _ R => b_Ar_fillZ G hp0 ⟨_, e, R⟩)
end
section
/-! laid by wip/whole/lay.py: Wo_isLetter, Wo_mirrored, Wo_dropped, Wo_joined, Wo_single, Wo_decreed, Wo_letters, Wo_isWord -/
def I_Wo_isLetter : List (Nat × Instr × Nat) := [(0, .iload_n 0, 1), (1, .iconst 1, 1), (2, .if_icmp .lt 13, 3), (5, .iload_n 0, 1), (6, .bipush 6, 2), (8, .if_icmp .gt 7, 3), (11, .iconst 1, 1), (12, .goto 4, 3), (15, .iconst 0, 1), (16, .ireturn, 1)]
set_option maxRecDepth 100000 in
theorem d_Wo_isLetter : decA cX9_isLetter I_Wo_isLetter = true := by decide +kernel
abbrev rm_Wo_isLetter : Room := ({ frames := 0, cells := 0, slots := 0, locals := 0 } : Room)
def m_Wo_isLetter (p0 : Int32) : Option Int32 :=
 Option.bind (α := Int32) (if p0 < 1 then
 (some 0)
 else
 (if 6 < p0 then
 (some 0)
 else
 (some 1))) fun t1 =>
 Option.bind (kz t1) fun z3 =>
 some z3
set_option maxHeartbeats 4000000 in
set_option maxRecDepth 100000 in
theorem b_Wo_isLetter {X : KX} {B : KB} {L : KLay} {M : KMem} {p0 : Int32} (G : Good X B RX9 cX9_isLetter 1 rm_Wo_isLetter)  (h : kOk (m_Wo_isLetter p0) (fun r => RI X B L 1 cX9_isLetter .boolean rm_Wo_isLetter r M)) : KK X B L 1 0 0 M 0 [(0, .int p0)] [] := by
  unfold m_Wo_isLetter at h
  refine k_iload_n G (dc d_Wo_isLetter 0 rfl) 0 rfl rfl ?_
  refine k_iconst G (dc d_Wo_isLetter 1 rfl) cI_1 ?_
  refine kJ h (fun r2 => KK X B L 1 0 0 M 16 [] [.int r2]) (fun r2 h => ?_) (fun h => ?_)
  · obtain ⟨t1, rfl⟩ : ∃ z, z = r2 := ⟨_, rfl⟩
    show KK X B L 1 0 0 M 16 [] [.int t1]
    obtain ⟨z3, e4, h⟩ := kOk_b h
    obtain ⟨e4, nz3⟩ := kz_ok e4
    rw [e4]
    exact (kOk_s h) _ _ _ _ rfl rfl nz3 (dc d_Wo_isLetter 9 rfl)
  · refine k_icmp_lt G (dc d_Wo_isLetter 2 rfl) (tgt := 15) rfl (fun c5 => ?_) (fun c5 => ?_)
    · replace h := kOk_p c5 h
      refine k_iconst G (dc d_Wo_isLetter 8 rfl) cI_0 ?_
      refine k_sub [] rfl ?_
      have h9 := kOk_s h
      exact h9
    · replace h := kOk_n c5 h
      refine k_iload_n G (dc d_Wo_isLetter 3 rfl) 0 rfl rfl ?_
      refine k_bipush G (dc d_Wo_isLetter 4 rfl) cB_6 ?_
      refine k_icmp_gt G (dc d_Wo_isLetter 5 rfl) (tgt := 15) rfl (fun c6 => ?_) (fun c6 => ?_)
      · replace h := kOk_p c6 h
        refine k_iconst G (dc d_Wo_isLetter 8 rfl) cI_0 ?_
        refine k_sub [] rfl ?_
        have h9 := kOk_s h
        exact h9
      · replace h := kOk_n c6 h
        refine k_iconst G (dc d_Wo_isLetter 6 rfl) cI_1 ?_
        refine k_goto G (dc d_Wo_isLetter 7 rfl) (tgt := 16) rfl ?_
        refine k_sub [] rfl ?_
        have h9 := kOk_s h
        exact h9
theorem c_Wo_isLetter {l : Launch} {B : KB} {L : KLay} {M : KMem} {p0 : Int32} (hst : l.stackTraces = false)  {r : Int32} (e : m_Wo_isLetter p0 = some r) : CtrN l B yX9_isLetter cX9_isLetter 1 (some .boolean) rm_Wo_isLetter [.int p0] L M (some (.int r)) L M :=
  mk_I rfl hst rfl (fun X hl G _ R => b_Wo_isLetter G  ⟨_, e, R⟩)
def I_Wo_mirrored : List (Nat × Instr × Nat) := [(0, .iconst 0, 1), (1, .istore_n 1, 1), (2, .iload_n 0, 1), (3, .istore_n 2, 1), (4, .iconst 0, 1), (5, .istore_n 3, 1), (6, .iload_n 3, 1), (7, .bipush 8, 2), (9, .if_icmp .ge 28, 3), (12, .iload_n 2, 1), (13, .ifCond .eq 24, 3), (16, .iload_n 1, 1), (17, .bipush 10, 2), (19, .imul, 1), (20, .iload_n 2, 1), (21, .bipush 10, 2), (23, .irem, 1), (24, .iadd, 1), (25, .istore_n 1, 1), (26, .iload_n 2, 1), (27, .bipush 10, 2), (29, .idiv, 1), (30, .istore_n 2, 1), (31, .iinc 3 1, 3), (34, .goto (-28), 3), (37, .iload_n 1, 1), (38, .ireturn, 1)]
set_option maxRecDepth 100000 in
theorem d_Wo_mirrored : decA cX9_mirrored I_Wo_mirrored = true := by decide +kernel
abbrev rm_Wo_mirrored : Room := ({ frames := 0, cells := 0, slots := 0, locals := 0 } : Room)
def m_Wo_mirrored_l6  : (Int32 × Int32 × Int32) → Option ((Int32 × Int32 × Int32) ⊕ Int32) := fun (v1_1, v2_2, v3_3) =>
 if 8 ≤ v3_3 then
 (some (.inr v1_1))
 else
 (if v2_2 = 0 then
 (some (.inr v1_1))
 else
 (some (.inl ((v1_1 * 10) + (jrem v2_2 10), v2_2 / 10, v3_3 + 1))))
def m_Wo_mirrored (p0 : Int32) : Option Int32 :=
 Option.bind (α := Int32) (kLp m_Wo_mirrored_l6 kFU (0, p0, 0)) fun v1_6 =>
 some v1_6
set_option maxHeartbeats 4000000 in
set_option maxRecDepth 100000 in
theorem b_Wo_mirrored {X : KX} {B : KB} {L : KLay} {M : KMem} {p0 : Int32} (G : Good X B RX9 cX9_mirrored 4 rm_Wo_mirrored)  (h : kOk (m_Wo_mirrored p0) (fun r => RI X B L 4 cX9_mirrored .int rm_Wo_mirrored r M)) : KK X B L 4 0 0 M 0 [(0, .int p0)] [] := by
  unfold m_Wo_mirrored at h
  refine k_iconst G (dc d_Wo_mirrored 0 rfl) cI_0 ?_
  refine k_istore_n G (dc d_Wo_mirrored 1 rfl) (ls' := [(1, .int 0), (0, .int p0)]) rfl rfl rfl ?_
  refine k_iload_n G (dc d_Wo_mirrored 2 rfl) 1 rfl rfl ?_
  refine k_istore_n G (dc d_Wo_mirrored 3 rfl) (ls' := [(2, .int p0), (1, .int 0), (0, .int p0)]) rfl rfl rfl ?_
  refine k_iconst G (dc d_Wo_mirrored 4 rfl) cI_0 ?_
  refine k_istore_n G (dc d_Wo_mirrored 5 rfl) (ls' := [(3, .int 0), (2, .int p0), (1, .int 0), (0, .int p0)]) rfl rfl rfl ?_
  refine kJ h (fun r7 => KK X B L 4 0 0 M 37 [(1, .int r7)] []) (fun r7 h => ?_) (fun h => ?_)
  · obtain ⟨v1_6, rfl⟩ : ∃ z, z = r7 := ⟨_, rfl⟩
    show KK X B L 4 0 0 M 37 [(1, .int v1_6)] []
    refine k_iload_n G (dc d_Wo_mirrored 25 rfl) 0 rfl rfl ?_
    exact (kOk_s h) _ _ _ _ rfl rfl rfl (dc d_Wo_mirrored 26 rfl)
  · refine k_sub [2, 1, 0] rfl ?_
    refine kLp_ok (P := fun s8 => KK X B L 4 0 0 M 6 [(1, .int s8.1), (2, .int s8.2.1), (3, .int s8.2.2)] []) (fun s8 h => ?_) kFU _ h
    obtain ⟨v1_1, v2_2, v3_3⟩ := s8
    unfold m_Wo_mirrored_l6 at h
    show KK X B L 4 0 0 M 6 [(1, .int v1_1), (2, .int v2_2), (3, .int v3_3)] []
    refine k_iload_n G (dc d_Wo_mirrored 6 rfl) 2 rfl rfl ?_
    refine k_bipush G (dc d_Wo_mirrored 7 rfl) cB_8 ?_
    refine k_icmp_ge G (dc d_Wo_mirrored 8 rfl) (tgt := 37) rfl (fun c4 => ?_) (fun c4 => ?_)
    · replace h := kOk_p c4 h
      refine k_sub [0] rfl ?_
      have h9 := kOk_s h
      exact h9
    · replace h := kOk_n c4 h
      refine k_iload_n G (dc d_Wo_mirrored 9 rfl) 1 rfl rfl ?_
      refine k_if_eq G (dc d_Wo_mirrored 10 rfl) (tgt := 37) rfl (fun c5 => ?_) (fun c5 => ?_)
      · replace h := kOk_p c5 h
        refine k_sub [0] rfl ?_
        have h9 := kOk_s h
        exact h9
      · replace h := kOk_n c5 h
        refine k_iload_n G (dc d_Wo_mirrored 11 rfl) 0 rfl rfl ?_
        refine k_bipush G (dc d_Wo_mirrored 12 rfl) cB_10 ?_
        refine k_imul G (dc d_Wo_mirrored 13 rfl) ?_
        refine k_iload_n G (dc d_Wo_mirrored 14 rfl) 1 rfl rfl ?_
        refine k_bipush G (dc d_Wo_mirrored 15 rfl) cB_10 ?_
        refine k_irem G (dc d_Wo_mirrored 16 rfl) czI_10 ?_
        refine k_iadd G (dc d_Wo_mirrored 17 rfl) ?_
        refine k_istore_n G (dc d_Wo_mirrored 18 rfl) (ls' := [(1, .int ((v1_1 * 10) + (jrem v2_2 10))), (2, .int v2_2), (3, .int v3_3)]) rfl rfl rfl ?_
        refine k_iload_n G (dc d_Wo_mirrored 19 rfl) 1 rfl rfl ?_
        refine k_bipush G (dc d_Wo_mirrored 20 rfl) cB_10 ?_
        refine k_idiv G (dc d_Wo_mirrored 21 rfl) czI_10 ?_
        refine k_istore_n G (dc d_Wo_mirrored 22 rfl) (ls' := [(2, .int (v2_2 / 10)), (1, .int ((v1_1 * 10) + (jrem v2_2 10))), (3, .int v3_3)]) rfl rfl rfl ?_
        refine k_iinc G (dc d_Wo_mirrored 23 rfl) (ls' := [(3, .int (v3_3 + 1)), (2, .int (v2_2 / 10)), (1, .int ((v1_1 * 10) + (jrem v2_2 10)))]) 2 rfl cI_1 rfl rfl ?_
        refine k_goto G (dc d_Wo_mirrored 24 rfl) (tgt := 6) rfl ?_
        refine k_sub [2, 1, 0] rfl ?_
        have h9 := kOk_s h
        exact h9
theorem c_Wo_mirrored {l : Launch} {B : KB} {L : KLay} {M : KMem} {p0 : Int32} (hst : l.stackTraces = false)  {r : Int32} (e : m_Wo_mirrored p0 = some r) : CtrN l B yX9_mirrored cX9_mirrored 4 (some .int) rm_Wo_mirrored [.int p0] L M (some (.int r)) L M :=
  mk_I rfl hst rfl (fun X hl G _ R => b_Wo_mirrored G  ⟨_, e, R⟩)
def I_Wo_dropped : List (Nat × Instr × Nat) := [(0, .iconst 0, 1), (1, .istore_n 2, 1), (2, .iload_n 0, 1), (3, .istore_n 3, 1), (4, .iconst 0, 1), (5, .istore 4, 2), (7, .iload 4, 2), (9, .bipush 8, 2), (11, .if_icmp .ge 38, 3), (14, .iload_n 3, 1), (15, .ifCond .eq 34, 3), (18, .iload_n 3, 1), (19, .bipush 10, 2), (21, .irem, 1), (22, .istore 5, 2), (24, .iload 5, 2), (26, .iload_n 1, 1), (27, .if_icmp .eq 11, 3), (30, .iload_n 2, 1), (31, .bipush 10, 2), (33, .imul, 1), (34, .iload 5, 2), (36, .iadd, 1), (37, .istore_n 2, 1), (38, .iload_n 3, 1), (39, .bipush 10, 2), (41, .idiv, 1), (42, .istore_n 3, 1), (43, .iinc 4 1, 3), (46, .goto (-39), 3), (49, .iload_n 2, 1), (50, .ireturn, 1)]
set_option maxRecDepth 100000 in
theorem d_Wo_dropped : decA cX9_dropped I_Wo_dropped = true := by decide +kernel
abbrev rm_Wo_dropped : Room := ({ frames := 0, cells := 0, slots := 0, locals := 0 } : Room)
def m_Wo_dropped_l7 (p1 : Int32) : (Int32 × Int32 × Int32) → Option ((Int32 × Int32 × Int32) ⊕ Int32) := fun (v2_1, v3_2, v4_3) =>
 if 8 ≤ v4_3 then
 (some (.inr v2_1))
 else
 (if v3_2 = 0 then
 (some (.inr v2_1))
 else
 (Option.bind (α := Int32) (if (jrem v3_2 10) = p1 then
 (some v2_1)
 else
 (some ((v2_1 * 10) + (jrem v3_2 10)))) fun v2_6 =>
 some (.inl (v2_6, v3_2 / 10, v4_3 + 1))))
def m_Wo_dropped (p0 : Int32) (p1 : Int32) : Option Int32 :=
 Option.bind (α := Int32) (kLp (m_Wo_dropped_l7 p1) kFU (0, p0, 0)) fun v2_9 =>
 some v2_9
set_option maxHeartbeats 4000000 in
set_option maxRecDepth 100000 in
theorem b_Wo_dropped {X : KX} {B : KB} {L : KLay} {M : KMem} {p0 : Int32} {p1 : Int32} (G : Good X B RX9 cX9_dropped 6 rm_Wo_dropped)  (h : kOk (m_Wo_dropped p0 p1) (fun r => RI X B L 6 cX9_dropped .int rm_Wo_dropped r M)) : KK X B L 6 0 0 M 0 [(0, .int p0), (1, .int p1)] [] := by
  unfold m_Wo_dropped at h
  refine k_iconst G (dc d_Wo_dropped 0 rfl) cI_0 ?_
  refine k_istore_n G (dc d_Wo_dropped 1 rfl) (ls' := [(2, .int 0), (0, .int p0), (1, .int p1)]) rfl rfl rfl ?_
  refine k_iload_n G (dc d_Wo_dropped 2 rfl) 1 rfl rfl ?_
  refine k_istore_n G (dc d_Wo_dropped 3 rfl) (ls' := [(3, .int p0), (2, .int 0), (0, .int p0), (1, .int p1)]) rfl rfl rfl ?_
  refine k_iconst G (dc d_Wo_dropped 4 rfl) cI_0 ?_
  refine k_istore G (dc d_Wo_dropped 5 rfl) (ls' := [(4, .int 0), (3, .int p0), (2, .int 0), (0, .int p0), (1, .int p1)]) rfl rfl ?_
  refine kJ h (fun r10 => KK X B L 6 0 0 M 49 [(2, .int r10)] []) (fun r10 h => ?_) (fun h => ?_)
  · obtain ⟨v2_9, rfl⟩ : ∃ z, z = r10 := ⟨_, rfl⟩
    show KK X B L 6 0 0 M 49 [(2, .int v2_9)] []
    refine k_iload_n G (dc d_Wo_dropped 30 rfl) 0 rfl rfl ?_
    exact (kOk_s h) _ _ _ _ rfl rfl rfl (dc d_Wo_dropped 31 rfl)
  · refine k_sub [4, 2, 1, 0] rfl ?_
    refine kLp_ok (P := fun s11 => KK X B L 6 0 0 M 7 [(1, .int p1), (2, .int s11.1), (3, .int s11.2.1), (4, .int s11.2.2)] []) (fun s11 h => ?_) kFU _ h
    obtain ⟨v2_1, v3_2, v4_3⟩ := s11
    unfold m_Wo_dropped_l7 at h
    show KK X B L 6 0 0 M 7 [(1, .int p1), (2, .int v2_1), (3, .int v3_2), (4, .int v4_3)] []
    refine k_iload G (dc d_Wo_dropped 6 rfl) 3 rfl ?_
    refine k_bipush G (dc d_Wo_dropped 7 rfl) cB_8 ?_
    refine k_icmp_ge G (dc d_Wo_dropped 8 rfl) (tgt := 49) rfl (fun c4 => ?_) (fun c4 => ?_)
    · replace h := kOk_p c4 h
      refine k_sub [1] rfl ?_
      have h9 := kOk_s h
      exact h9
    · replace h := kOk_n c4 h
      refine k_iload_n G (dc d_Wo_dropped 9 rfl) 2 rfl rfl ?_
      refine k_if_eq G (dc d_Wo_dropped 10 rfl) (tgt := 49) rfl (fun c5 => ?_) (fun c5 => ?_)
      · replace h := kOk_p c5 h
        refine k_sub [1] rfl ?_
        have h9 := kOk_s h
        exact h9
      · replace h := kOk_n c5 h
        refine k_iload_n G (dc d_Wo_dropped 11 rfl) 2 rfl rfl ?_
        refine k_bipush G (dc d_Wo_dropped 12 rfl) cB_10 ?_
        refine k_irem G (dc d_Wo_dropped 13 rfl) czI_10 ?_
        refine k_istore G (dc d_Wo_dropped 14 rfl) (ls' := [(5, .int (jrem v3_2 10)), (1, .int p1), (2, .int v2_1), (3, .int v3_2), (4, .int v4_3)]) rfl rfl ?_
        refine k_iload G (dc d_Wo_dropped 15 rfl) 0 rfl ?_
        refine k_iload_n G (dc d_Wo_dropped 16 rfl) 1 rfl rfl ?_
        refine kJ h (fun r7 => KK X B L 6 0 0 M 38 [(1, .int p1), (2, .int r7), (3, .int v3_2), (4, .int v4_3)] []) (fun r7 h => ?_) (fun h => ?_)
        · obtain ⟨v2_6, rfl⟩ : ∃ z, z = r7 := ⟨_, rfl⟩
          show KK X B L 6 0 0 M 38 [(1, .int p1), (2, .int v2_6), (3, .int v3_2), (4, .int v4_3)] []
          refine k_iload_n G (dc d_Wo_dropped 24 rfl) 2 rfl rfl ?_
          refine k_bipush G (dc d_Wo_dropped 25 rfl) cB_10 ?_
          refine k_idiv G (dc d_Wo_dropped 26 rfl) czI_10 ?_
          refine k_istore_n G (dc d_Wo_dropped 27 rfl) (ls' := [(3, .int (v3_2 / 10)), (1, .int p1), (2, .int v2_6), (4, .int v4_3)]) rfl rfl rfl ?_
          refine k_iinc G (dc d_Wo_dropped 28 rfl) (ls' := [(4, .int (v4_3 + 1)), (3, .int (v3_2 / 10)), (1, .int p1), (2, .int v2_6)]) 3 rfl cI_1 rfl rfl ?_
          refine k_goto G (dc d_Wo_dropped 29 rfl) (tgt := 7) rfl ?_
          refine k_sub [2, 3, 1, 0] rfl ?_
          have h9 := kOk_s h
          exact h9
        · refine k_icmp_eq G (dc d_Wo_dropped 17 rfl) (tgt := 38) rfl (fun c8 => ?_) (fun c8 => ?_)
          · replace h := kOk_p c8 h
            refine k_sub [1, 2, 3, 4] rfl ?_
            have h9 := kOk_s h
            exact h9
          · replace h := kOk_n c8 h
            refine k_iload_n G (dc d_Wo_dropped 18 rfl) 2 rfl rfl ?_
            refine k_bipush G (dc d_Wo_dropped 19 rfl) cB_10 ?_
            refine k_imul G (dc d_Wo_dropped 20 rfl) ?_
            refine k_iload G (dc d_Wo_dropped 21 rfl) 0 rfl ?_
            refine k_iadd G (dc d_Wo_dropped 22 rfl) ?_
            refine k_istore_n G (dc d_Wo_dropped 23 rfl) (ls' := [(2, .int ((v2_1 * 10) + (jrem v3_2 10))), (5, .int (jrem v3_2 10)), (1, .int p1), (3, .int v3_2), (4, .int v4_3)]) rfl rfl rfl ?_
            refine k_sub [2, 0, 3, 4] rfl ?_
            have h9 := kOk_s h
            exact h9
theorem c_Wo_dropped {l : Launch} {B : KB} {L : KLay} {M : KMem} {p0 : Int32} {p1 : Int32} (hst : l.stackTraces = false)  {r : Int32} (e : m_Wo_dropped p0 p1 = some r) : CtrN l B yX9_dropped cX9_dropped 6 (some .int) rm_Wo_dropped [.int p0, .int p1] L M (some (.int r)) L M :=
  mk_I rfl hst rfl (fun X hl G _ R => b_Wo_dropped G  ⟨_, e, R⟩)
def I_Wo_joined : List (Nat × Instr × Nat) := [(0, .iconst 0, 1), (1, .istore 4, 2), (3, .iload_n 0, 1), (4, .istore 5, 2), (6, .iconst 0, 1), (7, .istore 6, 2), (9, .iload 6, 2), (11, .bipush 8, 2), (13, .if_icmp .ge 75, 3), (16, .iload 5, 2), (18, .ifCond .eq 70, 3), (21, .iload 5, 2), (23, .bipush 10, 2), (25, .irem, 1), (26, .istore 7, 2), (28, .iload 7, 2), (30, .iload_n 1, 1), (31, .if_icmp .ne 34, 3), (34, .iload 5, 2), (36, .bipush 10, 2), (38, .idiv, 1), (39, .bipush 10, 2), (41, .irem, 1), (42, .iload_n 2, 1), (43, .if_icmp .ne 22, 3), (46, .iload 4, 2), (48, .bipush 10, 2), (50, .imul, 1), (51, .iload_n 3, 1), (52, .iadd, 1), (53, .istore 4, 2), (55, .iload 5, 2), (57, .bipush 100, 2), (59, .idiv, 1), (60, .istore 5, 2), (62, .goto 20, 3), (65, .iload 4, 2), (67, .bipush 10, 2), (69, .imul, 1), (70, .iload 7, 2), (72, .iadd, 1), (73, .istore 4, 2), (75, .iload 5, 2), (77, .bipush 10, 2), (79, .idiv, 1), (80, .istore 5, 2), (82, .iinc 6 1, 3), (85, .goto (-76), 3), (88, .iload 4, 2), (90, .ireturn, 1)]
set_option maxRecDepth 100000 in
theorem d_Wo_joined : decA cX9_joined I_Wo_joined = true := by decide +kernel
abbrev rm_Wo_joined : Room := ({ frames := 0, cells := 0, slots := 0, locals := 0 } : Room)
def m_Wo_joined_l9 (p1 : Int32) (p2 : Int32) (p3 : Int32) : (Int32 × Int32 × Int32) → Option ((Int32 × Int32 × Int32) ⊕ Int32) := fun (v4_1, v5_2, v6_3) =>
 if 8 ≤ v6_3 then
 (some (.inr v4_1))
 else
 (if v5_2 = 0 then
 (some (.inr v4_1))
 else
 (Option.bind (α := Int32 × Int32) (if (jrem v5_2 10) = p1 then
 (if (jrem (v5_2 / 10) 10) = p2 then
 (some ((v4_1 * 10) + p3, v5_2 / 100))
 else
 (some ((v4_1 * 10) + (jrem v5_2 10), v5_2 / 10)))
 else
 (some ((v4_1 * 10) + (jrem v5_2 10), v5_2 / 10))) fun (v4_6, v5_7) =>
 some (.inl (v4_6, v5_7, v6_3 + 1))))
def m_Wo_joined (p0 : Int32) (p1 : Int32) (p2 : Int32) (p3 : Int32) : Option Int32 :=
 Option.bind (α := Int32) (kLp (m_Wo_joined_l9 p1 p2 p3) kFU (0, p0, 0)) fun v4_11 =>
 some v4_11
set_option maxHeartbeats 4000000 in
set_option maxRecDepth 100000 in
theorem b_Wo_joined {X : KX} {B : KB} {L : KLay} {M : KMem} {p0 : Int32} {p1 : Int32} {p2 : Int32} {p3 : Int32} (G : Good X B RX9 cX9_joined 8 rm_Wo_joined)  (h : kOk (m_Wo_joined p0 p1 p2 p3) (fun r => RI X B L 8 cX9_joined .int rm_Wo_joined r M)) : KK X B L 8 0 0 M 0 [(0, .int p0), (1, .int p1), (2, .int p2), (3, .int p3)] [] := by
  unfold m_Wo_joined at h
  refine k_iconst G (dc d_Wo_joined 0 rfl) cI_0 ?_
  refine k_istore G (dc d_Wo_joined 1 rfl) (ls' := [(4, .int 0), (0, .int p0), (1, .int p1), (2, .int p2), (3, .int p3)]) rfl rfl ?_
  refine k_iload_n G (dc d_Wo_joined 2 rfl) 1 rfl rfl ?_
  refine k_istore G (dc d_Wo_joined 3 rfl) (ls' := [(5, .int p0), (4, .int 0), (0, .int p0), (1, .int p1), (2, .int p2), (3, .int p3)]) rfl rfl ?_
  refine k_iconst G (dc d_Wo_joined 4 rfl) cI_0 ?_
  refine k_istore G (dc d_Wo_joined 5 rfl) (ls' := [(6, .int 0), (5, .int p0), (4, .int 0), (0, .int p0), (1, .int p1), (2, .int p2), (3, .int p3)]) rfl rfl ?_
  refine kJ h (fun r12 => KK X B L 8 0 0 M 88 [(4, .int r12)] []) (fun r12 h => ?_) (fun h => ?_)
  · obtain ⟨v4_11, rfl⟩ : ∃ z, z = r12 := ⟨_, rfl⟩
    show KK X B L 8 0 0 M 88 [(4, .int v4_11)] []
    refine k_iload G (dc d_Wo_joined 48 rfl) 0 rfl ?_
    exact (kOk_s h) _ _ _ _ rfl rfl rfl (dc d_Wo_joined 49 rfl)
  · refine k_sub [4, 5, 6, 2, 1, 0] rfl ?_
    refine kLp_ok (P := fun s13 => KK X B L 8 0 0 M 9 [(1, .int p1), (2, .int p2), (3, .int p3), (4, .int s13.1), (5, .int s13.2.1), (6, .int s13.2.2)] []) (fun s13 h => ?_) kFU _ h
    obtain ⟨v4_1, v5_2, v6_3⟩ := s13
    unfold m_Wo_joined_l9 at h
    show KK X B L 8 0 0 M 9 [(1, .int p1), (2, .int p2), (3, .int p3), (4, .int v4_1), (5, .int v5_2), (6, .int v6_3)] []
    refine k_iload G (dc d_Wo_joined 6 rfl) 5 rfl ?_
    refine k_bipush G (dc d_Wo_joined 7 rfl) cB_8 ?_
    refine k_icmp_ge G (dc d_Wo_joined 8 rfl) (tgt := 88) rfl (fun c4 => ?_) (fun c4 => ?_)
    · replace h := kOk_p c4 h
      refine k_sub [3] rfl ?_
      have h9 := kOk_s h
      exact h9
    · replace h := kOk_n c4 h
      refine k_iload G (dc d_Wo_joined 9 rfl) 4 rfl ?_
      refine k_if_eq G (dc d_Wo_joined 10 rfl) (tgt := 88) rfl (fun c5 => ?_) (fun c5 => ?_)
      · replace h := kOk_p c5 h
        refine k_sub [3] rfl ?_
        have h9 := kOk_s h
        exact h9
      · replace h := kOk_n c5 h
        refine k_iload G (dc d_Wo_joined 11 rfl) 4 rfl ?_
        refine k_bipush G (dc d_Wo_joined 12 rfl) cB_10 ?_
        refine k_irem G (dc d_Wo_joined 13 rfl) czI_10 ?_
        refine k_istore G (dc d_Wo_joined 14 rfl) (ls' := [(7, .int (jrem v5_2 10)), (1, .int p1), (2, .int p2), (3, .int p3), (4, .int v4_1), (5, .int v5_2), (6, .int v6_3)]) rfl rfl ?_
        refine k_iload G (dc d_Wo_joined 15 rfl) 0 rfl ?_
        refine k_iload_n G (dc d_Wo_joined 16 rfl) 1 rfl rfl ?_
        refine kJ h (fun r8 => KK X B L 8 0 0 M 82 [(1, .int p1), (2, .int p2), (3, .int p3), (4, .int r8.1), (5, .int r8.2), (6, .int v6_3)] []) (fun r8 h => ?_) (fun h => ?_)
        · obtain ⟨v4_6, v5_7⟩ := r8
          show KK X B L 8 0 0 M 82 [(1, .int p1), (2, .int p2), (3, .int p3), (4, .int v4_6), (5, .int v5_7), (6, .int v6_3)] []
          refine k_iinc G (dc d_Wo_joined 46 rfl) (ls' := [(6, .int (v6_3 + 1)), (1, .int p1), (2, .int p2), (3, .int p3), (4, .int v4_6), (5, .int v5_7)]) 5 rfl cI_1 rfl rfl ?_
          refine k_goto G (dc d_Wo_joined 47 rfl) (tgt := 9) rfl ?_
          refine k_sub [1, 2, 3, 4, 5, 0] rfl ?_
          have h9 := kOk_s h
          exact h9
        · refine k_icmp_ne G (dc d_Wo_joined 17 rfl) (tgt := 65) rfl (fun c9 => ?_) (fun c9 => ?_)
          · replace h := kOk_n c9 h
            refine k_iload G (dc d_Wo_joined 36 rfl) 4 rfl ?_
            refine k_bipush G (dc d_Wo_joined 37 rfl) cB_10 ?_
            refine k_imul G (dc d_Wo_joined 38 rfl) ?_
            refine k_iload G (dc d_Wo_joined 39 rfl) 0 rfl ?_
            refine k_iadd G (dc d_Wo_joined 40 rfl) ?_
            refine k_istore G (dc d_Wo_joined 41 rfl) (ls' := [(4, .int ((v4_1 * 10) + (jrem v5_2 10))), (7, .int (jrem v5_2 10)), (1, .int p1), (2, .int p2), (3, .int p3), (5, .int v5_2), (6, .int v6_3)]) rfl rfl ?_
            refine k_iload G (dc d_Wo_joined 42 rfl) 5 rfl ?_
            refine k_bipush G (dc d_Wo_joined 43 rfl) cB_10 ?_
            refine k_idiv G (dc d_Wo_joined 44 rfl) czI_10 ?_
            refine k_istore G (dc d_Wo_joined 45 rfl) (ls' := [(5, .int (v5_2 / 10)), (4, .int ((v4_1 * 10) + (jrem v5_2 10))), (7, .int (jrem v5_2 10)), (1, .int p1), (2, .int p2), (3, .int p3), (6, .int v6_3)]) rfl rfl ?_
            refine k_sub [3, 4, 5, 1, 0, 6] rfl ?_
            have h9 := kOk_s h
            exact h9
          · replace h := kOk_p c9 h
            refine k_iload G (dc d_Wo_joined 18 rfl) 5 rfl ?_
            refine k_bipush G (dc d_Wo_joined 19 rfl) cB_10 ?_
            refine k_idiv G (dc d_Wo_joined 20 rfl) czI_10 ?_
            refine k_bipush G (dc d_Wo_joined 21 rfl) cB_10 ?_
            refine k_irem G (dc d_Wo_joined 22 rfl) czI_10 ?_
            refine k_iload_n G (dc d_Wo_joined 23 rfl) 2 rfl rfl ?_
            refine k_icmp_ne G (dc d_Wo_joined 24 rfl) (tgt := 65) rfl (fun c10 => ?_) (fun c10 => ?_)
            · replace h := kOk_n c10 h
              refine k_iload G (dc d_Wo_joined 36 rfl) 4 rfl ?_
              refine k_bipush G (dc d_Wo_joined 37 rfl) cB_10 ?_
              refine k_imul G (dc d_Wo_joined 38 rfl) ?_
              refine k_iload G (dc d_Wo_joined 39 rfl) 0 rfl ?_
              refine k_iadd G (dc d_Wo_joined 40 rfl) ?_
              refine k_istore G (dc d_Wo_joined 41 rfl) (ls' := [(4, .int ((v4_1 * 10) + (jrem v5_2 10))), (7, .int (jrem v5_2 10)), (1, .int p1), (2, .int p2), (3, .int p3), (5, .int v5_2), (6, .int v6_3)]) rfl rfl ?_
              refine k_iload G (dc d_Wo_joined 42 rfl) 5 rfl ?_
              refine k_bipush G (dc d_Wo_joined 43 rfl) cB_10 ?_
              refine k_idiv G (dc d_Wo_joined 44 rfl) czI_10 ?_
              refine k_istore G (dc d_Wo_joined 45 rfl) (ls' := [(5, .int (v5_2 / 10)), (4, .int ((v4_1 * 10) + (jrem v5_2 10))), (7, .int (jrem v5_2 10)), (1, .int p1), (2, .int p2), (3, .int p3), (6, .int v6_3)]) rfl rfl ?_
              refine k_sub [3, 4, 5, 1, 0, 6] rfl ?_
              have h9 := kOk_s h
              exact h9
            · replace h := kOk_p c10 h
              refine k_iload G (dc d_Wo_joined 25 rfl) 4 rfl ?_
              refine k_bipush G (dc d_Wo_joined 26 rfl) cB_10 ?_
              refine k_imul G (dc d_Wo_joined 27 rfl) ?_
              refine k_iload_n G (dc d_Wo_joined 28 rfl) 3 rfl rfl ?_
              refine k_iadd G (dc d_Wo_joined 29 rfl) ?_
              refine k_istore G (dc d_Wo_joined 30 rfl) (ls' := [(4, .int ((v4_1 * 10) + p3)), (7, .int (jrem v5_2 10)), (1, .int p1), (2, .int p2), (3, .int p3), (5, .int v5_2), (6, .int v6_3)]) rfl rfl ?_
              refine k_iload G (dc d_Wo_joined 31 rfl) 5 rfl ?_
              refine k_bipush G (dc d_Wo_joined 32 rfl) cB_100 ?_
              refine k_idiv G (dc d_Wo_joined 33 rfl) czI_100 ?_
              refine k_istore G (dc d_Wo_joined 34 rfl) (ls' := [(5, .int (v5_2 / 100)), (4, .int ((v4_1 * 10) + p3)), (7, .int (jrem v5_2 10)), (1, .int p1), (2, .int p2), (3, .int p3), (6, .int v6_3)]) rfl rfl ?_
              refine k_goto G (dc d_Wo_joined 35 rfl) (tgt := 82) rfl ?_
              refine k_sub [3, 4, 5, 1, 0, 6] rfl ?_
              have h9 := kOk_s h
              exact h9
theorem c_Wo_joined {l : Launch} {B : KB} {L : KLay} {M : KMem} {p0 : Int32} {p1 : Int32} {p2 : Int32} {p3 : Int32} (hst : l.stackTraces = false)  {r : Int32} (e : m_Wo_joined p0 p1 p2 p3 = some r) : CtrN l B yX9_joined cX9_joined 8 (some .int) rm_Wo_joined [.int p0, .int p1, .int p2, .int p3] L M (some (.int r)) L M :=
  mk_I rfl hst rfl (fun X hl G _ R => b_Wo_joined G  ⟨_, e, R⟩)
def I_Wo_single : List (Nat × Instr × Nat) := [(0, .iconst 0, 1), (1, .istore_n 2, 1), (2, .iconst 0, 1), (3, .istore_n 3, 1), (4, .iload_n 0, 1), (5, .istore 4, 2), (7, .iconst 0, 1), (8, .istore 5, 2), (10, .iload 5, 2), (12, .bipush 8, 2), (14, .if_icmp .ge 50, 3), (17, .iload 4, 2), (19, .ifCond .eq 45, 3), (22, .iload 4, 2), (24, .bipush 10, 2), (26, .irem, 1), (27, .istore 6, 2), (29, .iload 6, 2), (31, .iload_n 1, 1), (32, .if_icmp .ne 8, 3), (35, .iload_n 3, 1), (36, .iload_n 1, 1), (37, .if_icmp .eq 11, 3), (40, .iload_n 2, 1), (41, .bipush 10, 2), (43, .imul, 1), (44, .iload 6, 2), (46, .iadd, 1), (47, .istore_n 2, 1), (48, .iload 6, 2), (50, .istore_n 3, 1), (51, .iload 4, 2), (53, .bipush 10, 2), (55, .idiv, 1), (56, .istore 4, 2), (58, .iinc 5 1, 3), (61, .goto (-51), 3), (64, .iload_n 2, 1), (65, .ireturn, 1)]
set_option maxRecDepth 100000 in
theorem d_Wo_single : decA cX9_single I_Wo_single = true := by decide +kernel
abbrev rm_Wo_single : Room := ({ frames := 0, cells := 0, slots := 0, locals := 0 } : Room)
def m_Wo_single_l10 (p1 : Int32) : (Int32 × Int32 × Int32 × Int32) → Option ((Int32 × Int32 × Int32 × Int32) ⊕ Int32) := fun (v2_1, v3_2, v4_3, v5_4) =>
 if 8 ≤ v5_4 then
 (some (.inr v2_1))
 else
 (if v4_3 = 0 then
 (some (.inr v2_1))
 else
 (Option.bind (α := Int32) (if (jrem v4_3 10) = p1 then
 (if v3_2 = p1 then
 (some v2_1)
 else
 (some ((v2_1 * 10) + (jrem v4_3 10))))
 else
 (some ((v2_1 * 10) + (jrem v4_3 10)))) fun v2_7 =>
 some (.inl (v2_7, jrem v4_3 10, v4_3 / 10, v5_4 + 1))))
def m_Wo_single (p0 : Int32) (p1 : Int32) : Option Int32 :=
 Option.bind (α := Int32) (kLp (m_Wo_single_l10 p1) kFU (0, 0, p0, 0)) fun v2_11 =>
 some v2_11
set_option maxHeartbeats 4000000 in
set_option maxRecDepth 100000 in
theorem b_Wo_single {X : KX} {B : KB} {L : KLay} {M : KMem} {p0 : Int32} {p1 : Int32} (G : Good X B RX9 cX9_single 7 rm_Wo_single)  (h : kOk (m_Wo_single p0 p1) (fun r => RI X B L 7 cX9_single .int rm_Wo_single r M)) : KK X B L 7 0 0 M 0 [(0, .int p0), (1, .int p1)] [] := by
  unfold m_Wo_single at h
  refine k_iconst G (dc d_Wo_single 0 rfl) cI_0 ?_
  refine k_istore_n G (dc d_Wo_single 1 rfl) (ls' := [(2, .int 0), (0, .int p0), (1, .int p1)]) rfl rfl rfl ?_
  refine k_iconst G (dc d_Wo_single 2 rfl) cI_0 ?_
  refine k_istore_n G (dc d_Wo_single 3 rfl) (ls' := [(3, .int 0), (2, .int 0), (0, .int p0), (1, .int p1)]) rfl rfl rfl ?_
  refine k_iload_n G (dc d_Wo_single 4 rfl) 2 rfl rfl ?_
  refine k_istore G (dc d_Wo_single 5 rfl) (ls' := [(4, .int p0), (3, .int 0), (2, .int 0), (0, .int p0), (1, .int p1)]) rfl rfl ?_
  refine k_iconst G (dc d_Wo_single 6 rfl) cI_0 ?_
  refine k_istore G (dc d_Wo_single 7 rfl) (ls' := [(5, .int 0), (4, .int p0), (3, .int 0), (2, .int 0), (0, .int p0), (1, .int p1)]) rfl rfl ?_
  refine kJ h (fun r12 => KK X B L 7 0 0 M 64 [(2, .int r12)] []) (fun r12 h => ?_) (fun h => ?_)
  · obtain ⟨v2_11, rfl⟩ : ∃ z, z = r12 := ⟨_, rfl⟩
    show KK X B L 7 0 0 M 64 [(2, .int v2_11)] []
    refine k_iload_n G (dc d_Wo_single 37 rfl) 0 rfl rfl ?_
    exact (kOk_s h) _ _ _ _ rfl rfl rfl (dc d_Wo_single 38 rfl)
  · refine k_sub [5, 3, 2, 1, 0] rfl ?_
    refine kLp_ok (P := fun s13 => KK X B L 7 0 0 M 10 [(1, .int p1), (2, .int s13.1), (3, .int s13.2.1), (4, .int s13.2.2.1), (5, .int s13.2.2.2)] []) (fun s13 h => ?_) kFU _ h
    obtain ⟨v2_1, v3_2, v4_3, v5_4⟩ := s13
    unfold m_Wo_single_l10 at h
    show KK X B L 7 0 0 M 10 [(1, .int p1), (2, .int v2_1), (3, .int v3_2), (4, .int v4_3), (5, .int v5_4)] []
    refine k_iload G (dc d_Wo_single 8 rfl) 4 rfl ?_
    refine k_bipush G (dc d_Wo_single 9 rfl) cB_8 ?_
    refine k_icmp_ge G (dc d_Wo_single 10 rfl) (tgt := 64) rfl (fun c5 => ?_) (fun c5 => ?_)
    · replace h := kOk_p c5 h
      refine k_sub [1] rfl ?_
      have h9 := kOk_s h
      exact h9
    · replace h := kOk_n c5 h
      refine k_iload G (dc d_Wo_single 11 rfl) 3 rfl ?_
      refine k_if_eq G (dc d_Wo_single 12 rfl) (tgt := 64) rfl (fun c6 => ?_) (fun c6 => ?_)
      · replace h := kOk_p c6 h
        refine k_sub [1] rfl ?_
        have h9 := kOk_s h
        exact h9
      · replace h := kOk_n c6 h
        refine k_iload G (dc d_Wo_single 13 rfl) 3 rfl ?_
        refine k_bipush G (dc d_Wo_single 14 rfl) cB_10 ?_
        refine k_irem G (dc d_Wo_single 15 rfl) czI_10 ?_
        refine k_istore G (dc d_Wo_single 16 rfl) (ls' := [(6, .int (jrem v4_3 10)), (1, .int p1), (2, .int v2_1), (3, .int v3_2), (4, .int v4_3), (5, .int v5_4)]) rfl rfl ?_
        refine k_iload G (dc d_Wo_single 17 rfl) 0 rfl ?_
        refine k_iload_n G (dc d_Wo_single 18 rfl) 1 rfl rfl ?_
        refine kJ h (fun r8 => KK X B L 7 0 0 M 48 [(1, .int p1), (2, .int r8), (4, .int v4_3), (5, .int v5_4), (6, .int (jrem v4_3 10))] []) (fun r8 h => ?_) (fun h => ?_)
        · obtain ⟨v2_7, rfl⟩ : ∃ z, z = r8 := ⟨_, rfl⟩
          show KK X B L 7 0 0 M 48 [(1, .int p1), (2, .int v2_7), (4, .int v4_3), (5, .int v5_4), (6, .int (jrem v4_3 10))] []
          refine k_iload G (dc d_Wo_single 29 rfl) 4 rfl ?_
          refine k_istore_n G (dc d_Wo_single 30 rfl) (ls' := [(3, .int (jrem v4_3 10)), (1, .int p1), (2, .int v2_7), (4, .int v4_3), (5, .int v5_4), (6, .int (jrem v4_3 10))]) rfl rfl rfl ?_
          refine k_iload G (dc d_Wo_single 31 rfl) 3 rfl ?_
          refine k_bipush G (dc d_Wo_single 32 rfl) cB_10 ?_
          refine k_idiv G (dc d_Wo_single 33 rfl) czI_10 ?_
          refine k_istore G (dc d_Wo_single 34 rfl) (ls' := [(4, .int (v4_3 / 10)), (3, .int (jrem v4_3 10)), (1, .int p1), (2, .int v2_7), (5, .int v5_4), (6, .int (jrem v4_3 10))]) rfl rfl ?_
          refine k_iinc G (dc d_Wo_single 35 rfl) (ls' := [(5, .int (v5_4 + 1)), (4, .int (v4_3 / 10)), (3, .int (jrem v4_3 10)), (1, .int p1), (2, .int v2_7), (6, .int (jrem v4_3 10))]) 4 rfl cI_1 rfl rfl ?_
          refine k_goto G (dc d_Wo_single 36 rfl) (tgt := 10) rfl ?_
          refine k_sub [3, 4, 2, 1, 0] rfl ?_
          have h9 := kOk_s h
          exact h9
        · refine k_icmp_ne G (dc d_Wo_single 19 rfl) (tgt := 40) rfl (fun c9 => ?_) (fun c9 => ?_)
          · replace h := kOk_n c9 h
            refine k_iload_n G (dc d_Wo_single 23 rfl) 2 rfl rfl ?_
            refine k_bipush G (dc d_Wo_single 24 rfl) cB_10 ?_
            refine k_imul G (dc d_Wo_single 25 rfl) ?_
            refine k_iload G (dc d_Wo_single 26 rfl) 0 rfl ?_
            refine k_iadd G (dc d_Wo_single 27 rfl) ?_
            refine k_istore_n G (dc d_Wo_single 28 rfl) (ls' := [(2, .int ((v2_1 * 10) + (jrem v4_3 10))), (6, .int (jrem v4_3 10)), (1, .int p1), (3, .int v3_2), (4, .int v4_3), (5, .int v5_4)]) rfl rfl rfl ?_
            refine k_sub [2, 0, 4, 5, 1] rfl ?_
            have h9 := kOk_s h
            exact h9
          · replace h := kOk_p c9 h
            refine k_iload_n G (dc d_Wo_single 20 rfl) 3 rfl rfl ?_
            refine k_iload_n G (dc d_Wo_single 21 rfl) 1 rfl rfl ?_
            refine k_icmp_eq G (dc d_Wo_single 22 rfl) (tgt := 48) rfl (fun c10 => ?_) (fun c10 => ?_)
            · replace h := kOk_p c10 h
              refine k_sub [1, 2, 4, 5, 0] rfl ?_
              have h9 := kOk_s h
              exact h9
            · replace h := kOk_n c10 h
              refine k_iload_n G (dc d_Wo_single 23 rfl) 2 rfl rfl ?_
              refine k_bipush G (dc d_Wo_single 24 rfl) cB_10 ?_
              refine k_imul G (dc d_Wo_single 25 rfl) ?_
              refine k_iload G (dc d_Wo_single 26 rfl) 0 rfl ?_
              refine k_iadd G (dc d_Wo_single 27 rfl) ?_
              refine k_istore_n G (dc d_Wo_single 28 rfl) (ls' := [(2, .int ((v2_1 * 10) + (jrem v4_3 10))), (6, .int (jrem v4_3 10)), (1, .int p1), (3, .int v3_2), (4, .int v4_3), (5, .int v5_4)]) rfl rfl rfl ?_
              refine k_sub [2, 0, 4, 5, 1] rfl ?_
              have h9 := kOk_s h
              exact h9
theorem c_Wo_single {l : Launch} {B : KB} {L : KLay} {M : KMem} {p0 : Int32} {p1 : Int32} (hst : l.stackTraces = false)  {r : Int32} (e : m_Wo_single p0 p1 = some r) : CtrN l B yX9_single cX9_single 7 (some .int) rm_Wo_single [.int p0, .int p1] L M (some (.int r)) L M :=
  mk_I rfl hst rfl (fun X hl G _ R => b_Wo_single G  ⟨_, e, R⟩)
def I_Wo_decreed : List (Nat × Instr × Nat) := [(0, .iload 4, 2), (2, .invokestatic 16, 3), (5, .istore 5, 2), (7, .iload_n 0, 1), (8, .lookupswitch 44 #[(0, 28), (1, 35)], 28), (36, .iload 5, 2), (38, .iload_n 1, 1), (39, .invokestatic 20, 3), (42, .ireturn, 1), (43, .iload 5, 2), (45, .iload_n 1, 1), (46, .iload_n 2, 1), (47, .iload_n 3, 1), (48, .invokestatic 24, 3), (51, .ireturn, 1), (52, .iload 5, 2), (54, .iload_n 1, 1), (55, .invokestatic 28, 3), (58, .ireturn, 1)]
set_option maxRecDepth 100000 in
theorem d_Wo_decreed : decA cX9_decreed I_Wo_decreed = true := by decide +kernel
abbrev rm_Wo_decreed : Room := ({ frames := 1, cells := 0, slots := 0, locals := 27 } : Room)
def m_Wo_decreed (p0 : Int32) (p1 : Int32) (p2 : Int32) (p3 : Int32) (p4 : Int32) : Option Int32 :=
 Option.bind (m_Wo_mirrored p4) fun x2 =>
 if p0 = 0 then
 (Option.bind (m_Wo_dropped x2 p1) fun x5 =>
 some x5)
 else
 (if p0 = 1 then
 (Option.bind (m_Wo_joined x2 p1 p2 p3) fun x8 =>
 some x8)
 else
 (Option.bind (m_Wo_single x2 p1) fun x10 =>
 some x10))
set_option maxHeartbeats 4000000 in
set_option maxRecDepth 100000 in
theorem b_Wo_decreed {X : KX} {B : KB} {L : KLay} {M : KMem} {p0 : Int32} {p1 : Int32} {p2 : Int32} {p3 : Int32} {p4 : Int32} (G : Good X B RX9 cX9_decreed 6 rm_Wo_decreed)  (h : kOk (m_Wo_decreed p0 p1 p2 p3 p4) (fun r => RI X B L 6 cX9_decreed .int rm_Wo_decreed r M)) : KK X B L 6 0 0 M 0 [(0, .int p0), (1, .int p1), (2, .int p2), (3, .int p3), (4, .int p4)] [] := by
  unfold m_Wo_decreed at h
  refine k_iload G (dc d_Wo_decreed 0 rfl) 4 rfl ?_
  obtain ⟨x2, e1, h⟩ := kOk_b h
  refine k_cSI G (dc d_Wo_decreed 1 rfl) mi_Wo_mirrored ms_Wo_mirrored ml_RX9_16 (c_Wo_mirrored (gst G)  e1) rfl rfl ⟨rfl, rfl⟩ rfl ⟨rfl, rfl⟩ ⟨rfl, rfl⟩ ?_
  refine k_istore G (dc d_Wo_decreed 2 rfl) (ls' := [(5, .int x2), (0, .int p0), (1, .int p1), (2, .int p2), (3, .int p3), (4, .int p4)]) rfl rfl ?_
  refine k_iload_n G (dc d_Wo_decreed 3 rfl) 1 rfl rfl ?_
  by_cases c3 : p0 = 0
  · replace h := kOk_p c3 h
    refine k_lkI G (dc d_Wo_decreed 4 rfl) (off := 28) (tgt := 36) c3 (by decide) (by decide) (by decide) ?_
    refine k_iload G (dc d_Wo_decreed 5 rfl) 0 rfl ?_
    refine k_iload_n G (dc d_Wo_decreed 6 rfl) 2 rfl rfl ?_
    obtain ⟨x5, e4, h⟩ := kOk_b h
    refine k_cSI G (dc d_Wo_decreed 7 rfl) mi_Wo_dropped ms_Wo_dropped ml_RX9_20 (c_Wo_dropped (gst G)  e4) rfl rfl ⟨rfl, rfl⟩ rfl ⟨rfl, rfl⟩ ⟨rfl, rfl⟩ ?_
    exact (kOk_s h) _ _ _ _ rfl rfl rfl (dc d_Wo_decreed 8 rfl)
  · replace h := kOk_n c3 h
    by_cases c6 : p0 = 1
    · replace h := kOk_p c6 h
      refine k_lkI G (dc d_Wo_decreed 4 rfl) (off := 35) (tgt := 43) c6 (by decide) (by decide) (by decide) ?_
      refine k_iload G (dc d_Wo_decreed 9 rfl) 0 rfl ?_
      refine k_iload_n G (dc d_Wo_decreed 10 rfl) 2 rfl rfl ?_
      refine k_iload_n G (dc d_Wo_decreed 11 rfl) 3 rfl rfl ?_
      refine k_iload_n G (dc d_Wo_decreed 12 rfl) 4 rfl rfl ?_
      obtain ⟨x8, e7, h⟩ := kOk_b h
      refine k_cSI G (dc d_Wo_decreed 13 rfl) mi_Wo_joined ms_Wo_joined ml_RX9_24 (c_Wo_joined (gst G)  e7) rfl rfl ⟨rfl, rfl⟩ rfl ⟨rfl, rfl⟩ ⟨rfl, rfl⟩ ?_
      exact (kOk_s h) _ _ _ _ rfl rfl rfl (dc d_Wo_decreed 14 rfl)
    · replace h := kOk_n c6 h
      refine k_lkO G (dc d_Wo_decreed 4 rfl) (tgt := 52) (fun q hq => ?_) (by decide) (by decide) ?_
      · simp only [List.mem_cons, List.not_mem_nil, or_false] at hq
        rcases hq with rfl | rfl
        · exact fun h9 => c3 (h9.trans cI_0)
        · exact fun h9 => c6 (h9.trans cI_1)
      · refine k_iload G (dc d_Wo_decreed 15 rfl) 0 rfl ?_
        refine k_iload_n G (dc d_Wo_decreed 16 rfl) 2 rfl rfl ?_
        obtain ⟨x10, e9, h⟩ := kOk_b h
        refine k_cSI G (dc d_Wo_decreed 17 rfl) mi_Wo_single ms_Wo_single ml_RX9_28 (c_Wo_single (gst G)  e9) rfl rfl ⟨rfl, rfl⟩ rfl ⟨rfl, rfl⟩ ⟨rfl, rfl⟩ ?_
        exact (kOk_s h) _ _ _ _ rfl rfl rfl (dc d_Wo_decreed 18 rfl)
theorem c_Wo_decreed {l : Launch} {B : KB} {L : KLay} {M : KMem} {p0 : Int32} {p1 : Int32} {p2 : Int32} {p3 : Int32} {p4 : Int32} (hst : l.stackTraces = false)  {r : Int32} (e : m_Wo_decreed p0 p1 p2 p3 p4 = some r) : CtrN l B yX9_decreed cX9_decreed 6 (some .int) rm_Wo_decreed [.int p0, .int p1, .int p2, .int p3, .int p4] L M (some (.int r)) L M :=
  mk_I rfl hst rfl (fun X hl G _ R => b_Wo_decreed G  ⟨_, e, R⟩)
def I_Wo_letters : List (Nat × Instr × Nat) := [(0, .iconst 0, 1), (1, .istore_n 1, 1), (2, .iload_n 0, 1), (3, .istore_n 2, 1), (4, .iconst 0, 1), (5, .istore_n 3, 1), (6, .iload_n 3, 1), (7, .bipush 8, 2), (9, .if_icmp .ge 21, 3), (12, .iload_n 2, 1), (13, .ifCond .eq 17, 3), (16, .iinc 1 1, 3), (19, .iload_n 2, 1), (20, .bipush 10, 2), (22, .idiv, 1), (23, .istore_n 2, 1), (24, .iinc 3 1, 3), (27, .goto (-21), 3), (30, .iload_n 1, 1), (31, .ireturn, 1)]
set_option maxRecDepth 100000 in
theorem d_Wo_letters : decA cX9_letters I_Wo_letters = true := by decide +kernel
abbrev rm_Wo_letters : Room := ({ frames := 0, cells := 0, slots := 0, locals := 0 } : Room)
def m_Wo_letters_l6  : (Int32 × Int32 × Int32) → Option ((Int32 × Int32 × Int32) ⊕ Int32) := fun (v1_1, v2_2, v3_3) =>
 if 8 ≤ v3_3 then
 (some (.inr v1_1))
 else
 (if v2_2 = 0 then
 (some (.inr v1_1))
 else
 (some (.inl (v1_1 + 1, v2_2 / 10, v3_3 + 1))))
def m_Wo_letters (p0 : Int32) : Option Int32 :=
 Option.bind (α := Int32) (kLp m_Wo_letters_l6 kFU (0, p0, 0)) fun v1_6 =>
 some v1_6
set_option maxHeartbeats 4000000 in
set_option maxRecDepth 100000 in
theorem b_Wo_letters {X : KX} {B : KB} {L : KLay} {M : KMem} {p0 : Int32} (G : Good X B RX9 cX9_letters 4 rm_Wo_letters)  (h : kOk (m_Wo_letters p0) (fun r => RI X B L 4 cX9_letters .int rm_Wo_letters r M)) : KK X B L 4 0 0 M 0 [(0, .int p0)] [] := by
  unfold m_Wo_letters at h
  refine k_iconst G (dc d_Wo_letters 0 rfl) cI_0 ?_
  refine k_istore_n G (dc d_Wo_letters 1 rfl) (ls' := [(1, .int 0), (0, .int p0)]) rfl rfl rfl ?_
  refine k_iload_n G (dc d_Wo_letters 2 rfl) 1 rfl rfl ?_
  refine k_istore_n G (dc d_Wo_letters 3 rfl) (ls' := [(2, .int p0), (1, .int 0), (0, .int p0)]) rfl rfl rfl ?_
  refine k_iconst G (dc d_Wo_letters 4 rfl) cI_0 ?_
  refine k_istore_n G (dc d_Wo_letters 5 rfl) (ls' := [(3, .int 0), (2, .int p0), (1, .int 0), (0, .int p0)]) rfl rfl rfl ?_
  refine kJ h (fun r7 => KK X B L 4 0 0 M 30 [(1, .int r7)] []) (fun r7 h => ?_) (fun h => ?_)
  · obtain ⟨v1_6, rfl⟩ : ∃ z, z = r7 := ⟨_, rfl⟩
    show KK X B L 4 0 0 M 30 [(1, .int v1_6)] []
    refine k_iload_n G (dc d_Wo_letters 18 rfl) 0 rfl rfl ?_
    exact (kOk_s h) _ _ _ _ rfl rfl rfl (dc d_Wo_letters 19 rfl)
  · refine k_sub [2, 1, 0] rfl ?_
    refine kLp_ok (P := fun s8 => KK X B L 4 0 0 M 6 [(1, .int s8.1), (2, .int s8.2.1), (3, .int s8.2.2)] []) (fun s8 h => ?_) kFU _ h
    obtain ⟨v1_1, v2_2, v3_3⟩ := s8
    unfold m_Wo_letters_l6 at h
    show KK X B L 4 0 0 M 6 [(1, .int v1_1), (2, .int v2_2), (3, .int v3_3)] []
    refine k_iload_n G (dc d_Wo_letters 6 rfl) 2 rfl rfl ?_
    refine k_bipush G (dc d_Wo_letters 7 rfl) cB_8 ?_
    refine k_icmp_ge G (dc d_Wo_letters 8 rfl) (tgt := 30) rfl (fun c4 => ?_) (fun c4 => ?_)
    · replace h := kOk_p c4 h
      refine k_sub [0] rfl ?_
      have h9 := kOk_s h
      exact h9
    · replace h := kOk_n c4 h
      refine k_iload_n G (dc d_Wo_letters 9 rfl) 1 rfl rfl ?_
      refine k_if_eq G (dc d_Wo_letters 10 rfl) (tgt := 30) rfl (fun c5 => ?_) (fun c5 => ?_)
      · replace h := kOk_p c5 h
        refine k_sub [0] rfl ?_
        have h9 := kOk_s h
        exact h9
      · replace h := kOk_n c5 h
        refine k_iinc G (dc d_Wo_letters 11 rfl) (ls' := [(1, .int (v1_1 + 1)), (2, .int v2_2), (3, .int v3_3)]) 0 rfl cI_1 rfl rfl ?_
        refine k_iload_n G (dc d_Wo_letters 12 rfl) 1 rfl rfl ?_
        refine k_bipush G (dc d_Wo_letters 13 rfl) cB_10 ?_
        refine k_idiv G (dc d_Wo_letters 14 rfl) czI_10 ?_
        refine k_istore_n G (dc d_Wo_letters 15 rfl) (ls' := [(2, .int (v2_2 / 10)), (1, .int (v1_1 + 1)), (3, .int v3_3)]) rfl rfl rfl ?_
        refine k_iinc G (dc d_Wo_letters 16 rfl) (ls' := [(3, .int (v3_3 + 1)), (2, .int (v2_2 / 10)), (1, .int (v1_1 + 1))]) 2 rfl cI_1 rfl rfl ?_
        refine k_goto G (dc d_Wo_letters 17 rfl) (tgt := 6) rfl ?_
        refine k_sub [2, 1, 0] rfl ?_
        have h9 := kOk_s h
        exact h9
theorem c_Wo_letters {l : Launch} {B : KB} {L : KLay} {M : KMem} {p0 : Int32} (hst : l.stackTraces = false)  {r : Int32} (e : m_Wo_letters p0 = some r) : CtrN l B yX9_letters cX9_letters 4 (some .int) rm_Wo_letters [.int p0] L M (some (.int r)) L M :=
  mk_I rfl hst rfl (fun X hl G _ R => b_Wo_letters G  ⟨_, e, R⟩)
def I_Wo_isWord : List (Nat × Instr × Nat) := [(0, .iload_n 0, 1), (1, .iconst 1, 1), (2, .if_icmp .lt 9, 3), (5, .iload_n 0, 1), (6, .ldc 9, 2), (8, .if_icmp .le 5, 3), (11, .iconst 0, 1), (12, .ireturn, 1), (13, .iload_n 0, 1), (14, .istore_n 1, 1), (15, .iconst 0, 1), (16, .istore_n 2, 1), (17, .iload_n 2, 1), (18, .bipush 8, 2), (20, .if_icmp .ge 30, 3), (23, .iload_n 1, 1), (24, .ifCond .eq 26, 3), (27, .iload_n 1, 1), (28, .bipush 10, 2), (30, .irem, 1), (31, .invokestatic 10, 3), (34, .ifCond .ne 5, 3), (37, .iconst 0, 1), (38, .ireturn, 1), (39, .iload_n 1, 1), (40, .bipush 10, 2), (42, .idiv, 1), (43, .istore_n 1, 1), (44, .iinc 2 1, 3), (47, .goto (-30), 3), (50, .iconst 1, 1), (51, .ireturn, 1)]
set_option maxRecDepth 100000 in
theorem d_Wo_isWord : decA cX9_isWord I_Wo_isWord = true := by decide +kernel
abbrev rm_Wo_isWord : Room := ({ frames := 1, cells := 0, slots := 0, locals := 20 } : Room)
def m_Wo_isWord_l17  : (Int32 × Int32) → Option ((Int32 × Int32) ⊕ (Int32 ⊕ Unit)) := fun (v1_5, v2_6) =>
 if 8 ≤ v2_6 then
 (some (.inr (.inr ())))
 else
 (if v1_5 = 0 then
 (some (.inr (.inr ())))
 else
 (Option.bind (m_Wo_isLetter (jrem v1_5 10)) fun x10 =>
 if x10 = 0 then
 (Option.bind (kz 0) fun z12 =>
 some (.inr (.inl z12)))
 else
 (some (.inl (v1_5 / 10, v2_6 + 1)))))
def m_Wo_isWord (p0 : Int32) : Option Int32 :=
 if p0 < 1 then
 (Option.bind (kz 0) fun z2 =>
 some z2)
 else
 (if p0 ≤ 66666666 then
 (Option.bind (α := Int32 ⊕ Unit) (kLp m_Wo_isWord_l17 kFU (p0, 0)) fun r => match r with
 | .inl q => some q
 | .inr _ =>
 (Option.bind (kz 1) fun z14 =>
 some z14))
 else
 (Option.bind (kz 0) fun z18 =>
 some z18))
set_option maxHeartbeats 4000000 in
set_option maxRecDepth 100000 in
theorem b_Wo_isWord {X : KX} {B : KB} {L : KLay} {M : KMem} {p0 : Int32} (G : Good X B RX9 cX9_isWord 3 rm_Wo_isWord)  (h : kOk (m_Wo_isWord p0) (fun r => RI X B L 3 cX9_isWord .boolean rm_Wo_isWord r M)) : KK X B L 3 0 0 M 0 [(0, .int p0)] [] := by
  unfold m_Wo_isWord at h
  refine k_iload_n G (dc d_Wo_isWord 0 rfl) 0 rfl rfl ?_
  refine k_iconst G (dc d_Wo_isWord 1 rfl) cI_1 ?_
  refine k_icmp_lt G (dc d_Wo_isWord 2 rfl) (tgt := 11) rfl (fun c1 => ?_) (fun c1 => ?_)
  · replace h := kOk_p c1 h
    refine k_iconst G (dc d_Wo_isWord 6 rfl) cI_0 ?_
    obtain ⟨z2, e3, h⟩ := kOk_b h
    obtain ⟨e3, nz2⟩ := kz_ok e3
    rw [e3]
    exact (kOk_s h) _ _ _ _ rfl rfl nz2 (dc d_Wo_isWord 7 rfl)
  · replace h := kOk_n c1 h
    refine k_iload_n G (dc d_Wo_isWord 3 rfl) 0 rfl rfl ?_
    refine k_ldc G (dc d_Wo_isWord 4 rfl) ld_RX9_9 ?_
    refine k_icmp_le G (dc d_Wo_isWord 5 rfl) (tgt := 13) rfl (fun c4 => ?_) (fun c4 => ?_)
    · replace h := kOk_p c4 h
      refine k_iload_n G (dc d_Wo_isWord 8 rfl) 0 rfl rfl ?_
      refine k_istore_n G (dc d_Wo_isWord 9 rfl) (ls' := [(1, .int p0), (0, .int p0)]) rfl rfl rfl ?_
      refine k_iconst G (dc d_Wo_isWord 10 rfl) cI_0 ?_
      refine k_istore_n G (dc d_Wo_isWord 11 rfl) (ls' := [(2, .int 0), (1, .int p0), (0, .int p0)]) rfl rfl rfl ?_
      refine kJ h (fun r16 => match r16 with | .inl q => RI X B L 3 cX9_isWord .boolean rm_Wo_isWord q M | .inr r16 => KK X B L 3 0 0 M 50 [] []) (fun r16 h => ?_) (fun h => ?_)
      · rcases r16 with q | r16
        · have h9 := kOk_s h
          exact h9
        · show KK X B L 3 0 0 M 50 [] []
          refine k_iconst G (dc d_Wo_isWord 30 rfl) cI_1 ?_
          obtain ⟨z14, e15, h⟩ := kOk_b h
          obtain ⟨e15, nz14⟩ := kz_ok e15
          rw [e15]
          exact (kOk_s h) _ _ _ _ rfl rfl nz14 (dc d_Wo_isWord 31 rfl)
      · refine k_sub [1, 0] rfl ?_
        refine kLp_ok (P := fun s17 => KK X B L 3 0 0 M 17 [(1, .int s17.1), (2, .int s17.2)] []) (fun s17 h => ?_) kFU _ h
        obtain ⟨v1_5, v2_6⟩ := s17
        unfold m_Wo_isWord_l17 at h
        show KK X B L 3 0 0 M 17 [(1, .int v1_5), (2, .int v2_6)] []
        refine k_iload_n G (dc d_Wo_isWord 12 rfl) 1 rfl rfl ?_
        refine k_bipush G (dc d_Wo_isWord 13 rfl) cB_8 ?_
        refine k_icmp_ge G (dc d_Wo_isWord 14 rfl) (tgt := 50) rfl (fun c7 => ?_) (fun c7 => ?_)
        · replace h := kOk_p c7 h
          refine k_sub [] rfl ?_
          have h9 := kOk_s h
          exact h9
        · replace h := kOk_n c7 h
          refine k_iload_n G (dc d_Wo_isWord 15 rfl) 0 rfl rfl ?_
          refine k_if_eq G (dc d_Wo_isWord 16 rfl) (tgt := 50) rfl (fun c8 => ?_) (fun c8 => ?_)
          · replace h := kOk_p c8 h
            refine k_sub [] rfl ?_
            have h9 := kOk_s h
            exact h9
          · replace h := kOk_n c8 h
            refine k_iload_n G (dc d_Wo_isWord 17 rfl) 0 rfl rfl ?_
            refine k_bipush G (dc d_Wo_isWord 18 rfl) cB_10 ?_
            refine k_irem G (dc d_Wo_isWord 19 rfl) czI_10 ?_
            obtain ⟨x10, e9, h⟩ := kOk_b h
            refine k_cSI G (dc d_Wo_isWord 20 rfl) mi_Wo_isLetter ms_Wo_isLetter ml_RX9_10 (c_Wo_isLetter (gst G)  e9) rfl rfl ⟨rfl, rfl⟩ rfl ⟨rfl, rfl⟩ ⟨rfl, rfl⟩ ?_
            refine k_if_ne G (dc d_Wo_isWord 21 rfl) (tgt := 39) rfl (fun c11 => ?_) (fun c11 => ?_)
            · replace h := kOk_n c11 h
              refine k_iload_n G (dc d_Wo_isWord 24 rfl) 0 rfl rfl ?_
              refine k_bipush G (dc d_Wo_isWord 25 rfl) cB_10 ?_
              refine k_idiv G (dc d_Wo_isWord 26 rfl) czI_10 ?_
              refine k_istore_n G (dc d_Wo_isWord 27 rfl) (ls' := [(1, .int (v1_5 / 10)), (2, .int v2_6)]) rfl rfl rfl ?_
              refine k_iinc G (dc d_Wo_isWord 28 rfl) (ls' := [(2, .int (v2_6 + 1)), (1, .int (v1_5 / 10))]) 1 rfl cI_1 rfl rfl ?_
              refine k_goto G (dc d_Wo_isWord 29 rfl) (tgt := 17) rfl ?_
              refine k_sub [1, 0] rfl ?_
              have h9 := kOk_s h
              exact h9
            · replace h := kOk_p c11 h
              refine k_iconst G (dc d_Wo_isWord 22 rfl) cI_0 ?_
              obtain ⟨z12, e13, h⟩ := kOk_b h
              obtain ⟨e13, nz12⟩ := kz_ok e13
              rw [e13]
              exact (kOk_s h) _ _ _ _ rfl rfl nz12 (dc d_Wo_isWord 23 rfl)
    · replace h := kOk_n c4 h
      refine k_iconst G (dc d_Wo_isWord 6 rfl) cI_0 ?_
      obtain ⟨z18, e19, h⟩ := kOk_b h
      obtain ⟨e19, nz18⟩ := kz_ok e19
      rw [e19]
      exact (kOk_s h) _ _ _ _ rfl rfl nz18 (dc d_Wo_isWord 7 rfl)
theorem c_Wo_isWord {l : Launch} {B : KB} {L : KLay} {M : KMem} {p0 : Int32} (hst : l.stackTraces = false)  {r : Int32} (e : m_Wo_isWord p0 = some r) : CtrN l B yX9_isWord cX9_isWord 3 (some .boolean) rm_Wo_isWord [.int p0] L M (some (.int r)) L M :=
  mk_I rfl hst rfl (fun X hl G _ R => b_Wo_isWord G  ⟨_, e, R⟩)
end
section
/-! laid by wip/whole/lay.py: De_canBe, De_has, De_areFull, De_number, De_add, De_remove, De_spellingWithout, De_spellingOf, De_copyFrom -/
def I_De_canBe : List (Nat × Instr × Nat) := [(0, .iload_n 0, 1), (1, .ifCond .lt 15, 3), (4, .iload_n 0, 1), (5, .iconst 2, 1), (6, .if_icmp .gt 10, 3), (9, .iload_n 1, 1), (10, .invokestatic 15, 3), (13, .ifCond .ne 5, 3), (16, .iconst 0, 1), (17, .ireturn, 1), (18, .iload_n 0, 1), (19, .iconst 1, 1), (20, .if_icmp .ne 23, 3), (23, .iload_n 2, 1), (24, .invokestatic 15, 3), (27, .ifCond .eq 14, 3), (30, .iload_n 3, 1), (31, .invokestatic 15, 3), (34, .ifCond .eq 7, 3), (37, .iconst 1, 1), (38, .goto 4, 3), (41, .iconst 0, 1), (42, .ireturn, 1), (43, .iload_n 2, 1), (44, .ifCond .ne 11, 3), (47, .iload_n 3, 1), (48, .ifCond .ne 7, 3), (51, .iconst 1, 1), (52, .goto 4, 3), (55, .iconst 0, 1), (56, .ireturn, 1)]
set_option maxRecDepth 100000 in
theorem d_De_canBe : decA cX0_canBe I_De_canBe = true := by decide +kernel
abbrev rm_De_canBe : Room := ({ frames := 1, cells := 0, slots := 0, locals := 20 } : Room)
def m_De_canBe (p0 : Int32) (p1 : Int32) (p2 : Int32) (p3 : Int32) : Option Int32 :=
 if p0 < 0 then
 (Option.bind (kz 0) fun z2 =>
 some z2)
 else
 (if 2 < p0 then
 (Option.bind (kz 0) fun z5 =>
 some z5)
 else
 (Option.bind (m_Wo_isLetter p1) fun x8 =>
 if x8 = 0 then
 (Option.bind (kz 0) fun z27 =>
 some z27)
 else
 (if p0 = 1 then
 (Option.bind (m_Wo_isLetter p2) fun x18 =>
 Option.bind (α := Int32) (if x18 = 0 then
 (some 0)
 else
 (Option.bind (m_Wo_isLetter p3) fun x25 =>
 if x25 = 0 then
 (some 0)
 else
 (some 1))) fun t19 =>
 Option.bind (kz t19) fun z21 =>
 some z21)
 else
 (Option.bind (α := Int32) (if p2 = 0 then
 (if p3 = 0 then
 (some 1)
 else
 (some 0))
 else
 (some 0)) fun t11 =>
 Option.bind (kz t11) fun z13 =>
 some z13))))
set_option maxHeartbeats 4000000 in
set_option maxRecDepth 100000 in
theorem b_De_canBe {X : KX} {B : KB} {L : KLay} {M : KMem} {p0 : Int32} {p1 : Int32} {p2 : Int32} {p3 : Int32} (G : Good X B RX0 cX0_canBe 4 rm_De_canBe)  (h : kOk (m_De_canBe p0 p1 p2 p3) (fun r => RI X B L 4 cX0_canBe .boolean rm_De_canBe r M)) : KK X B L 4 0 0 M 0 [(0, .int p0), (1, .int p1), (2, .int p2), (3, .int p3)] [] := by
  unfold m_De_canBe at h
  refine k_iload_n G (dc d_De_canBe 0 rfl) 0 rfl rfl ?_
  refine k_if_lt G (dc d_De_canBe 1 rfl) (tgt := 16) rfl (fun c1 => ?_) (fun c1 => ?_)
  · replace h := kOk_p c1 h
    refine k_iconst G (dc d_De_canBe 8 rfl) cI_0 ?_
    obtain ⟨z2, e3, h⟩ := kOk_b h
    obtain ⟨e3, nz2⟩ := kz_ok e3
    rw [e3]
    exact (kOk_s h) _ _ _ _ rfl rfl nz2 (dc d_De_canBe 9 rfl)
  · replace h := kOk_n c1 h
    refine k_iload_n G (dc d_De_canBe 2 rfl) 0 rfl rfl ?_
    refine k_iconst G (dc d_De_canBe 3 rfl) cI_2 ?_
    refine k_icmp_gt G (dc d_De_canBe 4 rfl) (tgt := 16) rfl (fun c4 => ?_) (fun c4 => ?_)
    · replace h := kOk_p c4 h
      refine k_iconst G (dc d_De_canBe 8 rfl) cI_0 ?_
      obtain ⟨z5, e6, h⟩ := kOk_b h
      obtain ⟨e6, nz5⟩ := kz_ok e6
      rw [e6]
      exact (kOk_s h) _ _ _ _ rfl rfl nz5 (dc d_De_canBe 9 rfl)
    · replace h := kOk_n c4 h
      refine k_iload_n G (dc d_De_canBe 5 rfl) 1 rfl rfl ?_
      obtain ⟨x8, e7, h⟩ := kOk_b h
      refine k_cSI G (dc d_De_canBe 6 rfl) mi_Wo_isLetter ms_Wo_isLetter ml_RX0_15 (c_Wo_isLetter (gst G)  e7) rfl rfl ⟨rfl, rfl⟩ rfl ⟨rfl, rfl⟩ ⟨rfl, rfl⟩ ?_
      refine k_if_ne G (dc d_De_canBe 7 rfl) (tgt := 18) rfl (fun c9 => ?_) (fun c9 => ?_)
      · replace h := kOk_n c9 h
        refine k_iload_n G (dc d_De_canBe 10 rfl) 0 rfl rfl ?_
        refine k_iconst G (dc d_De_canBe 11 rfl) cI_1 ?_
        refine k_icmp_ne G (dc d_De_canBe 12 rfl) (tgt := 43) rfl (fun c10 => ?_) (fun c10 => ?_)
        · replace h := kOk_n c10 h
          refine k_iload_n G (dc d_De_canBe 23 rfl) 2 rfl rfl ?_
          refine kJ h (fun r12 => KK X B L 4 0 0 M 56 [] [.int r12]) (fun r12 h => ?_) (fun h => ?_)
          · obtain ⟨t11, rfl⟩ : ∃ z, z = r12 := ⟨_, rfl⟩
            show KK X B L 4 0 0 M 56 [] [.int t11]
            obtain ⟨z13, e14, h⟩ := kOk_b h
            obtain ⟨e14, nz13⟩ := kz_ok e14
            rw [e14]
            exact (kOk_s h) _ _ _ _ rfl rfl nz13 (dc d_De_canBe 30 rfl)
          · refine k_if_ne G (dc d_De_canBe 24 rfl) (tgt := 55) rfl (fun c15 => ?_) (fun c15 => ?_)
            · replace h := kOk_n c15 h
              refine k_iconst G (dc d_De_canBe 29 rfl) cI_0 ?_
              refine k_sub [] rfl ?_
              have h9 := kOk_s h
              exact h9
            · replace h := kOk_p c15 h
              refine k_iload_n G (dc d_De_canBe 25 rfl) 3 rfl rfl ?_
              refine k_if_ne G (dc d_De_canBe 26 rfl) (tgt := 55) rfl (fun c16 => ?_) (fun c16 => ?_)
              · replace h := kOk_n c16 h
                refine k_iconst G (dc d_De_canBe 29 rfl) cI_0 ?_
                refine k_sub [] rfl ?_
                have h9 := kOk_s h
                exact h9
              · replace h := kOk_p c16 h
                refine k_iconst G (dc d_De_canBe 27 rfl) cI_1 ?_
                refine k_goto G (dc d_De_canBe 28 rfl) (tgt := 56) rfl ?_
                refine k_sub [] rfl ?_
                have h9 := kOk_s h
                exact h9
        · replace h := kOk_p c10 h
          refine k_iload_n G (dc d_De_canBe 13 rfl) 2 rfl rfl ?_
          obtain ⟨x18, e17, h⟩ := kOk_b h
          refine k_cSI G (dc d_De_canBe 14 rfl) mi_Wo_isLetter ms_Wo_isLetter ml_RX0_15 (c_Wo_isLetter (gst G)  e17) rfl rfl ⟨rfl, rfl⟩ rfl ⟨rfl, rfl⟩ ⟨rfl, rfl⟩ ?_
          refine kJ h (fun r20 => KK X B L 4 0 0 M 42 [] [.int r20]) (fun r20 h => ?_) (fun h => ?_)
          · obtain ⟨t19, rfl⟩ : ∃ z, z = r20 := ⟨_, rfl⟩
            show KK X B L 4 0 0 M 42 [] [.int t19]
            obtain ⟨z21, e22, h⟩ := kOk_b h
            obtain ⟨e22, nz21⟩ := kz_ok e22
            rw [e22]
            exact (kOk_s h) _ _ _ _ rfl rfl nz21 (dc d_De_canBe 22 rfl)
          · refine k_if_eq G (dc d_De_canBe 15 rfl) (tgt := 41) rfl (fun c23 => ?_) (fun c23 => ?_)
            · replace h := kOk_p c23 h
              refine k_iconst G (dc d_De_canBe 21 rfl) cI_0 ?_
              refine k_sub [] rfl ?_
              have h9 := kOk_s h
              exact h9
            · replace h := kOk_n c23 h
              refine k_iload_n G (dc d_De_canBe 16 rfl) 3 rfl rfl ?_
              obtain ⟨x25, e24, h⟩ := kOk_b h
              refine k_cSI G (dc d_De_canBe 17 rfl) mi_Wo_isLetter ms_Wo_isLetter ml_RX0_15 (c_Wo_isLetter (gst G)  e24) rfl rfl ⟨rfl, rfl⟩ rfl ⟨rfl, rfl⟩ ⟨rfl, rfl⟩ ?_
              refine k_if_eq G (dc d_De_canBe 18 rfl) (tgt := 41) rfl (fun c26 => ?_) (fun c26 => ?_)
              · replace h := kOk_p c26 h
                refine k_iconst G (dc d_De_canBe 21 rfl) cI_0 ?_
                refine k_sub [] rfl ?_
                have h9 := kOk_s h
                exact h9
              · replace h := kOk_n c26 h
                refine k_iconst G (dc d_De_canBe 19 rfl) cI_1 ?_
                refine k_goto G (dc d_De_canBe 20 rfl) (tgt := 42) rfl ?_
                refine k_sub [] rfl ?_
                have h9 := kOk_s h
                exact h9
      · replace h := kOk_p c9 h
        refine k_iconst G (dc d_De_canBe 8 rfl) cI_0 ?_
        obtain ⟨z27, e28, h⟩ := kOk_b h
        obtain ⟨e28, nz27⟩ := kz_ok e28
        rw [e28]
        exact (kOk_s h) _ _ _ _ rfl rfl nz27 (dc d_De_canBe 9 rfl)
theorem c_De_canBe {l : Launch} {B : KB} {L : KLay} {M : KMem} {p0 : Int32} {p1 : Int32} {p2 : Int32} {p3 : Int32} (hst : l.stackTraces = false)  {r : Int32} (e : m_De_canBe p0 p1 p2 p3 = some r) : CtrN l B yX0_canBe cX0_canBe 4 (some .boolean) rm_De_canBe [.int p0, .int p1, .int p2, .int p3] L M (some (.int r)) L M :=
  mk_I rfl hst rfl (fun X hl G _ R => b_De_canBe G  ⟨_, e, R⟩)
def I_De_has : List (Nat × Instr × Nat) := [(0, .iload_n 1, 1), (1, .ifCond .lt 15, 3), (4, .iload_n 1, 1), (5, .aload_n 0, 1), (6, .getfield 21, 3), (9, .if_icmp .ge 7, 3), (12, .iconst 1, 1), (13, .goto 4, 3), (16, .iconst 0, 1), (17, .ireturn, 1)]
set_option maxRecDepth 100000 in
theorem d_De_has : decA cX0_has I_De_has = true := by decide +kernel
abbrev rm_De_has : Room := ({ frames := 0, cells := 0, slots := 0, locals := 0 } : Room)
def m_De_has (u : Nat) (p0 : Int32) (M : KMem) : Option Int32 :=
 Option.bind (α := Int32) (if p0 < 0 then
 (some 0)
 else
 (if (M u 0) ≤ p0 then
 (some 0)
 else
 (some 1))) fun t1 =>
 Option.bind (kz t1) fun z3 =>
 some z3
set_option maxHeartbeats 4000000 in
set_option maxRecDepth 100000 in
theorem b_De_has {X : KX} {B : KB} {L : KLay} {M : KMem} {u : Nat} {p0 : Int32} (G : Good X B RX0 cX0_has 2 rm_De_has) (hu : okL L u deT) (h : kOk (m_De_has u p0 M) (fun r => RI X B L 2 cX0_has .boolean rm_De_has r M)) : KK X B L 2 0 0 M 0 [(0, .ref (B.1 + u)), (1, .int p0)] [] := by
  unfold m_De_has at h
  refine k_iload_n G (dc d_De_has 0 rfl) 1 rfl rfl ?_
  refine kJ h (fun r2 => KK X B L 2 0 0 M 17 [] [.int r2]) (fun r2 h => ?_) (fun h => ?_)
  · obtain ⟨t1, rfl⟩ : ∃ z, z = r2 := ⟨_, rfl⟩
    show KK X B L 2 0 0 M 17 [] [.int t1]
    obtain ⟨z3, e4, h⟩ := kOk_b h
    obtain ⟨e4, nz3⟩ := kz_ok e4
    rw [e4]
    exact (kOk_s h) _ _ _ _ rfl rfl nz3 (dc d_De_has 9 rfl)
  · refine k_if_lt G (dc d_De_has 1 rfl) (tgt := 16) rfl (fun c5 => ?_) (fun c5 => ?_)
    · replace h := kOk_p c5 h
      refine k_iconst G (dc d_De_has 8 rfl) cI_0 ?_
      refine k_sub [] rfl ?_
      have h9 := kOk_s h
      exact h9
    · replace h := kOk_n c5 h
      refine k_iload_n G (dc d_De_has 2 rfl) 1 rfl rfl ?_
      refine k_aload_n G (dc d_De_has 3 rfl) 0 rfl rfl ?_
      refine k_getI G kc0 (dc d_De_has 4 rfl) (okL_lt hu (o := 0) 0 rfl) (okL_k hu (o := 0) 0 rfl) 0 (by decide) rfl fl_RX0_21 ?_
      refine k_icmp_ge G (dc d_De_has 5 rfl) (tgt := 16) rfl (fun c6 => ?_) (fun c6 => ?_)
      · replace h := kOk_p c6 h
        refine k_iconst G (dc d_De_has 8 rfl) cI_0 ?_
        refine k_sub [] rfl ?_
        have h9 := kOk_s h
        exact h9
      · replace h := kOk_n c6 h
        refine k_iconst G (dc d_De_has 6 rfl) cI_1 ?_
        refine k_goto G (dc d_De_has 7 rfl) (tgt := 17) rfl ?_
        refine k_sub [] rfl ?_
        have h9 := kOk_s h
        exact h9
theorem c_De_has {l : Launch} {B : KB} {L : KLay} {M : KMem} {u : Nat} {p0 : Int32} (hst : l.stackTraces = false) (hu : okL L u deT) {r : Int32} (e : m_De_has u p0 M = some r) : CtrN l B yX0_has cX0_has 2 (some .boolean) rm_De_has [.ref (B.1 + u), .int p0] L M (some (.int r)) L M :=
  mk_I rfl hst rfl (fun X hl G _ R => b_De_has G hu ⟨_, e, R⟩)
def I_De_areFull : List (Nat × Instr × Nat) := [(0, .aload_n 0, 1), (1, .getfield 21, 3), (4, .bipush 10, 2), (6, .if_icmp .lt 7, 3), (9, .iconst 1, 1), (10, .goto 4, 3), (13, .iconst 0, 1), (14, .ireturn, 1)]
set_option maxRecDepth 100000 in
theorem d_De_areFull : decA cX0_areFull I_De_areFull = true := by decide +kernel
abbrev rm_De_areFull : Room := ({ frames := 0, cells := 0, slots := 0, locals := 0 } : Room)
def m_De_areFull (u : Nat) (M : KMem) : Option Int32 :=
 Option.bind (α := Int32) (if (M u 0) < 10 then
 (some 0)
 else
 (some 1)) fun t1 =>
 Option.bind (kz t1) fun z3 =>
 some z3
set_option maxHeartbeats 4000000 in
set_option maxRecDepth 100000 in
theorem b_De_areFull {X : KX} {B : KB} {L : KLay} {M : KMem} {u : Nat} (G : Good X B RX0 cX0_areFull 1 rm_De_areFull) (hu : okL L u deT) (h : kOk (m_De_areFull u M) (fun r => RI X B L 1 cX0_areFull .boolean rm_De_areFull r M)) : KK X B L 1 0 0 M 0 [(0, .ref (B.1 + u))] [] := by
  unfold m_De_areFull at h
  refine k_aload_n G (dc d_De_areFull 0 rfl) 0 rfl rfl ?_
  refine k_getI G kc0 (dc d_De_areFull 1 rfl) (okL_lt hu (o := 0) 0 rfl) (okL_k hu (o := 0) 0 rfl) 0 (by decide) rfl fl_RX0_21 ?_
  refine k_bipush G (dc d_De_areFull 2 rfl) cB_10 ?_
  refine kJ h (fun r2 => KK X B L 1 0 0 M 14 [] [.int r2]) (fun r2 h => ?_) (fun h => ?_)
  · obtain ⟨t1, rfl⟩ : ∃ z, z = r2 := ⟨_, rfl⟩
    show KK X B L 1 0 0 M 14 [] [.int t1]
    obtain ⟨z3, e4, h⟩ := kOk_b h
    obtain ⟨e4, nz3⟩ := kz_ok e4
    rw [e4]
    exact (kOk_s h) _ _ _ _ rfl rfl nz3 (dc d_De_areFull 7 rfl)
  · refine k_icmp_lt G (dc d_De_areFull 3 rfl) (tgt := 13) rfl (fun c5 => ?_) (fun c5 => ?_)
    · replace h := kOk_p c5 h
      refine k_iconst G (dc d_De_areFull 6 rfl) cI_0 ?_
      refine k_sub [] rfl ?_
      have h9 := kOk_s h
      exact h9
    · replace h := kOk_n c5 h
      refine k_iconst G (dc d_De_areFull 4 rfl) cI_1 ?_
      refine k_goto G (dc d_De_areFull 5 rfl) (tgt := 14) rfl ?_
      refine k_sub [] rfl ?_
      have h9 := kOk_s h
      exact h9
theorem c_De_areFull {l : Launch} {B : KB} {L : KLay} {M : KMem} {u : Nat} (hst : l.stackTraces = false) (hu : okL L u deT) {r : Int32} (e : m_De_areFull u M = some r) : CtrN l B yX0_areFull cX0_areFull 1 (some .boolean) rm_De_areFull [.ref (B.1 + u)] L M (some (.int r)) L M :=
  mk_I rfl hst rfl (fun X hl G _ R => b_De_areFull G hu ⟨_, e, R⟩)
def I_De_number : List (Nat × Instr × Nat) := [(0, .aload_n 0, 1), (1, .iload_n 1, 1), (2, .invokevirtual 25, 3), (5, .ifCond .eq 12, 3), (8, .iload_n 2, 1), (9, .ifCond .lt 8, 3), (12, .iload_n 2, 1), (13, .iconst 5, 1), (14, .if_icmp .lt 5, 3), (17, .iconst 0, 1), (18, .ireturn, 1), (19, .aload_n 0, 1), (20, .getfield 11, 3), (23, .iload_n 1, 1), (24, .iconst 5, 1), (25, .imul, 1), (26, .iload_n 2, 1), (27, .iadd, 1), (28, .iaload, 1), (29, .ireturn, 1)]
set_option maxRecDepth 100000 in
theorem d_De_number : decA cX0_number I_De_number = true := by decide +kernel
abbrev rm_De_number : Room := ({ frames := 1, cells := 0, slots := 0, locals := 21 } : Room)
def m_De_number (u : Nat) (p0 : Int32) (p1 : Int32) (M : KMem) : Option Int32 :=
 Option.bind (m_De_has u p0 M) fun x2 =>
 if x2 = 0 then
 (some 0)
 else
 (if p1 < 0 then
 (some 0)
 else
 (if p1 < 5 then
 (Option.bind (rdI M (u + 1) 50 ((p0 * 5) + p1)) fun x7 =>
 some x7)
 else
 (some 0)))
set_option maxHeartbeats 4000000 in
set_option maxRecDepth 100000 in
theorem b_De_number {X : KX} {B : KB} {L : KLay} {M : KMem} {u : Nat} {p0 : Int32} {p1 : Int32} (G : Good X B RX0 cX0_number 3 rm_De_number) (hu : okL L u deT) (h : kOk (m_De_number u p0 p1 M) (fun r => RI X B L 3 cX0_number .int rm_De_number r M)) : KK X B L 3 0 0 M 0 [(0, .ref (B.1 + u)), (1, .int p0), (2, .int p1)] [] := by
  unfold m_De_number at h
  refine k_aload_n G (dc d_De_number 0 rfl) 0 rfl rfl ?_
  refine k_iload_n G (dc d_De_number 1 rfl) 1 rfl rfl ?_
  obtain ⟨x2, e1, h⟩ := kOk_b h
  refine k_cVI G (dc d_De_number 2 rfl) kc0 (okL_lt hu (o := 0) 0 rfl) (okL_k hu (o := 0) 0 rfl) mi_De_has mv_De_has rfl ml_RX0_25 (c_De_has (gst G) hu e1) rfl rfl ⟨rfl, rfl⟩ rfl ⟨rfl, rfl⟩ ⟨rfl, rfl⟩ ?_
  refine k_if_eq G (dc d_De_number 3 rfl) (tgt := 17) rfl (fun c3 => ?_) (fun c3 => ?_)
  · replace h := kOk_p c3 h
    refine k_iconst G (dc d_De_number 9 rfl) cI_0 ?_
    exact (kOk_s h) _ _ _ _ rfl rfl rfl (dc d_De_number 10 rfl)
  · replace h := kOk_n c3 h
    refine k_iload_n G (dc d_De_number 4 rfl) 2 rfl rfl ?_
    refine k_if_lt G (dc d_De_number 5 rfl) (tgt := 17) rfl (fun c4 => ?_) (fun c4 => ?_)
    · replace h := kOk_p c4 h
      refine k_iconst G (dc d_De_number 9 rfl) cI_0 ?_
      exact (kOk_s h) _ _ _ _ rfl rfl rfl (dc d_De_number 10 rfl)
    · replace h := kOk_n c4 h
      refine k_iload_n G (dc d_De_number 6 rfl) 2 rfl rfl ?_
      refine k_iconst G (dc d_De_number 7 rfl) cI_5 ?_
      refine k_icmp_lt G (dc d_De_number 8 rfl) (tgt := 19) rfl (fun c5 => ?_) (fun c5 => ?_)
      · replace h := kOk_p c5 h
        refine k_aload_n G (dc d_De_number 11 rfl) 0 rfl rfl ?_
        refine k_getR G kc0 (dc d_De_number 12 rfl) (okL_lt hu (o := 0) 0 rfl) (okL_k hu (o := 0) 0 rfl) 1 (by decide) rfl fl_RX0_11 (u + 1) (okL_r hu (o := 0) (c := 1) 0 rfl 0 rfl) ?_
        refine k_iload_n G (dc d_De_number 13 rfl) 1 rfl rfl ?_
        refine k_iconst G (dc d_De_number 14 rfl) cI_5 ?_
        refine k_imul G (dc d_De_number 15 rfl) ?_
        refine k_iload_n G (dc d_De_number 16 rfl) 2 rfl rfl ?_
        refine k_iadd G (dc d_De_number 17 rfl) ?_
        obtain ⟨x7, e6, h⟩ := kOk_b h
        refine k_ild G (dc d_De_number 18 rfl) (okL_lt hu (o := 1) 1 rfl) (okL_k hu (o := 1) 1 rfl) (okL_n hu (o := 1) 1 rfl) e6 ?_
        exact (kOk_s h) _ _ _ _ rfl rfl rfl (dc d_De_number 19 rfl)
      · replace h := kOk_n c5 h
        refine k_iconst G (dc d_De_number 9 rfl) cI_0 ?_
        exact (kOk_s h) _ _ _ _ rfl rfl rfl (dc d_De_number 10 rfl)
theorem c_De_number {l : Launch} {B : KB} {L : KLay} {M : KMem} {u : Nat} {p0 : Int32} {p1 : Int32} (hst : l.stackTraces = false) (hu : okL L u deT) {r : Int32} (e : m_De_number u p0 p1 M = some r) : CtrN l B yX0_number cX0_number 3 (some .int) rm_De_number [.ref (B.1 + u), .int p0, .int p1] L M (some (.int r)) L M :=
  mk_I rfl hst rfl (fun X hl G _ R => b_De_number G hu ⟨_, e, R⟩)
def I_De_add : List (Nat × Instr × Nat) := [(0, .aload_n 0, 1), (1, .invokevirtual 28, 3), (4, .ifCond .eq 4, 3), (7, .return_, 1), (8, .aload_n 0, 1), (9, .getfield 21, 3), (12, .iconst 5, 1), (13, .imul, 1), (14, .istore 6, 2), (16, .aload_n 0, 1), (17, .getfield 11, 3), (20, .iload 6, 2), (22, .iload_n 1, 1), (23, .iastore, 1), (24, .aload_n 0, 1), (25, .getfield 11, 3), (28, .iload 6, 2), (30, .iconst 1, 1), (31, .iadd, 1), (32, .iload_n 2, 1), (33, .iastore, 1), (34, .aload_n 0, 1), (35, .getfield 11, 3), (38, .iload 6, 2), (40, .iconst 2, 1), (41, .iadd, 1), (42, .iload_n 3, 1), (43, .iastore, 1), (44, .aload_n 0, 1), (45, .getfield 11, 3), (48, .iload 6, 2), (50, .iconst 3, 1), (51, .iadd, 1), (52, .iload 4, 2), (54, .iastore, 1), (55, .aload_n 0, 1), (56, .getfield 11, 3), (59, .iload 6, 2), (61, .iconst 4, 1), (62, .iadd, 1), (63, .iload 5, 2), (65, .iastore, 1), (66, .aload_n 0, 1), (67, .dup, 1), (68, .getfield 21, 3), (71, .iconst 1, 1), (72, .iadd, 1), (73, .putfield 21, 3), (76, .return_, 1)]
set_option maxRecDepth 100000 in
theorem d_De_add : decA cX0_add I_De_add = true := by decide +kernel
abbrev rm_De_add : Room := ({ frames := 1, cells := 0, slots := 0, locals := 20 } : Room)
def m_De_add (u : Nat) (p0 : Int32) (p1 : Int32) (p2 : Int32) (p3 : Int32) (p4 : Int32) (M : KMem) : Option KMem :=
 Option.bind (m_De_areFull u M) fun x2 =>
 if x2 = 0 then
 (Option.bind (wrI M (u + 1) 50 ((M u 0) * 5) p0) fun M5 =>
 Option.bind (wrI M5 (u + 1) 50 (((M u 0) * 5) + 1) p1) fun M7 =>
 Option.bind (wrI M7 (u + 1) 50 (((M u 0) * 5) + 2) p2) fun M9 =>
 Option.bind (wrI M9 (u + 1) 50 (((M u 0) * 5) + 3) p3) fun M11 =>
 Option.bind (wrI M11 (u + 1) 50 (((M u 0) * 5) + 4) p4) fun M13 =>
 Option.bind (some (kup M13 u 0 ((M13 u 0) + 1))) fun M15 =>
 some M15)
 else
 (some M)
set_option maxHeartbeats 4000000 in
set_option maxRecDepth 100000 in
theorem b_De_add {X : KX} {B : KB} {L : KLay} {M : KMem} {u : Nat} {p0 : Int32} {p1 : Int32} {p2 : Int32} {p3 : Int32} {p4 : Int32} (G : Good X B RX0 cX0_add 7 rm_De_add) (hu : okL L u deT) (h : kOk (m_De_add u p0 p1 p2 p3 p4 M) (fun r => RV X B L 7 cX0_add rm_De_add r)) : KK X B L 7 0 0 M 0 [(0, .ref (B.1 + u)), (1, .int p0), (2, .int p1), (3, .int p2), (4, .int p3), (5, .int p4)] [] := by
  unfold m_De_add at h
  refine k_aload_n G (dc d_De_add 0 rfl) 0 rfl rfl ?_
  obtain ⟨x2, e1, h⟩ := kOk_b h
  refine k_cVI G (dc d_De_add 1 rfl) kc0 (okL_lt hu (o := 0) 0 rfl) (okL_k hu (o := 0) 0 rfl) mi_De_areFull mv_De_areFull rfl ml_RX0_28 (c_De_areFull (gst G) hu e1) rfl rfl ⟨rfl, rfl⟩ rfl ⟨rfl, rfl⟩ ⟨rfl, rfl⟩ ?_
  refine k_if_eq G (dc d_De_add 2 rfl) (tgt := 8) rfl (fun c3 => ?_) (fun c3 => ?_)
  · replace h := kOk_p c3 h
    refine k_aload_n G (dc d_De_add 4 rfl) 0 rfl rfl ?_
    refine k_getI G kc0 (dc d_De_add 5 rfl) (okL_lt hu (o := 0) 0 rfl) (okL_k hu (o := 0) 0 rfl) 0 (by decide) rfl fl_RX0_21 ?_
    refine k_iconst G (dc d_De_add 6 rfl) cI_5 ?_
    refine k_imul G (dc d_De_add 7 rfl) ?_
    refine k_istore G (dc d_De_add 8 rfl) (ls' := [(6, .int ((M u 0) * 5)), (0, .ref (B.1 + u)), (1, .int p0), (2, .int p1), (3, .int p2), (4, .int p3), (5, .int p4)]) rfl rfl ?_
    refine k_aload_n G (dc d_De_add 9 rfl) 1 rfl rfl ?_
    refine k_getR G kc0 (dc d_De_add 10 rfl) (okL_lt hu (o := 0) 0 rfl) (okL_k hu (o := 0) 0 rfl) 1 (by decide) rfl fl_RX0_11 (u + 1) (okL_r hu (o := 0) (c := 1) 0 rfl 0 rfl) ?_
    refine k_iload G (dc d_De_add 11 rfl) 0 rfl ?_
    refine k_iload_n G (dc d_De_add 12 rfl) 2 rfl rfl ?_
    obtain ⟨M5, e4, h⟩ := kOk_b h
    refine k_ist G (dc d_De_add 13 rfl) (okL_lt hu (o := 1) 1 rfl) (okL_k hu (o := 1) 1 rfl) (okL_n hu (o := 1) 1 rfl) e4 ?_
    refine k_aload_n G (dc d_De_add 14 rfl) 1 rfl rfl ?_
    refine k_getR G kc0 (dc d_De_add 15 rfl) (okL_lt hu (o := 0) 0 rfl) (okL_k hu (o := 0) 0 rfl) 1 (by decide) rfl fl_RX0_11 (u + 1) (okL_r hu (o := 0) (c := 1) 0 rfl 0 rfl) ?_
    refine k_iload G (dc d_De_add 16 rfl) 0 rfl ?_
    refine k_iconst G (dc d_De_add 17 rfl) cI_1 ?_
    refine k_iadd G (dc d_De_add 18 rfl) ?_
    refine k_iload_n G (dc d_De_add 19 rfl) 3 rfl rfl ?_
    obtain ⟨M7, e6, h⟩ := kOk_b h
    refine k_ist G (dc d_De_add 20 rfl) (okL_lt hu (o := 1) 1 rfl) (okL_k hu (o := 1) 1 rfl) (okL_n hu (o := 1) 1 rfl) e6 ?_
    refine k_aload_n G (dc d_De_add 21 rfl) 1 rfl rfl ?_
    refine k_getR G kc0 (dc d_De_add 22 rfl) (okL_lt hu (o := 0) 0 rfl) (okL_k hu (o := 0) 0 rfl) 1 (by decide) rfl fl_RX0_11 (u + 1) (okL_r hu (o := 0) (c := 1) 0 rfl 0 rfl) ?_
    refine k_iload G (dc d_De_add 23 rfl) 0 rfl ?_
    refine k_iconst G (dc d_De_add 24 rfl) cI_2 ?_
    refine k_iadd G (dc d_De_add 25 rfl) ?_
    refine k_iload_n G (dc d_De_add 26 rfl) 4 rfl rfl ?_
    obtain ⟨M9, e8, h⟩ := kOk_b h
    refine k_ist G (dc d_De_add 27 rfl) (okL_lt hu (o := 1) 1 rfl) (okL_k hu (o := 1) 1 rfl) (okL_n hu (o := 1) 1 rfl) e8 ?_
    refine k_aload_n G (dc d_De_add 28 rfl) 1 rfl rfl ?_
    refine k_getR G kc0 (dc d_De_add 29 rfl) (okL_lt hu (o := 0) 0 rfl) (okL_k hu (o := 0) 0 rfl) 1 (by decide) rfl fl_RX0_11 (u + 1) (okL_r hu (o := 0) (c := 1) 0 rfl 0 rfl) ?_
    refine k_iload G (dc d_De_add 30 rfl) 0 rfl ?_
    refine k_iconst G (dc d_De_add 31 rfl) cI_3 ?_
    refine k_iadd G (dc d_De_add 32 rfl) ?_
    refine k_iload G (dc d_De_add 33 rfl) 5 rfl ?_
    obtain ⟨M11, e10, h⟩ := kOk_b h
    refine k_ist G (dc d_De_add 34 rfl) (okL_lt hu (o := 1) 1 rfl) (okL_k hu (o := 1) 1 rfl) (okL_n hu (o := 1) 1 rfl) e10 ?_
    refine k_aload_n G (dc d_De_add 35 rfl) 1 rfl rfl ?_
    refine k_getR G kc0 (dc d_De_add 36 rfl) (okL_lt hu (o := 0) 0 rfl) (okL_k hu (o := 0) 0 rfl) 1 (by decide) rfl fl_RX0_11 (u + 1) (okL_r hu (o := 0) (c := 1) 0 rfl 0 rfl) ?_
    refine k_iload G (dc d_De_add 37 rfl) 0 rfl ?_
    refine k_iconst G (dc d_De_add 38 rfl) cI_4 ?_
    refine k_iadd G (dc d_De_add 39 rfl) ?_
    refine k_iload G (dc d_De_add 40 rfl) 6 rfl ?_
    obtain ⟨M13, e12, h⟩ := kOk_b h
    refine k_ist G (dc d_De_add 41 rfl) (okL_lt hu (o := 1) 1 rfl) (okL_k hu (o := 1) 1 rfl) (okL_n hu (o := 1) 1 rfl) e12 ?_
    refine k_aload_n G (dc d_De_add 42 rfl) 1 rfl rfl ?_
    refine k_dup G (dc d_De_add 43 rfl) rfl ?_
    refine k_getI G kc0 (dc d_De_add 44 rfl) (okL_lt hu (o := 0) 0 rfl) (okL_k hu (o := 0) 0 rfl) 0 (by decide) rfl fl_RX0_21 ?_
    refine k_iconst G (dc d_De_add 45 rfl) cI_1 ?_
    refine k_iadd G (dc d_De_add 46 rfl) ?_
    obtain ⟨M15, e14, h⟩ := kOk_b h
    refine k_putI G kc0 (dc d_De_add 47 rfl) (okL_lt hu (o := 0) 0 rfl) (okL_k hu (o := 0) 0 rfl) 0 (by decide) rfl rfl fl_RX0_21 rfl rfl e14 ?_
    exact (kOk_s h) _ _ _ _ rfl rfl (dc d_De_add 48 rfl)
  · replace h := kOk_n c3 h
    exact (kOk_s h) _ _ _ _ rfl rfl (dc d_De_add 3 rfl)
theorem c_De_add {l : Launch} {B : KB} {L : KLay} {M : KMem} {u : Nat} {p0 : Int32} {p1 : Int32} {p2 : Int32} {p3 : Int32} {p4 : Int32} (hst : l.stackTraces = false) (hu : okL L u deT) {M' : KMem} (e : m_De_add u p0 p1 p2 p3 p4 M = some M') : CtrN l B yX0_add cX0_add 7 none rm_De_add [.ref (B.1 + u), .int p0, .int p1, .int p2, .int p3, .int p4] L M none L M' :=
  mk_V rfl hst rfl (fun X hl G _ R => b_De_add G hu ⟨_, e, R⟩)
def I_De_remove : List (Nat × Instr × Nat) := [(0, .aload_n 0, 1), (1, .iload_n 1, 1), (2, .invokevirtual 25, 3), (5, .ifCond .ne 4, 3), (8, .return_, 1), (9, .aload_n 0, 1), (10, .getfield 21, 3), (13, .iconst 1, 1), (14, .isub, 1), (15, .iload_n 1, 1), (16, .isub, 1), (17, .istore_n 2, 1), (18, .aload_n 0, 1), (19, .getfield 11, 3), (22, .iload_n 1, 1), (23, .iconst 1, 1), (24, .iadd, 1), (25, .iconst 5, 1), (26, .imul, 1), (27, .aload_n 0, 1), (28, .getfield 11, 3), (31, .iload_n 1, 1), (32, .iconst 5, 1), (33, .imul, 1), (34, .iload_n 2, 1), (35, .iconst 5, 1), (36, .imul, 1), (37, .invokestatic 32, 3), (40, .aload_n 0, 1), (41, .dup, 1), (42, .getfield 21, 3), (45, .iconst 1, 1), (46, .isub, 1), (47, .putfield 21, 3), (50, .return_, 1)]
set_option maxRecDepth 100000 in
theorem d_De_remove : decA cX0_remove I_De_remove = true := by decide +kernel
abbrev rm_De_remove : Room := ({ frames := 1, cells := 0, slots := 0, locals := 60 } : Room)
def m_De_remove (u : Nat) (p0 : Int32) (M : KMem) : Option KMem :=
 Option.bind (m_De_has u p0 M) fun x2 =>
 if x2 = 0 then
 (some M)
 else
 (Option.bind (cpI M (u + 1) 50 (u + 1) 50 ((p0 + 1) * 5) (p0 * 5) ((((M u 0) - 1) - p0) * 5)) fun M5 =>
 Option.bind (some (kup M5 u 0 ((M5 u 0) - 1))) fun M7 =>
 some M7)
set_option maxHeartbeats 4000000 in
set_option maxRecDepth 100000 in
theorem b_De_remove {X : KX} {B : KB} {L : KLay} {M : KMem} {u : Nat} {p0 : Int32} (G : Good X B RX0 cX0_remove 3 rm_De_remove) (hx : B.2.2.2 = false) (hu : okL L u deT) (h : kOk (m_De_remove u p0 M) (fun r => RV X B L 3 cX0_remove rm_De_remove r)) : KK X B L 3 0 0 M 0 [(0, .ref (B.1 + u)), (1, .int p0)] [] := by
  unfold m_De_remove at h
  refine k_aload_n G (dc d_De_remove 0 rfl) 0 rfl rfl ?_
  refine k_iload_n G (dc d_De_remove 1 rfl) 1 rfl rfl ?_
  obtain ⟨x2, e1, h⟩ := kOk_b h
  refine k_cVI G (dc d_De_remove 2 rfl) kc0 (okL_lt hu (o := 0) 0 rfl) (okL_k hu (o := 0) 0 rfl) mi_De_has mv_De_has rfl ml_RX0_25 (c_De_has (gst G) hu e1) rfl rfl ⟨rfl, rfl⟩ rfl ⟨rfl, rfl⟩ ⟨rfl, rfl⟩ ?_
  refine k_if_ne G (dc d_De_remove 3 rfl) (tgt := 9) rfl (fun c3 => ?_) (fun c3 => ?_)
  · replace h := kOk_n c3 h
    refine k_aload_n G (dc d_De_remove 5 rfl) 0 rfl rfl ?_
    refine k_getI G kc0 (dc d_De_remove 6 rfl) (okL_lt hu (o := 0) 0 rfl) (okL_k hu (o := 0) 0 rfl) 0 (by decide) rfl fl_RX0_21 ?_
    refine k_iconst G (dc d_De_remove 7 rfl) cI_1 ?_
    refine k_isub G (dc d_De_remove 8 rfl) ?_
    refine k_iload_n G (dc d_De_remove 9 rfl) 1 rfl rfl ?_
    refine k_isub G (dc d_De_remove 10 rfl) ?_
    refine k_istore_n G (dc d_De_remove 11 rfl) (ls' := [(2, .int (((M u 0) - 1) - p0)), (0, .ref (B.1 + u)), (1, .int p0)]) rfl rfl rfl ?_
    refine k_aload_n G (dc d_De_remove 12 rfl) 1 rfl rfl ?_
    refine k_getR G kc0 (dc d_De_remove 13 rfl) (okL_lt hu (o := 0) 0 rfl) (okL_k hu (o := 0) 0 rfl) 1 (by decide) rfl fl_RX0_11 (u + 1) (okL_r hu (o := 0) (c := 1) 0 rfl 0 rfl) ?_
    refine k_iload_n G (dc d_De_remove 14 rfl) 2 rfl rfl ?_
    refine k_iconst G (dc d_De_remove 15 rfl) cI_1 ?_
    refine k_iadd G (dc d_De_remove 16 rfl) ?_
    refine k_iconst G (dc d_De_remove 17 rfl) cI_5 ?_
    refine k_imul G (dc d_De_remove 18 rfl) ?_
    refine k_aload_n G (dc d_De_remove 19 rfl) 1 rfl rfl ?_
    refine k_getR G kc0 (dc d_De_remove 20 rfl) (okL_lt hu (o := 0) 0 rfl) (okL_k hu (o := 0) 0 rfl) 1 (by decide) rfl fl_RX0_11 (u + 1) (okL_r hu (o := 0) (c := 1) 0 rfl 0 rfl) ?_
    refine k_iload_n G (dc d_De_remove 21 rfl) 2 rfl rfl ?_
    refine k_iconst G (dc d_De_remove 22 rfl) cI_5 ?_
    refine k_imul G (dc d_De_remove 23 rfl) ?_
    refine k_iload_n G (dc d_De_remove 24 rfl) 0 rfl rfl ?_
    refine k_iconst G (dc d_De_remove 25 rfl) cI_5 ?_
    refine k_imul G (dc d_De_remove 26 rfl) ?_
    obtain ⟨M5, e4, h⟩ := kOk_b h
    refine k_copy G hx (dc d_De_remove 27 rfl) ml_RX0_32 syscopy ⟨rfl, rfl⟩ (okL_lt hu (o := 1) 1 rfl) (okL_k hu (o := 1) 1 rfl) (okL_n hu (o := 1) 1 rfl) (okL_lt hu (o := 1) 1 rfl) (okL_k hu (o := 1) 1 rfl) (okL_n hu (o := 1) 1 rfl) e4 ?_
    refine k_aload_n G (dc d_De_remove 28 rfl) 1 rfl rfl ?_
    refine k_dup G (dc d_De_remove 29 rfl) rfl ?_
    refine k_getI G kc0 (dc d_De_remove 30 rfl) (okL_lt hu (o := 0) 0 rfl) (okL_k hu (o := 0) 0 rfl) 0 (by decide) rfl fl_RX0_21 ?_
    refine k_iconst G (dc d_De_remove 31 rfl) cI_1 ?_
    refine k_isub G (dc d_De_remove 32 rfl) ?_
    obtain ⟨M7, e6, h⟩ := kOk_b h
    refine k_putI G kc0 (dc d_De_remove 33 rfl) (okL_lt hu (o := 0) 0 rfl) (okL_k hu (o := 0) 0 rfl) 0 (by decide) rfl rfl fl_RX0_21 rfl rfl e6 ?_
    exact (kOk_s h) _ _ _ _ rfl rfl (dc d_De_remove 34 rfl)
  · replace h := kOk_p c3 h
    exact (kOk_s h) _ _ _ _ rfl rfl (dc d_De_remove 4 rfl)
theorem c_De_remove {l : Launch} {B : KB} {L : KLay} {M : KMem} {u : Nat} {p0 : Int32} (hst : l.stackTraces = false) (hx : B.2.2.2 = false) (hu : okL L u deT) {M' : KMem} (e : m_De_remove u p0 M = some M') : CtrN l B yX0_remove cX0_remove 3 none rm_De_remove [.ref (B.1 + u), .int p0] L M none L M' :=
  mk_V rfl hst rfl (fun X hl G _ R => b_De_remove G hx hu ⟨_, e, R⟩)
def I_De_spellingWithout : List (Nat × Instr × Nat) := [(0, .iload_n 2, 1), (1, .istore_n 3, 1), (2, .iconst 0, 1), (3, .istore 4, 2), (5, .iload 4, 2), (7, .aload_n 0, 1), (8, .getfield 21, 3), (11, .if_icmp .ge 67, 3), (14, .iload 4, 2), (16, .bipush 10, 2), (18, .if_icmp .ge 60, 3), (21, .iload 4, 2), (23, .iconst 5, 1), (24, .imul, 1), (25, .istore 5, 2), (27, .iload 4, 2), (29, .iload_n 1, 1), (30, .if_icmp .eq 42, 3), (33, .aload_n 0, 1), (34, .getfield 11, 3), (37, .iload 5, 2), (39, .iaload, 1), (40, .aload_n 0, 1), (41, .getfield 11, 3), (44, .iload 5, 2), (46, .iconst 1, 1), (47, .iadd, 1), (48, .iaload, 1), (49, .aload_n 0, 1), (50, .getfield 11, 3), (53, .iload 5, 2), (55, .iconst 2, 1), (56, .iadd, 1), (57, .iaload, 1), (58, .aload_n 0, 1), (59, .getfield 11, 3), (62, .iload 5, 2), (64, .iconst 3, 1), (65, .iadd, 1), (66, .iaload, 1), (67, .iload_n 3, 1), (68, .invokestatic 42, 3), (71, .istore_n 3, 1), (72, .iinc 4 1, 3), (75, .goto (-70), 3), (78, .iload_n 3, 1), (79, .ireturn, 1)]
set_option maxRecDepth 100000 in
theorem d_De_spellingWithout : decA cX0_spellingWithout I_De_spellingWithout = true := by decide +kernel
abbrev rm_De_spellingWithout : Room := ({ frames := 2, cells := 0, slots := 0, locals := 52 } : Room)
def m_De_spellingWithout_l5 (u : Nat) (p0 : Int32) (M : KMem) : (Int32 × Int32) → Option ((Int32 × Int32) ⊕ Int32) := fun (v3_1, v4_2) =>
 if (M u 0) ≤ v4_2 then
 (some (.inr v3_1))
 else
 (if 10 ≤ v4_2 then
 (some (.inr v3_1))
 else
 (Option.bind (α := Int32) (if v4_2 = p0 then
 (some v3_1)
 else
 (Option.bind (rdI M (u + 1) 50 (v4_2 * 5)) fun x9 =>
 Option.bind (rdI M (u + 1) 50 ((v4_2 * 5) + 1)) fun x11 =>
 Option.bind (rdI M (u + 1) 50 ((v4_2 * 5) + 2)) fun x13 =>
 Option.bind (rdI M (u + 1) 50 ((v4_2 * 5) + 3)) fun x15 =>
 Option.bind (m_Wo_decreed x9 x11 x13 x15 v3_1) fun x17 =>
 some x17)) fun v3_5 =>
 some (.inl (v3_5, v4_2 + 1))))
def m_De_spellingWithout (u : Nat) (p0 : Int32) (p1 : Int32) (M : KMem) : Option Int32 :=
 Option.bind (α := Int32) (kLp (m_De_spellingWithout_l5 u p0 M) kFU (p1, 0)) fun v3_18 =>
 some v3_18
set_option maxHeartbeats 4000000 in
set_option maxRecDepth 100000 in
theorem b_De_spellingWithout {X : KX} {B : KB} {L : KLay} {M : KMem} {u : Nat} {p0 : Int32} {p1 : Int32} (G : Good X B RX0 cX0_spellingWithout 6 rm_De_spellingWithout) (hu : okL L u deT) (h : kOk (m_De_spellingWithout u p0 p1 M) (fun r => RI X B L 6 cX0_spellingWithout .int rm_De_spellingWithout r M)) : KK X B L 6 0 0 M 0 [(0, .ref (B.1 + u)), (1, .int p0), (2, .int p1)] [] := by
  unfold m_De_spellingWithout at h
  refine k_iload_n G (dc d_De_spellingWithout 0 rfl) 2 rfl rfl ?_
  refine k_istore_n G (dc d_De_spellingWithout 1 rfl) (ls' := [(3, .int p1), (0, .ref (B.1 + u)), (1, .int p0), (2, .int p1)]) rfl rfl rfl ?_
  refine k_iconst G (dc d_De_spellingWithout 2 rfl) cI_0 ?_
  refine k_istore G (dc d_De_spellingWithout 3 rfl) (ls' := [(4, .int 0), (3, .int p1), (0, .ref (B.1 + u)), (1, .int p0), (2, .int p1)]) rfl rfl ?_
  refine kJ h (fun r19 => KK X B L 6 0 0 M 78 [(3, .int r19)] []) (fun r19 h => ?_) (fun h => ?_)
  · obtain ⟨v3_18, rfl⟩ : ∃ z, z = r19 := ⟨_, rfl⟩
    show KK X B L 6 0 0 M 78 [(3, .int v3_18)] []
    refine k_iload_n G (dc d_De_spellingWithout 45 rfl) 0 rfl rfl ?_
    exact (kOk_s h) _ _ _ _ rfl rfl rfl (dc d_De_spellingWithout 46 rfl)
  · refine k_sub [2, 3, 1, 0] rfl ?_
    refine kLp_ok (P := fun s20 => KK X B L 6 0 0 M 5 [(0, .ref (B.1 + u)), (1, .int p0), (3, .int s20.1), (4, .int s20.2)] []) (fun s20 h => ?_) kFU _ h
    obtain ⟨v3_1, v4_2⟩ := s20
    unfold m_De_spellingWithout_l5 at h
    show KK X B L 6 0 0 M 5 [(0, .ref (B.1 + u)), (1, .int p0), (3, .int v3_1), (4, .int v4_2)] []
    refine k_iload G (dc d_De_spellingWithout 4 rfl) 3 rfl ?_
    refine k_aload_n G (dc d_De_spellingWithout 5 rfl) 0 rfl rfl ?_
    refine k_getI G kc0 (dc d_De_spellingWithout 6 rfl) (okL_lt hu (o := 0) 0 rfl) (okL_k hu (o := 0) 0 rfl) 0 (by decide) rfl fl_RX0_21 ?_
    refine k_icmp_ge G (dc d_De_spellingWithout 7 rfl) (tgt := 78) rfl (fun c3 => ?_) (fun c3 => ?_)
    · replace h := kOk_p c3 h
      refine k_sub [2] rfl ?_
      have h9 := kOk_s h
      exact h9
    · replace h := kOk_n c3 h
      refine k_iload G (dc d_De_spellingWithout 8 rfl) 3 rfl ?_
      refine k_bipush G (dc d_De_spellingWithout 9 rfl) cB_10 ?_
      refine k_icmp_ge G (dc d_De_spellingWithout 10 rfl) (tgt := 78) rfl (fun c4 => ?_) (fun c4 => ?_)
      · replace h := kOk_p c4 h
        refine k_sub [2] rfl ?_
        have h9 := kOk_s h
        exact h9
      · replace h := kOk_n c4 h
        refine k_iload G (dc d_De_spellingWithout 11 rfl) 3 rfl ?_
        refine k_iconst G (dc d_De_spellingWithout 12 rfl) cI_5 ?_
        refine k_imul G (dc d_De_spellingWithout 13 rfl) ?_
        refine k_istore G (dc d_De_spellingWithout 14 rfl) (ls' := [(5, .int (v4_2 * 5)), (0, .ref (B.1 + u)), (1, .int p0), (3, .int v3_1), (4, .int v4_2)]) rfl rfl ?_
        refine k_iload G (dc d_De_spellingWithout 15 rfl) 4 rfl ?_
        refine k_iload_n G (dc d_De_spellingWithout 16 rfl) 2 rfl rfl ?_
        refine kJ h (fun r6 => KK X B L 6 0 0 M 72 [(0, .ref (B.1 + u)), (1, .int p0), (3, .int r6), (4, .int v4_2)] []) (fun r6 h => ?_) (fun h => ?_)
        · obtain ⟨v3_5, rfl⟩ : ∃ z, z = r6 := ⟨_, rfl⟩
          show KK X B L 6 0 0 M 72 [(0, .ref (B.1 + u)), (1, .int p0), (3, .int v3_5), (4, .int v4_2)] []
          refine k_iinc G (dc d_De_spellingWithout 43 rfl) (ls' := [(4, .int (v4_2 + 1)), (0, .ref (B.1 + u)), (1, .int p0), (3, .int v3_5)]) 3 rfl cI_1 rfl rfl ?_
          refine k_goto G (dc d_De_spellingWithout 44 rfl) (tgt := 5) rfl ?_
          refine k_sub [1, 2, 3, 0] rfl ?_
          have h9 := kOk_s h
          exact h9
        · refine k_icmp_eq G (dc d_De_spellingWithout 17 rfl) (tgt := 72) rfl (fun c7 => ?_) (fun c7 => ?_)
          · replace h := kOk_p c7 h
            refine k_sub [1, 2, 3, 4] rfl ?_
            have h9 := kOk_s h
            exact h9
          · replace h := kOk_n c7 h
            refine k_aload_n G (dc d_De_spellingWithout 18 rfl) 1 rfl rfl ?_
            refine k_getR G kc0 (dc d_De_spellingWithout 19 rfl) (okL_lt hu (o := 0) 0 rfl) (okL_k hu (o := 0) 0 rfl) 1 (by decide) rfl fl_RX0_11 (u + 1) (okL_r hu (o := 0) (c := 1) 0 rfl 0 rfl) ?_
            refine k_iload G (dc d_De_spellingWithout 20 rfl) 0 rfl ?_
            obtain ⟨x9, e8, h⟩ := kOk_b h
            refine k_ild G (dc d_De_spellingWithout 21 rfl) (okL_lt hu (o := 1) 1 rfl) (okL_k hu (o := 1) 1 rfl) (okL_n hu (o := 1) 1 rfl) e8 ?_
            refine k_aload_n G (dc d_De_spellingWithout 22 rfl) 1 rfl rfl ?_
            refine k_getR G kc0 (dc d_De_spellingWithout 23 rfl) (okL_lt hu (o := 0) 0 rfl) (okL_k hu (o := 0) 0 rfl) 1 (by decide) rfl fl_RX0_11 (u + 1) (okL_r hu (o := 0) (c := 1) 0 rfl 0 rfl) ?_
            refine k_iload G (dc d_De_spellingWithout 24 rfl) 0 rfl ?_
            refine k_iconst G (dc d_De_spellingWithout 25 rfl) cI_1 ?_
            refine k_iadd G (dc d_De_spellingWithout 26 rfl) ?_
            obtain ⟨x11, e10, h⟩ := kOk_b h
            refine k_ild G (dc d_De_spellingWithout 27 rfl) (okL_lt hu (o := 1) 1 rfl) (okL_k hu (o := 1) 1 rfl) (okL_n hu (o := 1) 1 rfl) e10 ?_
            refine k_aload_n G (dc d_De_spellingWithout 28 rfl) 1 rfl rfl ?_
            refine k_getR G kc0 (dc d_De_spellingWithout 29 rfl) (okL_lt hu (o := 0) 0 rfl) (okL_k hu (o := 0) 0 rfl) 1 (by decide) rfl fl_RX0_11 (u + 1) (okL_r hu (o := 0) (c := 1) 0 rfl 0 rfl) ?_
            refine k_iload G (dc d_De_spellingWithout 30 rfl) 0 rfl ?_
            refine k_iconst G (dc d_De_spellingWithout 31 rfl) cI_2 ?_
            refine k_iadd G (dc d_De_spellingWithout 32 rfl) ?_
            obtain ⟨x13, e12, h⟩ := kOk_b h
            refine k_ild G (dc d_De_spellingWithout 33 rfl) (okL_lt hu (o := 1) 1 rfl) (okL_k hu (o := 1) 1 rfl) (okL_n hu (o := 1) 1 rfl) e12 ?_
            refine k_aload_n G (dc d_De_spellingWithout 34 rfl) 1 rfl rfl ?_
            refine k_getR G kc0 (dc d_De_spellingWithout 35 rfl) (okL_lt hu (o := 0) 0 rfl) (okL_k hu (o := 0) 0 rfl) 1 (by decide) rfl fl_RX0_11 (u + 1) (okL_r hu (o := 0) (c := 1) 0 rfl 0 rfl) ?_
            refine k_iload G (dc d_De_spellingWithout 36 rfl) 0 rfl ?_
            refine k_iconst G (dc d_De_spellingWithout 37 rfl) cI_3 ?_
            refine k_iadd G (dc d_De_spellingWithout 38 rfl) ?_
            obtain ⟨x15, e14, h⟩ := kOk_b h
            refine k_ild G (dc d_De_spellingWithout 39 rfl) (okL_lt hu (o := 1) 1 rfl) (okL_k hu (o := 1) 1 rfl) (okL_n hu (o := 1) 1 rfl) e14 ?_
            refine k_iload_n G (dc d_De_spellingWithout 40 rfl) 3 rfl rfl ?_
            obtain ⟨x17, e16, h⟩ := kOk_b h
            refine k_cSI G (dc d_De_spellingWithout 41 rfl) mi_Wo_decreed ms_Wo_decreed ml_RX0_42 (c_Wo_decreed (gst G)  e16) rfl rfl ⟨rfl, rfl⟩ rfl ⟨rfl, rfl⟩ ⟨rfl, rfl⟩ ?_
            refine k_istore_n G (dc d_De_spellingWithout 42 rfl) (ls' := [(3, .int x17), (5, .int (v4_2 * 5)), (0, .ref (B.1 + u)), (1, .int p0), (4, .int v4_2)]) rfl rfl rfl ?_
            refine k_sub [2, 3, 0, 4] rfl ?_
            have h9 := kOk_s h
            exact h9
theorem c_De_spellingWithout {l : Launch} {B : KB} {L : KLay} {M : KMem} {u : Nat} {p0 : Int32} {p1 : Int32} (hst : l.stackTraces = false) (hu : okL L u deT) {r : Int32} (e : m_De_spellingWithout u p0 p1 M = some r) : CtrN l B yX0_spellingWithout cX0_spellingWithout 6 (some .int) rm_De_spellingWithout [.ref (B.1 + u), .int p0, .int p1] L M (some (.int r)) L M :=
  mk_I rfl hst rfl (fun X hl G _ R => b_De_spellingWithout G hu ⟨_, e, R⟩)
def I_De_spellingOf : List (Nat × Instr × Nat) := [(0, .aload_n 0, 1), (1, .iconst (-1), 1), (2, .iload_n 1, 1), (3, .invokevirtual 38, 3), (6, .ireturn, 1)]
set_option maxRecDepth 100000 in
theorem d_De_spellingOf : decA cX0_spellingOf I_De_spellingOf = true := by decide +kernel
abbrev rm_De_spellingOf : Room := ({ frames := 3, cells := 0, slots := 0, locals := 77 } : Room)
def m_De_spellingOf (u : Nat) (p0 : Int32) (M : KMem) : Option Int32 :=
 Option.bind (m_De_spellingWithout u (-1) p0 M) fun x2 =>
 some x2
set_option maxHeartbeats 4000000 in
set_option maxRecDepth 100000 in
theorem b_De_spellingOf {X : KX} {B : KB} {L : KLay} {M : KMem} {u : Nat} {p0 : Int32} (G : Good X B RX0 cX0_spellingOf 2 rm_De_spellingOf) (hu : okL L u deT) (h : kOk (m_De_spellingOf u p0 M) (fun r => RI X B L 2 cX0_spellingOf .int rm_De_spellingOf r M)) : KK X B L 2 0 0 M 0 [(0, .ref (B.1 + u)), (1, .int p0)] [] := by
  unfold m_De_spellingOf at h
  refine k_aload_n G (dc d_De_spellingOf 0 rfl) 0 rfl rfl ?_
  refine k_iconst G (dc d_De_spellingOf 1 rfl) cI_m1 ?_
  refine k_iload_n G (dc d_De_spellingOf 2 rfl) 1 rfl rfl ?_
  obtain ⟨x2, e1, h⟩ := kOk_b h
  refine k_cVI G (dc d_De_spellingOf 3 rfl) kc0 (okL_lt hu (o := 0) 0 rfl) (okL_k hu (o := 0) 0 rfl) mi_De_spellingWithout mv_De_spellingWithout rfl ml_RX0_38 (c_De_spellingWithout (gst G) hu e1) rfl rfl ⟨rfl, rfl⟩ rfl ⟨rfl, rfl⟩ ⟨rfl, rfl⟩ ?_
  exact (kOk_s h) _ _ _ _ rfl rfl rfl (dc d_De_spellingOf 4 rfl)
theorem c_De_spellingOf {l : Launch} {B : KB} {L : KLay} {M : KMem} {u : Nat} {p0 : Int32} (hst : l.stackTraces = false) (hu : okL L u deT) {r : Int32} (e : m_De_spellingOf u p0 M = some r) : CtrN l B yX0_spellingOf cX0_spellingOf 2 (some .int) rm_De_spellingOf [.ref (B.1 + u), .int p0] L M (some (.int r)) L M :=
  mk_I rfl hst rfl (fun X hl G _ R => b_De_spellingOf G hu ⟨_, e, R⟩)
def I_De_copyFrom : List (Nat × Instr × Nat) := [(0, .aload_n 0, 1), (1, .aload_n 1, 1), (2, .getfield 21, 3), (5, .putfield 21, 3), (8, .aload_n 1, 1), (9, .getfield 11, 3), (12, .iconst 0, 1), (13, .aload_n 0, 1), (14, .getfield 11, 3), (17, .iconst 0, 1), (18, .aload_n 0, 1), (19, .getfield 11, 3), (22, .arraylength, 1), (23, .invokestatic 32, 3), (26, .return_, 1)]
set_option maxRecDepth 100000 in
theorem d_De_copyFrom : decA cX0_copyFrom I_De_copyFrom = true := by decide +kernel
abbrev rm_De_copyFrom : Room := ({ frames := 1, cells := 0, slots := 0, locals := 60 } : Room)
def m_De_copyFrom (u : Nat) (p0 : Nat) (M : KMem) : Option KMem :=
 Option.bind (some (kup M u 0 (M p0 0))) fun M2 =>
 Option.bind (cpI M2 (p0 + 1) 50 (u + 1) 50 0 0 (Int32.ofNat 50)) fun M4 =>
 some M4
set_option maxHeartbeats 4000000 in
set_option maxRecDepth 100000 in
theorem b_De_copyFrom {X : KX} {B : KB} {L : KLay} {M : KMem} {u : Nat} {p0 : Nat} (G : Good X B RX0 cX0_copyFrom 2 rm_De_copyFrom) (hx : B.2.2.2 = false) (hu : okL L u deT) (hp0 : okL L p0 deT) (h : kOk (m_De_copyFrom u p0 M) (fun r => RV X B L 2 cX0_copyFrom rm_De_copyFrom r)) : KK X B L 2 0 0 M 0 [(0, .ref (B.1 + u)), (1, .ref (B.1 + p0))] [] := by
  unfold m_De_copyFrom at h
  refine k_aload_n G (dc d_De_copyFrom 0 rfl) 0 rfl rfl ?_
  refine k_aload_n G (dc d_De_copyFrom 1 rfl) 1 rfl rfl ?_
  refine k_getI G kc0 (dc d_De_copyFrom 2 rfl) (okL_lt hp0 (o := 0) 0 rfl) (okL_k hp0 (o := 0) 0 rfl) 0 (by decide) rfl fl_RX0_21 ?_
  obtain ⟨M2, e1, h⟩ := kOk_b h
  refine k_putI G kc0 (dc d_De_copyFrom 3 rfl) (okL_lt hu (o := 0) 0 rfl) (okL_k hu (o := 0) 0 rfl) 0 (by decide) rfl rfl fl_RX0_21 rfl rfl e1 ?_
  refine k_aload_n G (dc d_De_copyFrom 4 rfl) 1 rfl rfl ?_
  refine k_getR G kc0 (dc d_De_copyFrom 5 rfl) (okL_lt hp0 (o := 0) 0 rfl) (okL_k hp0 (o := 0) 0 rfl) 1 (by decide) rfl fl_RX0_11 (p0 + 1) (okL_r hp0 (o := 0) (c := 1) 0 rfl 0 rfl) ?_
  refine k_iconst G (dc d_De_copyFrom 6 rfl) cI_0 ?_
  refine k_aload_n G (dc d_De_copyFrom 7 rfl) 0 rfl rfl ?_
  refine k_getR G kc0 (dc d_De_copyFrom 8 rfl) (okL_lt hu (o := 0) 0 rfl) (okL_k hu (o := 0) 0 rfl) 1 (by decide) rfl fl_RX0_11 (u + 1) (okL_r hu (o := 0) (c := 1) 0 rfl 0 rfl) ?_
  refine k_iconst G (dc d_De_copyFrom 9 rfl) cI_0 ?_
  refine k_aload_n G (dc d_De_copyFrom 10 rfl) 0 rfl rfl ?_
  refine k_getR G kc0 (dc d_De_copyFrom 11 rfl) (okL_lt hu (o := 0) 0 rfl) (okL_k hu (o := 0) 0 rfl) 1 (by decide) rfl fl_RX0_11 (u + 1) (okL_r hu (o := 0) (c := 1) 0 rfl 0 rfl) ?_
  refine k_len G (dc d_De_copyFrom 12 rfl) (okL_lt hu (o := 1) 1 rfl) (okL_k hu (o := 1) 1 rfl) (v := Int32.ofNat 50) (by rw [(okL_n hu (o := 1) 1 rfl)]) ?_
  obtain ⟨M4, e3, h⟩ := kOk_b h
  refine k_copy G hx (dc d_De_copyFrom 13 rfl) ml_RX0_32 syscopy ⟨rfl, rfl⟩ (okL_lt hp0 (o := 1) 1 rfl) (okL_k hp0 (o := 1) 1 rfl) (okL_n hp0 (o := 1) 1 rfl) (okL_lt hu (o := 1) 1 rfl) (okL_k hu (o := 1) 1 rfl) (okL_n hu (o := 1) 1 rfl) e3 ?_
  exact (kOk_s h) _ _ _ _ rfl rfl (dc d_De_copyFrom 14 rfl)
theorem c_De_copyFrom {l : Launch} {B : KB} {L : KLay} {M : KMem} {u : Nat} {p0 : Nat} (hst : l.stackTraces = false) (hx : B.2.2.2 = false) (hu : okL L u deT) (hp0 : okL L p0 deT) {M' : KMem} (e : m_De_copyFrom u p0 M = some M') : CtrN l B yX0_copyFrom cX0_copyFrom 2 none rm_De_copyFrom [.ref (B.1 + u), .ref (B.1 + p0)] L M none L M' :=
  mk_V rfl hst rfl (fun X hl G _ R => b_De_copyFrom G hx hu hp0 ⟨_, e, R⟩)
end
section
/-! laid by wip/whole/lay.py: Ru_nextRow, Ru_measured -/
def I_Ru_nextRow : List (Nat × Instr × Nat) := [(0, .aload_n 0, 1), (1, .getfield 9, 3), (4, .iconst 0, 1), (5, .iaload, 1), (6, .istore_n 3, 1), (7, .aload_n 0, 1), (8, .getfield 9, 3), (11, .iconst 0, 1), (12, .dup2, 1), (13, .iaload, 1), (14, .iconst 1, 1), (15, .iadd, 1), (16, .iastore, 1), (17, .iload_n 2, 1), (18, .istore 4, 2), (20, .iconst 1, 1), (21, .istore 5, 2), (23, .iload 5, 2), (25, .bipush 8, 2), (27, .if_icmp .gt 80, 3), (30, .iload 4, 2), (32, .ifCond .eq 75, 3), (35, .iload_n 3, 1), (36, .iload 4, 2), (38, .bipush 10, 2), (40, .irem, 1), (41, .iload_n 1, 1), (42, .if_icmp .ne 7, 3), (45, .iconst 0, 1), (46, .goto 4, 3), (49, .iconst 1, 1), (50, .iadd, 1), (51, .istore 6, 2), (53, .aload_n 0, 1), (54, .getfield 9, 3), (57, .iload 5, 2), (59, .iaload, 1), (60, .istore_n 3, 1), (61, .aload_n 0, 1), (62, .getfield 9, 3), (65, .iload 5, 2), (67, .iload 6, 2), (69, .iconst 1, 1), (70, .aload_n 0, 1), (71, .getfield 9, 3), (74, .iload 5, 2), (76, .iaload, 1), (77, .aload_n 0, 1), (78, .getfield 9, 3), (81, .iload 5, 2), (83, .iconst 1, 1), (84, .isub, 1), (85, .iaload, 1), (86, .invokestatic 25, 3), (89, .iadd, 1), (90, .invokestatic 25, 3), (93, .iastore, 1), (94, .iload 4, 2), (96, .bipush 10, 2), (98, .idiv, 1), (99, .istore 4, 2), (101, .iinc 5 1, 3), (104, .goto (-81), 3), (107, .return_, 1)]
set_option maxRecDepth 100000 in
theorem d_Ru_nextRow : decA cX4_nextRow I_Ru_nextRow = true := by decide +kernel
abbrev rm_Ru_nextRow : Room := ({ frames := 1, cells := 0, slots := 0, locals := 21 } : Room)
def m_Ru_nextRow_l23 (u : Nat) (p0 : Int32) : (Int32 × Int32 × Int32 × KMem) → Option ((Int32 × Int32 × Int32 × KMem) ⊕ KMem) := fun (v3_7, v4_8, v5_9, M10) =>
 if 8 < v5_9 then
 (some (.inr M10))
 else
 (if v4_8 = 0 then
 (some (.inr M10))
 else
 (Option.bind (α := Int32) (if (jrem v4_8 10) = p0 then
 (some 0)
 else
 (some 1)) fun t13 =>
 Option.bind (rdI M10 (u + 1) 9 v5_9) fun x16 =>
 Option.bind (rdI M10 (u + 1) 9 v5_9) fun x18 =>
 Option.bind (rdI M10 (u + 1) 9 (v5_9 - 1)) fun x20 =>
 Option.bind (wrI M10 (u + 1) 9 v5_9 (jmin (v3_7 + t13) (1 + (jmin x18 x20)))) fun M22 =>
 some (.inl (x16, v4_8 / 10, v5_9 + 1, M22))))
def m_Ru_nextRow (u : Nat) (p0 : Int32) (p1 : Int32) (M : KMem) : Option KMem :=
 Option.bind (rdI M (u + 1) 9 0) fun x2 =>
 Option.bind (rdI M (u + 1) 9 0) fun x4 =>
 Option.bind (wrI M (u + 1) 9 0 (x4 + 1)) fun M6 =>
 Option.bind (α := KMem) (kLp (m_Ru_nextRow_l23 u p0) kFU (x2, p1, 1, M6)) fun M24 =>
 some M24
set_option maxHeartbeats 4000000 in
set_option maxRecDepth 100000 in
theorem b_Ru_nextRow {X : KX} {B : KB} {L : KLay} {M : KMem} {u : Nat} {p0 : Int32} {p1 : Int32} (G : Good X B RX4 cX4_nextRow 7 rm_Ru_nextRow) (hu : okL L u ruT) (h : kOk (m_Ru_nextRow u p0 p1 M) (fun r => RV X B L 7 cX4_nextRow rm_Ru_nextRow r)) : KK X B L 7 0 0 M 0 [(0, .ref (B.1 + u)), (1, .int p0), (2, .int p1)] [] := by
  unfold m_Ru_nextRow at h
  refine k_aload_n G (dc d_Ru_nextRow 0 rfl) 0 rfl rfl ?_
  refine k_getR G kc4 (dc d_Ru_nextRow 1 rfl) (okL_lt hu (o := 0) 0 rfl) (okL_k hu (o := 0) 0 rfl) 0 (by decide) rfl fl_RX4_9 (u + 1) (okL_r hu (o := 0) (c := 1) 0 rfl 0 rfl) ?_
  refine k_iconst G (dc d_Ru_nextRow 2 rfl) cI_0 ?_
  obtain ⟨x2, e1, h⟩ := kOk_b h
  refine k_ild G (dc d_Ru_nextRow 3 rfl) (okL_lt hu (o := 1) 1 rfl) (okL_k hu (o := 1) 1 rfl) (okL_n hu (o := 1) 1 rfl) e1 ?_
  refine k_istore_n G (dc d_Ru_nextRow 4 rfl) (ls' := [(3, .int x2), (0, .ref (B.1 + u)), (1, .int p0), (2, .int p1)]) rfl rfl rfl ?_
  refine k_aload_n G (dc d_Ru_nextRow 5 rfl) 1 rfl rfl ?_
  refine k_getR G kc4 (dc d_Ru_nextRow 6 rfl) (okL_lt hu (o := 0) 0 rfl) (okL_k hu (o := 0) 0 rfl) 0 (by decide) rfl fl_RX4_9 (u + 1) (okL_r hu (o := 0) (c := 1) 0 rfl 0 rfl) ?_
  refine k_iconst G (dc d_Ru_nextRow 7 rfl) cI_0 ?_
  refine k_dup2 G (dc d_Ru_nextRow 8 rfl) rfl rfl ?_
  obtain ⟨x4, e3, h⟩ := kOk_b h
  refine k_ild G (dc d_Ru_nextRow 9 rfl) (okL_lt hu (o := 1) 1 rfl) (okL_k hu (o := 1) 1 rfl) (okL_n hu (o := 1) 1 rfl) e3 ?_
  refine k_iconst G (dc d_Ru_nextRow 10 rfl) cI_1 ?_
  refine k_iadd G (dc d_Ru_nextRow 11 rfl) ?_
  obtain ⟨M6, e5, h⟩ := kOk_b h
  refine k_ist G (dc d_Ru_nextRow 12 rfl) (okL_lt hu (o := 1) 1 rfl) (okL_k hu (o := 1) 1 rfl) (okL_n hu (o := 1) 1 rfl) e5 ?_
  refine k_iload_n G (dc d_Ru_nextRow 13 rfl) 3 rfl rfl ?_
  refine k_istore G (dc d_Ru_nextRow 14 rfl) (ls' := [(4, .int p1), (3, .int x2), (0, .ref (B.1 + u)), (1, .int p0), (2, .int p1)]) rfl rfl ?_
  refine k_iconst G (dc d_Ru_nextRow 15 rfl) cI_1 ?_
  refine k_istore G (dc d_Ru_nextRow 16 rfl) (ls' := [(5, .int 1), (4, .int p1), (3, .int x2), (0, .ref (B.1 + u)), (1, .int p0), (2, .int p1)]) rfl rfl ?_
  refine kJ h (fun r25 => KK X B L 7 0 0 r25 107 [] []) (fun r25 h => ?_) (fun h => ?_)
  · obtain ⟨M24, rfl⟩ : ∃ z, z = r25 := ⟨_, rfl⟩
    show KK X B L 7 0 0 M24 107 [] []
    exact (kOk_s h) _ _ _ _ rfl rfl (dc d_Ru_nextRow 63 rfl)
  · refine k_sub [3, 4, 2, 1, 0] rfl ?_
    refine kLp_ok (P := fun s26 => KK X B L 7 0 0 s26.2.2.2 23 [(0, .ref (B.1 + u)), (1, .int p0), (3, .int s26.1), (4, .int s26.2.1), (5, .int s26.2.2.1)] []) (fun s26 h => ?_) kFU _ h
    obtain ⟨v3_7, v4_8, v5_9, M10⟩ := s26
    unfold m_Ru_nextRow_l23 at h
    show KK X B L 7 0 0 M10 23 [(0, .ref (B.1 + u)), (1, .int p0), (3, .int v3_7), (4, .int v4_8), (5, .int v5_9)] []
    refine k_iload G (dc d_Ru_nextRow 17 rfl) 4 rfl ?_
    refine k_bipush G (dc d_Ru_nextRow 18 rfl) cB_8 ?_
    refine k_icmp_gt G (dc d_Ru_nextRow 19 rfl) (tgt := 107) rfl (fun c11 => ?_) (fun c11 => ?_)
    · replace h := kOk_p c11 h
      refine k_sub [] rfl ?_
      have h9 := kOk_s h
      exact h9
    · replace h := kOk_n c11 h
      refine k_iload G (dc d_Ru_nextRow 20 rfl) 3 rfl ?_
      refine k_if_eq G (dc d_Ru_nextRow 21 rfl) (tgt := 107) rfl (fun c12 => ?_) (fun c12 => ?_)
      · replace h := kOk_p c12 h
        refine k_sub [] rfl ?_
        have h9 := kOk_s h
        exact h9
      · replace h := kOk_n c12 h
        refine k_iload_n G (dc d_Ru_nextRow 22 rfl) 2 rfl rfl ?_
        refine k_iload G (dc d_Ru_nextRow 23 rfl) 3 rfl ?_
        refine k_bipush G (dc d_Ru_nextRow 24 rfl) cB_10 ?_
        refine k_irem G (dc d_Ru_nextRow 25 rfl) czI_10 ?_
        refine k_iload_n G (dc d_Ru_nextRow 26 rfl) 1 rfl rfl ?_
        refine kJ h (fun r14 => KK X B L 7 0 0 M10 50 [(0, .ref (B.1 + u)), (1, .int p0), (4, .int v4_8), (5, .int v5_9)] [.int r14, .int v3_7]) (fun r14 h => ?_) (fun h => ?_)
        · obtain ⟨t13, rfl⟩ : ∃ z, z = r14 := ⟨_, rfl⟩
          show KK X B L 7 0 0 M10 50 [(0, .ref (B.1 + u)), (1, .int p0), (4, .int v4_8), (5, .int v5_9)] [.int t13, .int v3_7]
          refine k_iadd G (dc d_Ru_nextRow 31 rfl) ?_
          refine k_istore G (dc d_Ru_nextRow 32 rfl) (ls' := [(6, .int (v3_7 + t13)), (0, .ref (B.1 + u)), (1, .int p0), (4, .int v4_8), (5, .int v5_9)]) rfl rfl ?_
          refine k_aload_n G (dc d_Ru_nextRow 33 rfl) 1 rfl rfl ?_
          refine k_getR G kc4 (dc d_Ru_nextRow 34 rfl) (okL_lt hu (o := 0) 0 rfl) (okL_k hu (o := 0) 0 rfl) 0 (by decide) rfl fl_RX4_9 (u + 1) (okL_r hu (o := 0) (c := 1) 0 rfl 0 rfl) ?_
          refine k_iload G (dc d_Ru_nextRow 35 rfl) 4 rfl ?_
          obtain ⟨x16, e15, h⟩ := kOk_b h
          refine k_ild G (dc d_Ru_nextRow 36 rfl) (okL_lt hu (o := 1) 1 rfl) (okL_k hu (o := 1) 1 rfl) (okL_n hu (o := 1) 1 rfl) e15 ?_
          refine k_istore_n G (dc d_Ru_nextRow 37 rfl) (ls' := [(3, .int x16), (6, .int (v3_7 + t13)), (0, .ref (B.1 + u)), (1, .int p0), (4, .int v4_8), (5, .int v5_9)]) rfl rfl rfl ?_
          refine k_aload_n G (dc d_Ru_nextRow 38 rfl) 2 rfl rfl ?_
          refine k_getR G kc4 (dc d_Ru_nextRow 39 rfl) (okL_lt hu (o := 0) 0 rfl) (okL_k hu (o := 0) 0 rfl) 0 (by decide) rfl fl_RX4_9 (u + 1) (okL_r hu (o := 0) (c := 1) 0 rfl 0 rfl) ?_
          refine k_iload G (dc d_Ru_nextRow 40 rfl) 5 rfl ?_
          refine k_iload G (dc d_Ru_nextRow 41 rfl) 1 rfl ?_
          refine k_iconst G (dc d_Ru_nextRow 42 rfl) cI_1 ?_
          refine k_aload_n G (dc d_Ru_nextRow 43 rfl) 2 rfl rfl ?_
          refine k_getR G kc4 (dc d_Ru_nextRow 44 rfl) (okL_lt hu (o := 0) 0 rfl) (okL_k hu (o := 0) 0 rfl) 0 (by decide) rfl fl_RX4_9 (u + 1) (okL_r hu (o := 0) (c := 1) 0 rfl 0 rfl) ?_
          refine k_iload G (dc d_Ru_nextRow 45 rfl) 5 rfl ?_
          obtain ⟨x18, e17, h⟩ := kOk_b h
          refine k_ild G (dc d_Ru_nextRow 46 rfl) (okL_lt hu (o := 1) 1 rfl) (okL_k hu (o := 1) 1 rfl) (okL_n hu (o := 1) 1 rfl) e17 ?_
          refine k_aload_n G (dc d_Ru_nextRow 47 rfl) 2 rfl rfl ?_
          refine k_getR G kc4 (dc d_Ru_nextRow 48 rfl) (okL_lt hu (o := 0) 0 rfl) (okL_k hu (o := 0) 0 rfl) 0 (by decide) rfl fl_RX4_9 (u + 1) (okL_r hu (o := 0) (c := 1) 0 rfl 0 rfl) ?_
          refine k_iload G (dc d_Ru_nextRow 49 rfl) 5 rfl ?_
          refine k_iconst G (dc d_Ru_nextRow 50 rfl) cI_1 ?_
          refine k_isub G (dc d_Ru_nextRow 51 rfl) ?_
          obtain ⟨x20, e19, h⟩ := kOk_b h
          refine k_ild G (dc d_Ru_nextRow 52 rfl) (okL_lt hu (o := 1) 1 rfl) (okL_k hu (o := 1) 1 rfl) (okL_n hu (o := 1) 1 rfl) e19 ?_
          refine k_min G (dc d_Ru_nextRow 53 rfl) ml_RX4_25 mathmin ⟨rfl, rfl, rfl, rfl⟩ ?_
          refine k_iadd G (dc d_Ru_nextRow 54 rfl) ?_
          refine k_min G (dc d_Ru_nextRow 55 rfl) ml_RX4_25 mathmin ⟨rfl, rfl, rfl, rfl⟩ ?_
          obtain ⟨M22, e21, h⟩ := kOk_b h
          refine k_ist G (dc d_Ru_nextRow 56 rfl) (okL_lt hu (o := 1) 1 rfl) (okL_k hu (o := 1) 1 rfl) (okL_n hu (o := 1) 1 rfl) e21 ?_
          refine k_iload G (dc d_Ru_nextRow 57 rfl) 4 rfl ?_
          refine k_bipush G (dc d_Ru_nextRow 58 rfl) cB_10 ?_
          refine k_idiv G (dc d_Ru_nextRow 59 rfl) czI_10 ?_
          refine k_istore G (dc d_Ru_nextRow 60 rfl) (ls' := [(4, .int (v4_8 / 10)), (3, .int x16), (6, .int (v3_7 + t13)), (0, .ref (B.1 + u)), (1, .int p0), (5, .int v5_9)]) rfl rfl ?_
          refine k_iinc G (dc d_Ru_nextRow 61 rfl) (ls' := [(5, .int (v5_9 + 1)), (4, .int (v4_8 / 10)), (3, .int x16), (6, .int (v3_7 + t13)), (0, .ref (B.1 + u)), (1, .int p0)]) 5 rfl cI_1 rfl rfl ?_
          refine k_goto G (dc d_Ru_nextRow 62 rfl) (tgt := 23) rfl ?_
          refine k_sub [4, 5, 2, 1, 0] rfl ?_
          have h9 := kOk_s h
          exact h9
        · refine k_icmp_ne G (dc d_Ru_nextRow 27 rfl) (tgt := 49) rfl (fun c23 => ?_) (fun c23 => ?_)
          · replace h := kOk_n c23 h
            refine k_iconst G (dc d_Ru_nextRow 30 rfl) cI_1 ?_
            refine k_sub [0, 1, 3, 4] rfl ?_
            have h9 := kOk_s h
            exact h9
          · replace h := kOk_p c23 h
            refine k_iconst G (dc d_Ru_nextRow 28 rfl) cI_0 ?_
            refine k_goto G (dc d_Ru_nextRow 29 rfl) (tgt := 50) rfl ?_
            refine k_sub [0, 1, 3, 4] rfl ?_
            have h9 := kOk_s h
            exact h9
theorem c_Ru_nextRow {l : Launch} {B : KB} {L : KLay} {M : KMem} {u : Nat} {p0 : Int32} {p1 : Int32} (hst : l.stackTraces = false) (hu : okL L u ruT) {M' : KMem} (e : m_Ru_nextRow u p0 p1 M = some M') : CtrN l B yX4_nextRow cX4_nextRow 7 none rm_Ru_nextRow [.ref (B.1 + u), .int p0, .int p1] L M none L M' :=
  mk_V rfl hst rfl (fun X hl G _ R => b_Ru_nextRow G hu ⟨_, e, R⟩)
def I_Ru_measured : List (Nat × Instr × Nat) := [(0, .iconst 0, 1), (1, .istore_n 3, 1), (2, .iload_n 3, 1), (3, .bipush 8, 2), (5, .if_icmp .gt 16, 3), (8, .aload_n 0, 1), (9, .getfield 9, 3), (12, .iload_n 3, 1), (13, .iload_n 3, 1), (14, .iastore, 1), (15, .iinc 3 1, 3), (18, .goto (-16), 3), (21, .iload_n 1, 1), (22, .istore_n 3, 1), (23, .iconst 0, 1), (24, .istore 4, 2), (26, .iload 4, 2), (28, .bipush 8, 2), (30, .if_icmp .ge 27, 3), (33, .iload_n 3, 1), (34, .ifCond .eq 23, 3), (37, .aload_n 0, 1), (38, .iload_n 3, 1), (39, .bipush 10, 2), (41, .irem, 1), (42, .iload_n 2, 1), (43, .invokevirtual 15, 3), (46, .iload_n 3, 1), (47, .bipush 10, 2), (49, .idiv, 1), (50, .istore_n 3, 1), (51, .iinc 4 1, 3), (54, .goto (-28), 3), (57, .aload_n 0, 1), (58, .getfield 9, 3), (61, .iload_n 2, 1), (62, .invokestatic 19, 3), (65, .iaload, 1), (66, .ireturn, 1)]
set_option maxRecDepth 100000 in
theorem d_Ru_measured : decA cX4_measured I_Ru_measured = true := by decide +kernel
abbrev rm_Ru_measured : Room := ({ frames := 2, cells := 0, slots := 0, locals := 47 } : Room)
def m_Ru_measured_l2 (u : Nat) : (Int32 × KMem) → Option ((Int32 × KMem) ⊕ KMem) := fun (v3_1, M2) =>
 if 8 < v3_1 then
 (some (.inr M2))
 else
 (Option.bind (wrI M2 (u + 1) 9 v3_1 v3_1) fun M5 =>
 some (.inl (v3_1 + 1, M5)))
def m_Ru_measured_l26 (u : Nat) (p1 : Int32) : (Int32 × Int32 × KMem) → Option ((Int32 × Int32 × KMem) ⊕ KMem) := fun (v3_7, v4_8, M9) =>
 if 8 ≤ v4_8 then
 (some (.inr M9))
 else
 (if v3_7 = 0 then
 (some (.inr M9))
 else
 (Option.bind (m_Ru_nextRow u (jrem v3_7 10) p1 M9) fun M13 =>
 some (.inl (v3_7 / 10, v4_8 + 1, M13))))
def m_Ru_measured (u : Nat) (p0 : Int32) (p1 : Int32) (M : KMem) : Option (Int32 × KMem) :=
 Option.bind (α := KMem) (kLp (m_Ru_measured_l2 u) kFU (0, M)) fun M6 =>
 Option.bind (α := KMem) (kLp (m_Ru_measured_l26 u p1) kFU (p0, 0, M6)) fun M14 =>
 Option.bind (m_Wo_letters p1) fun x16 =>
 Option.bind (rdI M14 (u + 1) 9 x16) fun x18 =>
 some (x18, M14)
set_option maxHeartbeats 4000000 in
set_option maxRecDepth 100000 in
theorem b_Ru_measured {X : KX} {B : KB} {L : KLay} {M : KMem} {u : Nat} {p0 : Int32} {p1 : Int32} (G : Good X B RX4 cX4_measured 5 rm_Ru_measured) (hu : okL L u ruT) (h : kOk (m_Ru_measured u p0 p1 M) (fun r => RI X B L 5 cX4_measured .int rm_Ru_measured r.1 r.2)) : KK X B L 5 0 0 M 0 [(0, .ref (B.1 + u)), (1, .int p0), (2, .int p1)] [] := by
  unfold m_Ru_measured at h
  refine k_iconst G (dc d_Ru_measured 0 rfl) cI_0 ?_
  refine k_istore_n G (dc d_Ru_measured 1 rfl) (ls' := [(3, .int 0), (0, .ref (B.1 + u)), (1, .int p0), (2, .int p1)]) rfl rfl rfl ?_
  refine kJ h (fun r21 => KK X B L 5 0 0 r21 21 [(0, .ref (B.1 + u)), (1, .int p0), (2, .int p1)] []) (fun r21 h => ?_) (fun h => ?_)
  · obtain ⟨M6, rfl⟩ : ∃ z, z = r21 := ⟨_, rfl⟩
    show KK X B L 5 0 0 M6 21 [(0, .ref (B.1 + u)), (1, .int p0), (2, .int p1)] []
    refine k_iload_n G (dc d_Ru_measured 12 rfl) 1 rfl rfl ?_
    refine k_istore_n G (dc d_Ru_measured 13 rfl) (ls' := [(3, .int p0), (0, .ref (B.1 + u)), (1, .int p0), (2, .int p1)]) rfl rfl rfl ?_
    refine k_iconst G (dc d_Ru_measured 14 rfl) cI_0 ?_
    refine k_istore G (dc d_Ru_measured 15 rfl) (ls' := [(4, .int 0), (3, .int p0), (0, .ref (B.1 + u)), (1, .int p0), (2, .int p1)]) rfl rfl ?_
    refine kJ h (fun r19 => KK X B L 5 0 0 r19 57 [(0, .ref (B.1 + u)), (2, .int p1)] []) (fun r19 h => ?_) (fun h => ?_)
    · obtain ⟨M14, rfl⟩ : ∃ z, z = r19 := ⟨_, rfl⟩
      show KK X B L 5 0 0 M14 57 [(0, .ref (B.1 + u)), (2, .int p1)] []
      refine k_aload_n G (dc d_Ru_measured 33 rfl) 0 rfl rfl ?_
      refine k_getR G kc4 (dc d_Ru_measured 34 rfl) (okL_lt hu (o := 0) 0 rfl) (okL_k hu (o := 0) 0 rfl) 0 (by decide) rfl fl_RX4_9 (u + 1) (okL_r hu (o := 0) (c := 1) 0 rfl 0 rfl) ?_
      refine k_iload_n G (dc d_Ru_measured 35 rfl) 1 rfl rfl ?_
      obtain ⟨x16, e15, h⟩ := kOk_b h
      refine k_cSI G (dc d_Ru_measured 36 rfl) mi_Wo_letters ms_Wo_letters ml_RX4_19 (c_Wo_letters (gst G)  e15) rfl rfl ⟨rfl, rfl⟩ rfl ⟨rfl, rfl⟩ ⟨rfl, rfl⟩ ?_
      obtain ⟨x18, e17, h⟩ := kOk_b h
      refine k_ild G (dc d_Ru_measured 37 rfl) (okL_lt hu (o := 1) 1 rfl) (okL_k hu (o := 1) 1 rfl) (okL_n hu (o := 1) 1 rfl) e17 ?_
      exact (kOk_s h) _ _ _ _ rfl rfl rfl (dc d_Ru_measured 38 rfl)
    · refine k_sub [2, 4, 1, 0] rfl ?_
      refine kLp_ok (P := fun s20 => KK X B L 5 0 0 s20.2.2 26 [(0, .ref (B.1 + u)), (2, .int p1), (3, .int s20.1), (4, .int s20.2.1)] []) (fun s20 h => ?_) kFU _ h
      obtain ⟨v3_7, v4_8, M9⟩ := s20
      unfold m_Ru_measured_l26 at h
      show KK X B L 5 0 0 M9 26 [(0, .ref (B.1 + u)), (2, .int p1), (3, .int v3_7), (4, .int v4_8)] []
      refine k_iload G (dc d_Ru_measured 16 rfl) 3 rfl ?_
      refine k_bipush G (dc d_Ru_measured 17 rfl) cB_8 ?_
      refine k_icmp_ge G (dc d_Ru_measured 18 rfl) (tgt := 57) rfl (fun c10 => ?_) (fun c10 => ?_)
      · replace h := kOk_p c10 h
        refine k_sub [0, 1] rfl ?_
        have h9 := kOk_s h
        exact h9
      · replace h := kOk_n c10 h
        refine k_iload_n G (dc d_Ru_measured 19 rfl) 2 rfl rfl ?_
        refine k_if_eq G (dc d_Ru_measured 20 rfl) (tgt := 57) rfl (fun c11 => ?_) (fun c11 => ?_)
        · replace h := kOk_p c11 h
          refine k_sub [0, 1] rfl ?_
          have h9 := kOk_s h
          exact h9
        · replace h := kOk_n c11 h
          refine k_aload_n G (dc d_Ru_measured 21 rfl) 0 rfl rfl ?_
          refine k_iload_n G (dc d_Ru_measured 22 rfl) 2 rfl rfl ?_
          refine k_bipush G (dc d_Ru_measured 23 rfl) cB_10 ?_
          refine k_irem G (dc d_Ru_measured 24 rfl) czI_10 ?_
          refine k_iload_n G (dc d_Ru_measured 25 rfl) 1 rfl rfl ?_
          obtain ⟨M13, e12, h⟩ := kOk_b h
          refine k_cVV G (dc d_Ru_measured 26 rfl) kc4 (okL_lt hu (o := 0) 0 rfl) (okL_k hu (o := 0) 0 rfl) mi_Ru_nextRow mv_Ru_nextRow rfl ml_RX4_15 (c_Ru_nextRow (gst G) hu e12) rfl rfl ⟨rfl, rfl⟩ rfl ⟨rfl, rfl⟩ ⟨rfl, rfl⟩ ?_
          refine k_iload_n G (dc d_Ru_measured 27 rfl) 2 rfl rfl ?_
          refine k_bipush G (dc d_Ru_measured 28 rfl) cB_10 ?_
          refine k_idiv G (dc d_Ru_measured 29 rfl) czI_10 ?_
          refine k_istore_n G (dc d_Ru_measured 30 rfl) (ls' := [(3, .int (v3_7 / 10)), (0, .ref (B.1 + u)), (2, .int p1), (4, .int v4_8)]) rfl rfl rfl ?_
          refine k_iinc G (dc d_Ru_measured 31 rfl) (ls' := [(4, .int (v4_8 + 1)), (3, .int (v3_7 / 10)), (0, .ref (B.1 + u)), (2, .int p1)]) 3 rfl cI_1 rfl rfl ?_
          refine k_goto G (dc d_Ru_measured 32 rfl) (tgt := 26) rfl ?_
          refine k_sub [2, 3, 1, 0] rfl ?_
          have h9 := kOk_s h
          exact h9
  · refine k_sub [1, 2, 3, 0] rfl ?_
    refine kLp_ok (P := fun s22 => KK X B L 5 0 0 s22.2 2 [(0, .ref (B.1 + u)), (1, .int p0), (2, .int p1), (3, .int s22.1)] []) (fun s22 h => ?_) kFU _ h
    obtain ⟨v3_1, M2⟩ := s22
    unfold m_Ru_measured_l2 at h
    show KK X B L 5 0 0 M2 2 [(0, .ref (B.1 + u)), (1, .int p0), (2, .int p1), (3, .int v3_1)] []
    refine k_iload_n G (dc d_Ru_measured 2 rfl) 3 rfl rfl ?_
    refine k_bipush G (dc d_Ru_measured 3 rfl) cB_8 ?_
    refine k_icmp_gt G (dc d_Ru_measured 4 rfl) (tgt := 21) rfl (fun c3 => ?_) (fun c3 => ?_)
    · replace h := kOk_p c3 h
      refine k_sub [0, 1, 2] rfl ?_
      have h9 := kOk_s h
      exact h9
    · replace h := kOk_n c3 h
      refine k_aload_n G (dc d_Ru_measured 5 rfl) 0 rfl rfl ?_
      refine k_getR G kc4 (dc d_Ru_measured 6 rfl) (okL_lt hu (o := 0) 0 rfl) (okL_k hu (o := 0) 0 rfl) 0 (by decide) rfl fl_RX4_9 (u + 1) (okL_r hu (o := 0) (c := 1) 0 rfl 0 rfl) ?_
      refine k_iload_n G (dc d_Ru_measured 7 rfl) 3 rfl rfl ?_
      refine k_iload_n G (dc d_Ru_measured 8 rfl) 3 rfl rfl ?_
      obtain ⟨M5, e4, h⟩ := kOk_b h
      refine k_ist G (dc d_Ru_measured 9 rfl) (okL_lt hu (o := 1) 1 rfl) (okL_k hu (o := 1) 1 rfl) (okL_n hu (o := 1) 1 rfl) e4 ?_
      refine k_iinc G (dc d_Ru_measured 10 rfl) (ls' := [(3, .int (v3_1 + 1)), (0, .ref (B.1 + u)), (1, .int p0), (2, .int p1)]) 3 rfl cI_1 rfl rfl ?_
      refine k_goto G (dc d_Ru_measured 11 rfl) (tgt := 2) rfl ?_
      refine k_sub [1, 2, 3, 0] rfl ?_
      have h9 := kOk_s h
      exact h9
theorem c_Ru_measured {l : Launch} {B : KB} {L : KLay} {M : KMem} {u : Nat} {p0 : Int32} {p1 : Int32} (hst : l.stackTraces = false) (hu : okL L u ruT) {r : Int32} {M' : KMem} (e : m_Ru_measured u p0 p1 M = some (r, M')) : CtrN l B yX4_measured cX4_measured 5 (some .int) rm_Ru_measured [.ref (B.1 + u), .int p0, .int p1] L M (some (.int r)) L M' :=
  mk_I rfl hst rfl (fun X hl G _ R => b_Ru_measured G hu ⟨_, e, R⟩)
end
section
/-! laid by wip/whole/lay.py: Fl_let, Fl_joinedTo, Fl_pastDecree, Fl_through, Fl_spellingOf -/
def I_Fl_let : List (Nat × Instr × Nat) := [(0, .aload_n 1, 1), (1, .iload_n 2, 1), (2, .iconst 0, 1), (3, .invokevirtual 48, 3), (6, .istore 4, 2), (8, .iload_n 3, 1), (9, .aload_n 1, 1), (10, .iload_n 2, 1), (11, .iconst 1, 1), (12, .invokevirtual 48, 3), (15, .if_icmp .ne 7, 3), (18, .iconst 1, 1), (19, .goto 4, 3), (22, .iconst 0, 1), (23, .istore 5, 2), (25, .iload 4, 2), (27, .ifCond .ne 14, 3), (30, .iload 5, 2), (32, .ifCond .eq 7, 3), (35, .iconst 0, 1), (36, .goto 4, 3), (39, .iload_n 3, 1), (40, .ireturn, 1), (41, .aload_n 0, 1), (42, .getfield 9, 3), (45, .iload_n 2, 1), (46, .iaload, 1), (47, .istore 6, 2), (49, .iload 4, 2), (51, .iconst 1, 1), (52, .if_icmp .ne 32, 3), (55, .iload 6, 2), (57, .ifCond .eq 27, 3), (60, .iload_n 3, 1), (61, .aload_n 1, 1), (62, .iload_n 2, 1), (63, .iconst 2, 1), (64, .invokevirtual 48, 3), (67, .if_icmp .ne 17, 3), (70, .aload_n 0, 1), (71, .getfield 9, 3), (74, .iload_n 2, 1), (75, .iconst 0, 1), (76, .iastore, 1), (77, .aload_n 1, 1), (78, .iload_n 2, 1), (79, .iconst 3, 1), (80, .invokevirtual 48, 3), (83, .ireturn, 1), (84, .aload_n 0, 1), (85, .getfield 9, 3), (88, .iload_n 2, 1), (89, .iload 5, 2), (91, .ifCond .eq 7, 3), (94, .iload_n 3, 1), (95, .goto 4, 3), (98, .iconst 0, 1), (99, .iastore, 1), (100, .iload 5, 2), (102, .ifCond .eq 16, 3), (105, .iload 4, 2), (107, .iconst 1, 1), (108, .if_icmp .ne 8, 3), (111, .iload 6, 2), (113, .goto 4, 3), (116, .iconst 0, 1), (117, .ireturn, 1), (118, .iload 6, 2), (120, .bipush 10, 2), (122, .imul, 1), (123, .iload_n 3, 1), (124, .iadd, 1), (125, .ireturn, 1)]
set_option maxRecDepth 100000 in
theorem d_Fl_let : decA cX1_let I_Fl_let = true := by decide +kernel
abbrev rm_Fl_let : Room := ({ frames := 2, cells := 0, slots := 0, locals := 43 } : Room)
def m_Fl_let (u : Nat) (p0 : Nat) (p1 : Int32) (p2 : Int32) (M : KMem) : Option (Int32 × KMem) :=
 Option.bind (m_De_number p0 p1 0 M) fun x2 =>
 Option.bind (m_De_number p0 p1 1 M) fun x4 =>
 Option.bind (α := Int32) (if p2 = x4 then
 (some 1)
 else
 (some 0)) fun t5 =>
 if x2 = 0 then
 (Option.bind (α := Int32) (if t5 = 0 then
 (some p2)
 else
 (some 0)) fun t46 =>
 some (t46, M))
 else
 (Option.bind (rdI M (u + 1) 10 p1) fun x9 =>
 if x2 = 1 then
 (if x9 = 0 then
 (Option.bind (α := Int32) (if t5 = 0 then
 (some 0)
 else
 (some p2)) fun t21 =>
 Option.bind (wrI M (u + 1) 10 p1 t21) fun M24 =>
 if t5 = 0 then
 (some ((x9 * 10) + p2, M24))
 else
 (Option.bind (α := Int32) (if x2 = 1 then
 (some x9)
 else
 (some 0)) fun t26 =>
 some (t26, M24)))
 else
 (Option.bind (m_De_number p0 p1 2 M) fun x31 =>
 if p2 = x31 then
 (Option.bind (wrI M (u + 1) 10 p1 0) fun M43 =>
 Option.bind (m_De_number p0 p1 3 M43) fun x45 =>
 some (x45, M43))
 else
 (Option.bind (α := Int32) (if t5 = 0 then
 (some 0)
 else
 (some p2)) fun t33 =>
 Option.bind (wrI M (u + 1) 10 p1 t33) fun M36 =>
 if t5 = 0 then
 (some ((x9 * 10) + p2, M36))
 else
 (Option.bind (α := Int32) (if x2 = 1 then
 (some x9)
 else
 (some 0)) fun t38 =>
 some (t38, M36)))))
 else
 (Option.bind (α := Int32) (if t5 = 0 then
 (some 0)
 else
 (some p2)) fun t11 =>
 Option.bind (wrI M (u + 1) 10 p1 t11) fun M14 =>
 if t5 = 0 then
 (some ((x9 * 10) + p2, M14))
 else
 (Option.bind (α := Int32) (if x2 = 1 then
 (some x9)
 else
 (some 0)) fun t16 =>
 some (t16, M14))))
set_option maxHeartbeats 4000000 in
set_option maxRecDepth 100000 in
theorem b_Fl_let {X : KX} {B : KB} {L : KLay} {M : KMem} {u : Nat} {p0 : Nat} {p1 : Int32} {p2 : Int32} (G : Good X B RX1 cX1_let 7 rm_Fl_let) (hu : okL L u flT) (hp0 : okL L p0 deT) (h : kOk (m_Fl_let u p0 p1 p2 M) (fun r => RI X B L 7 cX1_let .int rm_Fl_let r.1 r.2)) : KK X B L 7 0 0 M 0 [(0, .ref (B.1 + u)), (1, .ref (B.1 + p0)), (2, .int p1), (3, .int p2)] [] := by
  unfold m_Fl_let at h
  refine k_aload_n G (dc d_Fl_let 0 rfl) 1 rfl rfl ?_
  refine k_iload_n G (dc d_Fl_let 1 rfl) 2 rfl rfl ?_
  refine k_iconst G (dc d_Fl_let 2 rfl) cI_0 ?_
  obtain ⟨x2, e1, h⟩ := kOk_b h
  refine k_cVI G (dc d_Fl_let 3 rfl) kc0 (okL_lt hp0 (o := 0) 0 rfl) (okL_k hp0 (o := 0) 0 rfl) mi_De_number mv_De_number rfl ml_RX1_48 (c_De_number (gst G) hp0 e1) rfl rfl ⟨rfl, rfl⟩ rfl ⟨rfl, rfl⟩ ⟨rfl, rfl⟩ ?_
  refine k_istore G (dc d_Fl_let 4 rfl) (ls' := [(4, .int x2), (0, .ref (B.1 + u)), (1, .ref (B.1 + p0)), (2, .int p1), (3, .int p2)]) rfl rfl ?_
  refine k_iload_n G (dc d_Fl_let 5 rfl) 4 rfl rfl ?_
  refine k_aload_n G (dc d_Fl_let 6 rfl) 2 rfl rfl ?_
  refine k_iload_n G (dc d_Fl_let 7 rfl) 3 rfl rfl ?_
  refine k_iconst G (dc d_Fl_let 8 rfl) cI_1 ?_
  obtain ⟨x4, e3, h⟩ := kOk_b h
  refine k_cVI G (dc d_Fl_let 9 rfl) kc0 (okL_lt hp0 (o := 0) 0 rfl) (okL_k hp0 (o := 0) 0 rfl) mi_De_number mv_De_number rfl ml_RX1_48 (c_De_number (gst G) hp0 e3) rfl rfl ⟨rfl, rfl⟩ rfl ⟨rfl, rfl⟩ ⟨rfl, rfl⟩ ?_
  refine kJ h (fun r6 => KK X B L 7 0 0 M 23 [(0, .ref (B.1 + u)), (1, .ref (B.1 + p0)), (2, .int p1), (3, .int p2), (4, .int x2)] [.int r6]) (fun r6 h => ?_) (fun h => ?_)
  · obtain ⟨t5, rfl⟩ : ∃ z, z = r6 := ⟨_, rfl⟩
    show KK X B L 7 0 0 M 23 [(0, .ref (B.1 + u)), (1, .ref (B.1 + p0)), (2, .int p1), (3, .int p2), (4, .int x2)] [.int t5]
    refine k_istore G (dc d_Fl_let 14 rfl) (ls' := [(5, .int t5), (0, .ref (B.1 + u)), (1, .ref (B.1 + p0)), (2, .int p1), (3, .int p2), (4, .int x2)]) rfl rfl ?_
    refine k_iload G (dc d_Fl_let 15 rfl) 5 rfl ?_
    refine k_if_ne G (dc d_Fl_let 16 rfl) (tgt := 41) rfl (fun c7 => ?_) (fun c7 => ?_)
    · replace h := kOk_n c7 h
      refine k_aload_n G (dc d_Fl_let 23 rfl) 1 rfl rfl ?_
      refine k_getR G kc1 (dc d_Fl_let 24 rfl) (okL_lt hu (o := 0) 0 rfl) (okL_k hu (o := 0) 0 rfl) 0 (by decide) rfl fl_RX1_9 (u + 1) (okL_r hu (o := 0) (c := 1) 0 rfl 0 rfl) ?_
      refine k_iload_n G (dc d_Fl_let 25 rfl) 3 rfl rfl ?_
      obtain ⟨x9, e8, h⟩ := kOk_b h
      refine k_ild G (dc d_Fl_let 26 rfl) (okL_lt hu (o := 1) 1 rfl) (okL_k hu (o := 1) 1 rfl) (okL_n hu (o := 1) 1 rfl) e8 ?_
      refine k_istore G (dc d_Fl_let 27 rfl) (ls' := [(6, .int x9), (5, .int t5), (0, .ref (B.1 + u)), (1, .ref (B.1 + p0)), (2, .int p1), (3, .int p2), (4, .int x2)]) rfl rfl ?_
      refine k_iload G (dc d_Fl_let 28 rfl) 6 rfl ?_
      refine k_iconst G (dc d_Fl_let 29 rfl) cI_1 ?_
      refine k_icmp_ne G (dc d_Fl_let 30 rfl) (tgt := 84) rfl (fun c10 => ?_) (fun c10 => ?_)
      · replace h := kOk_n c10 h
        refine k_aload_n G (dc d_Fl_let 49 rfl) 2 rfl rfl ?_
        refine k_getR G kc1 (dc d_Fl_let 50 rfl) (okL_lt hu (o := 0) 0 rfl) (okL_k hu (o := 0) 0 rfl) 0 (by decide) rfl fl_RX1_9 (u + 1) (okL_r hu (o := 0) (c := 1) 0 rfl 0 rfl) ?_
        refine k_iload_n G (dc d_Fl_let 51 rfl) 4 rfl rfl ?_
        refine k_iload G (dc d_Fl_let 52 rfl) 1 rfl ?_
        refine kJ h (fun r12 => KK X B L 7 0 0 M 99 [(3, .int p2), (4, .int x2), (5, .int t5), (6, .int x9)] [.int r12, .int p1, .ref (B.1 + (u + 1))]) (fun r12 h => ?_) (fun h => ?_)
        · obtain ⟨t11, rfl⟩ : ∃ z, z = r12 := ⟨_, rfl⟩
          show KK X B L 7 0 0 M 99 [(3, .int p2), (4, .int x2), (5, .int t5), (6, .int x9)] [.int t11, .int p1, .ref (B.1 + (u + 1))]
          obtain ⟨M14, e13, h⟩ := kOk_b h
          refine k_ist G (dc d_Fl_let 57 rfl) (okL_lt hu (o := 1) 1 rfl) (okL_k hu (o := 1) 1 rfl) (okL_n hu (o := 1) 1 rfl) e13 ?_
          refine k_iload G (dc d_Fl_let 58 rfl) 2 rfl ?_
          refine k_if_eq G (dc d_Fl_let 59 rfl) (tgt := 118) rfl (fun c15 => ?_) (fun c15 => ?_)
          · replace h := kOk_p c15 h
            refine k_iload G (dc d_Fl_let 67 rfl) 3 rfl ?_
            refine k_bipush G (dc d_Fl_let 68 rfl) cB_10 ?_
            refine k_imul G (dc d_Fl_let 69 rfl) ?_
            refine k_iload_n G (dc d_Fl_let 70 rfl) 0 rfl rfl ?_
            refine k_iadd G (dc d_Fl_let 71 rfl) ?_
            exact (kOk_s h) _ _ _ _ rfl rfl rfl (dc d_Fl_let 72 rfl)
          · replace h := kOk_n c15 h
            refine k_iload G (dc d_Fl_let 60 rfl) 1 rfl ?_
            refine k_iconst G (dc d_Fl_let 61 rfl) cI_1 ?_
            refine kJ h (fun r17 => KK X B L 7 0 0 M14 117 [] [.int r17]) (fun r17 h => ?_) (fun h => ?_)
            · obtain ⟨t16, rfl⟩ : ∃ z, z = r17 := ⟨_, rfl⟩
              show KK X B L 7 0 0 M14 117 [] [.int t16]
              exact (kOk_s h) _ _ _ _ rfl rfl rfl (dc d_Fl_let 66 rfl)
            · refine k_icmp_ne G (dc d_Fl_let 62 rfl) (tgt := 116) rfl (fun c18 => ?_) (fun c18 => ?_)
              · replace h := kOk_n c18 h
                refine k_iconst G (dc d_Fl_let 65 rfl) cI_0 ?_
                refine k_sub [] rfl ?_
                have h9 := kOk_s h
                exact h9
              · replace h := kOk_p c18 h
                refine k_iload G (dc d_Fl_let 63 rfl) 3 rfl ?_
                refine k_goto G (dc d_Fl_let 64 rfl) (tgt := 117) rfl ?_
                refine k_sub [] rfl ?_
                have h9 := kOk_s h
                exact h9
        · refine k_if_eq G (dc d_Fl_let 53 rfl) (tgt := 98) rfl (fun c19 => ?_) (fun c19 => ?_)
          · replace h := kOk_p c19 h
            refine k_iconst G (dc d_Fl_let 56 rfl) cI_0 ?_
            refine k_sub [5, 6, 1, 0] rfl ?_
            have h9 := kOk_s h
            exact h9
          · replace h := kOk_n c19 h
            refine k_iload_n G (dc d_Fl_let 54 rfl) 5 rfl rfl ?_
            refine k_goto G (dc d_Fl_let 55 rfl) (tgt := 99) rfl ?_
            refine k_sub [5, 6, 1, 0] rfl ?_
            have h9 := kOk_s h
            exact h9
      · replace h := kOk_p c10 h
        refine k_iload G (dc d_Fl_let 31 rfl) 0 rfl ?_
        refine k_if_eq G (dc d_Fl_let 32 rfl) (tgt := 84) rfl (fun c20 => ?_) (fun c20 => ?_)
        · replace h := kOk_p c20 h
          refine k_aload_n G (dc d_Fl_let 49 rfl) 2 rfl rfl ?_
          refine k_getR G kc1 (dc d_Fl_let 50 rfl) (okL_lt hu (o := 0) 0 rfl) (okL_k hu (o := 0) 0 rfl) 0 (by decide) rfl fl_RX1_9 (u + 1) (okL_r hu (o := 0) (c := 1) 0 rfl 0 rfl) ?_
          refine k_iload_n G (dc d_Fl_let 51 rfl) 4 rfl rfl ?_
          refine k_iload G (dc d_Fl_let 52 rfl) 1 rfl ?_
          refine kJ h (fun r22 => KK X B L 7 0 0 M 99 [(3, .int p2), (4, .int x2), (5, .int t5), (6, .int x9)] [.int r22, .int p1, .ref (B.1 + (u + 1))]) (fun r22 h => ?_) (fun h => ?_)
          · obtain ⟨t21, rfl⟩ : ∃ z, z = r22 := ⟨_, rfl⟩
            show KK X B L 7 0 0 M 99 [(3, .int p2), (4, .int x2), (5, .int t5), (6, .int x9)] [.int t21, .int p1, .ref (B.1 + (u + 1))]
            obtain ⟨M24, e23, h⟩ := kOk_b h
            refine k_ist G (dc d_Fl_let 57 rfl) (okL_lt hu (o := 1) 1 rfl) (okL_k hu (o := 1) 1 rfl) (okL_n hu (o := 1) 1 rfl) e23 ?_
            refine k_iload G (dc d_Fl_let 58 rfl) 2 rfl ?_
            refine k_if_eq G (dc d_Fl_let 59 rfl) (tgt := 118) rfl (fun c25 => ?_) (fun c25 => ?_)
            · replace h := kOk_p c25 h
              refine k_iload G (dc d_Fl_let 67 rfl) 3 rfl ?_
              refine k_bipush G (dc d_Fl_let 68 rfl) cB_10 ?_
              refine k_imul G (dc d_Fl_let 69 rfl) ?_
              refine k_iload_n G (dc d_Fl_let 70 rfl) 0 rfl rfl ?_
              refine k_iadd G (dc d_Fl_let 71 rfl) ?_
              exact (kOk_s h) _ _ _ _ rfl rfl rfl (dc d_Fl_let 72 rfl)
            · replace h := kOk_n c25 h
              refine k_iload G (dc d_Fl_let 60 rfl) 1 rfl ?_
              refine k_iconst G (dc d_Fl_let 61 rfl) cI_1 ?_
              refine kJ h (fun r27 => KK X B L 7 0 0 M24 117 [] [.int r27]) (fun r27 h => ?_) (fun h => ?_)
              · obtain ⟨t26, rfl⟩ : ∃ z, z = r27 := ⟨_, rfl⟩
                show KK X B L 7 0 0 M24 117 [] [.int t26]
                exact (kOk_s h) _ _ _ _ rfl rfl rfl (dc d_Fl_let 66 rfl)
              · refine k_icmp_ne G (dc d_Fl_let 62 rfl) (tgt := 116) rfl (fun c28 => ?_) (fun c28 => ?_)
                · replace h := kOk_n c28 h
                  refine k_iconst G (dc d_Fl_let 65 rfl) cI_0 ?_
                  refine k_sub [] rfl ?_
                  have h9 := kOk_s h
                  exact h9
                · replace h := kOk_p c28 h
                  refine k_iload G (dc d_Fl_let 63 rfl) 3 rfl ?_
                  refine k_goto G (dc d_Fl_let 64 rfl) (tgt := 117) rfl ?_
                  refine k_sub [] rfl ?_
                  have h9 := kOk_s h
                  exact h9
          · refine k_if_eq G (dc d_Fl_let 53 rfl) (tgt := 98) rfl (fun c29 => ?_) (fun c29 => ?_)
            · replace h := kOk_p c29 h
              refine k_iconst G (dc d_Fl_let 56 rfl) cI_0 ?_
              refine k_sub [5, 6, 1, 0] rfl ?_
              have h9 := kOk_s h
              exact h9
            · replace h := kOk_n c29 h
              refine k_iload_n G (dc d_Fl_let 54 rfl) 5 rfl rfl ?_
              refine k_goto G (dc d_Fl_let 55 rfl) (tgt := 99) rfl ?_
              refine k_sub [5, 6, 1, 0] rfl ?_
              have h9 := kOk_s h
              exact h9
        · replace h := kOk_n c20 h
          refine k_iload_n G (dc d_Fl_let 33 rfl) 5 rfl rfl ?_
          refine k_aload_n G (dc d_Fl_let 34 rfl) 3 rfl rfl ?_
          refine k_iload_n G (dc d_Fl_let 35 rfl) 4 rfl rfl ?_
          refine k_iconst G (dc d_Fl_let 36 rfl) cI_2 ?_
          obtain ⟨x31, e30, h⟩ := kOk_b h
          refine k_cVI G (dc d_Fl_let 37 rfl) kc0 (okL_lt hp0 (o := 0) 0 rfl) (okL_k hp0 (o := 0) 0 rfl) mi_De_number mv_De_number rfl ml_RX1_48 (c_De_number (gst G) hp0 e30) rfl rfl ⟨rfl, rfl⟩ rfl ⟨rfl, rfl⟩ ⟨rfl, rfl⟩ ?_
          refine k_icmp_ne G (dc d_Fl_let 38 rfl) (tgt := 84) rfl (fun c32 => ?_) (fun c32 => ?_)
          · replace h := kOk_n c32 h
            refine k_aload_n G (dc d_Fl_let 49 rfl) 2 rfl rfl ?_
            refine k_getR G kc1 (dc d_Fl_let 50 rfl) (okL_lt hu (o := 0) 0 rfl) (okL_k hu (o := 0) 0 rfl) 0 (by decide) rfl fl_RX1_9 (u + 1) (okL_r hu (o := 0) (c := 1) 0 rfl 0 rfl) ?_
            refine k_iload_n G (dc d_Fl_let 51 rfl) 4 rfl rfl ?_
            refine k_iload G (dc d_Fl_let 52 rfl) 1 rfl ?_
            refine kJ h (fun r34 => KK X B L 7 0 0 M 99 [(3, .int p2), (4, .int x2), (5, .int t5), (6, .int x9)] [.int r34, .int p1, .ref (B.1 + (u + 1))]) (fun r34 h => ?_) (fun h => ?_)
            · obtain ⟨t33, rfl⟩ : ∃ z, z = r34 := ⟨_, rfl⟩
              show KK X B L 7 0 0 M 99 [(3, .int p2), (4, .int x2), (5, .int t5), (6, .int x9)] [.int t33, .int p1, .ref (B.1 + (u + 1))]
              obtain ⟨M36, e35, h⟩ := kOk_b h
              refine k_ist G (dc d_Fl_let 57 rfl) (okL_lt hu (o := 1) 1 rfl) (okL_k hu (o := 1) 1 rfl) (okL_n hu (o := 1) 1 rfl) e35 ?_
              refine k_iload G (dc d_Fl_let 58 rfl) 2 rfl ?_
              refine k_if_eq G (dc d_Fl_let 59 rfl) (tgt := 118) rfl (fun c37 => ?_) (fun c37 => ?_)
              · replace h := kOk_p c37 h
                refine k_iload G (dc d_Fl_let 67 rfl) 3 rfl ?_
                refine k_bipush G (dc d_Fl_let 68 rfl) cB_10 ?_
                refine k_imul G (dc d_Fl_let 69 rfl) ?_
                refine k_iload_n G (dc d_Fl_let 70 rfl) 0 rfl rfl ?_
                refine k_iadd G (dc d_Fl_let 71 rfl) ?_
                exact (kOk_s h) _ _ _ _ rfl rfl rfl (dc d_Fl_let 72 rfl)
              · replace h := kOk_n c37 h
                refine k_iload G (dc d_Fl_let 60 rfl) 1 rfl ?_
                refine k_iconst G (dc d_Fl_let 61 rfl) cI_1 ?_
                refine kJ h (fun r39 => KK X B L 7 0 0 M36 117 [] [.int r39]) (fun r39 h => ?_) (fun h => ?_)
                · obtain ⟨t38, rfl⟩ : ∃ z, z = r39 := ⟨_, rfl⟩
                  show KK X B L 7 0 0 M36 117 [] [.int t38]
                  exact (kOk_s h) _ _ _ _ rfl rfl rfl (dc d_Fl_let 66 rfl)
                · refine k_icmp_ne G (dc d_Fl_let 62 rfl) (tgt := 116) rfl (fun c40 => ?_) (fun c40 => ?_)
                  · replace h := kOk_n c40 h
                    refine k_iconst G (dc d_Fl_let 65 rfl) cI_0 ?_
                    refine k_sub [] rfl ?_
                    have h9 := kOk_s h
                    exact h9
                  · replace h := kOk_p c40 h
                    refine k_iload G (dc d_Fl_let 63 rfl) 3 rfl ?_
                    refine k_goto G (dc d_Fl_let 64 rfl) (tgt := 117) rfl ?_
                    refine k_sub [] rfl ?_
                    have h9 := kOk_s h
                    exact h9
            · refine k_if_eq G (dc d_Fl_let 53 rfl) (tgt := 98) rfl (fun c41 => ?_) (fun c41 => ?_)
              · replace h := kOk_p c41 h
                refine k_iconst G (dc d_Fl_let 56 rfl) cI_0 ?_
                refine k_sub [5, 6, 1, 0] rfl ?_
                have h9 := kOk_s h
                exact h9
              · replace h := kOk_n c41 h
                refine k_iload_n G (dc d_Fl_let 54 rfl) 5 rfl rfl ?_
                refine k_goto G (dc d_Fl_let 55 rfl) (tgt := 99) rfl ?_
                refine k_sub [5, 6, 1, 0] rfl ?_
                have h9 := kOk_s h
                exact h9
          · replace h := kOk_p c32 h
            refine k_aload_n G (dc d_Fl_let 39 rfl) 2 rfl rfl ?_
            refine k_getR G kc1 (dc d_Fl_let 40 rfl) (okL_lt hu (o := 0) 0 rfl) (okL_k hu (o := 0) 0 rfl) 0 (by decide) rfl fl_RX1_9 (u + 1) (okL_r hu (o := 0) (c := 1) 0 rfl 0 rfl) ?_
            refine k_iload_n G (dc d_Fl_let 41 rfl) 4 rfl rfl ?_
            refine k_iconst G (dc d_Fl_let 42 rfl) cI_0 ?_
            obtain ⟨M43, e42, h⟩ := kOk_b h
            refine k_ist G (dc d_Fl_let 43 rfl) (okL_lt hu (o := 1) 1 rfl) (okL_k hu (o := 1) 1 rfl) (okL_n hu (o := 1) 1 rfl) e42 ?_
            refine k_aload_n G (dc d_Fl_let 44 rfl) 3 rfl rfl ?_
            refine k_iload_n G (dc d_Fl_let 45 rfl) 4 rfl rfl ?_
            refine k_iconst G (dc d_Fl_let 46 rfl) cI_3 ?_
            obtain ⟨x45, e44, h⟩ := kOk_b h
            refine k_cVI G (dc d_Fl_let 47 rfl) kc0 (okL_lt hp0 (o := 0) 0 rfl) (okL_k hp0 (o := 0) 0 rfl) mi_De_number mv_De_number rfl ml_RX1_48 (c_De_number (gst G) hp0 e44) rfl rfl ⟨rfl, rfl⟩ rfl ⟨rfl, rfl⟩ ⟨rfl, rfl⟩ ?_
            exact (kOk_s h) _ _ _ _ rfl rfl rfl (dc d_Fl_let 48 rfl)
    · replace h := kOk_p c7 h
      refine k_iload G (dc d_Fl_let 17 rfl) 0 rfl ?_
      refine kJ h (fun r47 => KK X B L 7 0 0 M 40 [] [.int r47]) (fun r47 h => ?_) (fun h => ?_)
      · obtain ⟨t46, rfl⟩ : ∃ z, z = r47 := ⟨_, rfl⟩
        show KK X B L 7 0 0 M 40 [] [.int t46]
        exact (kOk_s h) _ _ _ _ rfl rfl rfl (dc d_Fl_let 22 rfl)
      · refine k_if_eq G (dc d_Fl_let 18 rfl) (tgt := 39) rfl (fun c48 => ?_) (fun c48 => ?_)
        · replace h := kOk_p c48 h
          refine k_iload_n G (dc d_Fl_let 21 rfl) 4 rfl rfl ?_
          refine k_sub [] rfl ?_
          have h9 := kOk_s h
          exact h9
        · replace h := kOk_n c48 h
          refine k_iconst G (dc d_Fl_let 19 rfl) cI_0 ?_
          refine k_goto G (dc d_Fl_let 20 rfl) (tgt := 40) rfl ?_
          refine k_sub [] rfl ?_
          have h9 := kOk_s h
          exact h9
  · refine k_icmp_ne G (dc d_Fl_let 10 rfl) (tgt := 22) rfl (fun c49 => ?_) (fun c49 => ?_)
    · replace h := kOk_n c49 h
      refine k_iconst G (dc d_Fl_let 13 rfl) cI_0 ?_
      refine k_sub [1, 2, 3, 4, 0] rfl ?_
      have h9 := kOk_s h
      exact h9
    · replace h := kOk_p c49 h
      refine k_iconst G (dc d_Fl_let 11 rfl) cI_1 ?_
      refine k_goto G (dc d_Fl_let 12 rfl) (tgt := 23) rfl ?_
      refine k_sub [1, 2, 3, 4, 0] rfl ?_
      have h9 := kOk_s h
      exact h9
theorem c_Fl_let {l : Launch} {B : KB} {L : KLay} {M : KMem} {u : Nat} {p0 : Nat} {p1 : Int32} {p2 : Int32} (hst : l.stackTraces = false) (hu : okL L u flT) (hp0 : okL L p0 deT) {r : Int32} {M' : KMem} (e : m_Fl_let u p0 p1 p2 M = some (r, M')) : CtrN l B yX1_let cX1_let 7 (some .int) rm_Fl_let [.ref (B.1 + u), .ref (B.1 + p0), .int p1, .int p2] L M (some (.int r)) L M' :=
  mk_I rfl hst rfl (fun X hl G _ R => b_Fl_let G hu hp0 ⟨_, e, R⟩)
def I_Fl_joinedTo : List (Nat × Instr × Nat) := [(0, .iload_n 0, 1), (1, .istore_n 2, 1), (2, .iload_n 1, 1), (3, .invokestatic 21, 3), (6, .istore_n 3, 1), (7, .iconst 0, 1), (8, .istore 4, 2), (10, .iload 4, 2), (12, .bipush 8, 2), (14, .if_icmp .ge 28, 3), (17, .iload_n 3, 1), (18, .ifCond .eq 24, 3), (21, .iload_n 2, 1), (22, .bipush 10, 2), (24, .imul, 1), (25, .iload_n 3, 1), (26, .bipush 10, 2), (28, .irem, 1), (29, .iadd, 1), (30, .istore_n 2, 1), (31, .iload_n 3, 1), (32, .bipush 10, 2), (34, .idiv, 1), (35, .istore_n 3, 1), (36, .iinc 4 1, 3), (39, .goto (-29), 3), (42, .iload_n 2, 1), (43, .ireturn, 1)]
set_option maxRecDepth 100000 in
theorem d_Fl_joinedTo : decA cX1_joinedTo I_Fl_joinedTo = true := by decide +kernel
abbrev rm_Fl_joinedTo : Room := ({ frames := 1, cells := 0, slots := 0, locals := 23 } : Room)
def m_Fl_joinedTo_l10  : (Int32 × Int32 × Int32) → Option ((Int32 × Int32 × Int32) ⊕ Int32) := fun (v2_3, v3_4, v4_5) =>
 if 8 ≤ v4_5 then
 (some (.inr v2_3))
 else
 (if v3_4 = 0 then
 (some (.inr v2_3))
 else
 (some (.inl ((v2_3 * 10) + (jrem v3_4 10), v3_4 / 10, v4_5 + 1))))
def m_Fl_joinedTo (p0 : Int32) (p1 : Int32) : Option Int32 :=
 Option.bind (m_Wo_mirrored p1) fun x2 =>
 Option.bind (α := Int32) (kLp m_Fl_joinedTo_l10 kFU (p0, x2, 0)) fun v2_8 =>
 some v2_8
set_option maxHeartbeats 4000000 in
set_option maxRecDepth 100000 in
theorem b_Fl_joinedTo {X : KX} {B : KB} {L : KLay} {M : KMem} {p0 : Int32} {p1 : Int32} (G : Good X B RX1 cX1_joinedTo 5 rm_Fl_joinedTo)  (h : kOk (m_Fl_joinedTo p0 p1) (fun r => RI X B L 5 cX1_joinedTo .int rm_Fl_joinedTo r M)) : KK X B L 5 0 0 M 0 [(0, .int p0), (1, .int p1)] [] := by
  unfold m_Fl_joinedTo at h
  refine k_iload_n G (dc d_Fl_joinedTo 0 rfl) 0 rfl rfl ?_
  refine k_istore_n G (dc d_Fl_joinedTo 1 rfl) (ls' := [(2, .int p0), (0, .int p0), (1, .int p1)]) rfl rfl rfl ?_
  refine k_iload_n G (dc d_Fl_joinedTo 2 rfl) 2 rfl rfl ?_
  obtain ⟨x2, e1, h⟩ := kOk_b h
  refine k_cSI G (dc d_Fl_joinedTo 3 rfl) mi_Wo_mirrored ms_Wo_mirrored ml_RX1_21 (c_Wo_mirrored (gst G)  e1) rfl rfl ⟨rfl, rfl⟩ rfl ⟨rfl, rfl⟩ ⟨rfl, rfl⟩ ?_
  refine k_istore_n G (dc d_Fl_joinedTo 4 rfl) (ls' := [(3, .int x2), (2, .int p0), (0, .int p0), (1, .int p1)]) rfl rfl rfl ?_
  refine k_iconst G (dc d_Fl_joinedTo 5 rfl) cI_0 ?_
  refine k_istore G (dc d_Fl_joinedTo 6 rfl) (ls' := [(4, .int 0), (3, .int x2), (2, .int p0), (0, .int p0), (1, .int p1)]) rfl rfl ?_
  refine kJ h (fun r9 => KK X B L 5 0 0 M 42 [(2, .int r9)] []) (fun r9 h => ?_) (fun h => ?_)
  · obtain ⟨v2_8, rfl⟩ : ∃ z, z = r9 := ⟨_, rfl⟩
    show KK X B L 5 0 0 M 42 [(2, .int v2_8)] []
    refine k_iload_n G (dc d_Fl_joinedTo 26 rfl) 0 rfl rfl ?_
    exact (kOk_s h) _ _ _ _ rfl rfl rfl (dc d_Fl_joinedTo 27 rfl)
  · refine k_sub [2, 1, 0] rfl ?_
    refine kLp_ok (P := fun s10 => KK X B L 5 0 0 M 10 [(2, .int s10.1), (3, .int s10.2.1), (4, .int s10.2.2)] []) (fun s10 h => ?_) kFU _ h
    obtain ⟨v2_3, v3_4, v4_5⟩ := s10
    unfold m_Fl_joinedTo_l10 at h
    show KK X B L 5 0 0 M 10 [(2, .int v2_3), (3, .int v3_4), (4, .int v4_5)] []
    refine k_iload G (dc d_Fl_joinedTo 7 rfl) 2 rfl ?_
    refine k_bipush G (dc d_Fl_joinedTo 8 rfl) cB_8 ?_
    refine k_icmp_ge G (dc d_Fl_joinedTo 9 rfl) (tgt := 42) rfl (fun c6 => ?_) (fun c6 => ?_)
    · replace h := kOk_p c6 h
      refine k_sub [0] rfl ?_
      have h9 := kOk_s h
      exact h9
    · replace h := kOk_n c6 h
      refine k_iload_n G (dc d_Fl_joinedTo 10 rfl) 1 rfl rfl ?_
      refine k_if_eq G (dc d_Fl_joinedTo 11 rfl) (tgt := 42) rfl (fun c7 => ?_) (fun c7 => ?_)
      · replace h := kOk_p c7 h
        refine k_sub [0] rfl ?_
        have h9 := kOk_s h
        exact h9
      · replace h := kOk_n c7 h
        refine k_iload_n G (dc d_Fl_joinedTo 12 rfl) 0 rfl rfl ?_
        refine k_bipush G (dc d_Fl_joinedTo 13 rfl) cB_10 ?_
        refine k_imul G (dc d_Fl_joinedTo 14 rfl) ?_
        refine k_iload_n G (dc d_Fl_joinedTo 15 rfl) 1 rfl rfl ?_
        refine k_bipush G (dc d_Fl_joinedTo 16 rfl) cB_10 ?_
        refine k_irem G (dc d_Fl_joinedTo 17 rfl) czI_10 ?_
        refine k_iadd G (dc d_Fl_joinedTo 18 rfl) ?_
        refine k_istore_n G (dc d_Fl_joinedTo 19 rfl) (ls' := [(2, .int ((v2_3 * 10) + (jrem v3_4 10))), (3, .int v3_4), (4, .int v4_5)]) rfl rfl rfl ?_
        refine k_iload_n G (dc d_Fl_joinedTo 20 rfl) 1 rfl rfl ?_
        refine k_bipush G (dc d_Fl_joinedTo 21 rfl) cB_10 ?_
        refine k_idiv G (dc d_Fl_joinedTo 22 rfl) czI_10 ?_
        refine k_istore_n G (dc d_Fl_joinedTo 23 rfl) (ls' := [(3, .int (v3_4 / 10)), (2, .int ((v2_3 * 10) + (jrem v3_4 10))), (4, .int v4_5)]) rfl rfl rfl ?_
        refine k_iinc G (dc d_Fl_joinedTo 24 rfl) (ls' := [(4, .int (v4_5 + 1)), (3, .int (v3_4 / 10)), (2, .int ((v2_3 * 10) + (jrem v3_4 10)))]) 2 rfl cI_1 rfl rfl ?_
        refine k_goto G (dc d_Fl_joinedTo 25 rfl) (tgt := 10) rfl ?_
        refine k_sub [2, 1, 0] rfl ?_
        have h9 := kOk_s h
        exact h9
theorem c_Fl_joinedTo {l : Launch} {B : KB} {L : KLay} {M : KMem} {p0 : Int32} {p1 : Int32} (hst : l.stackTraces = false)  {r : Int32} (e : m_Fl_joinedTo p0 p1 = some r) : CtrN l B yX1_joinedTo cX1_joinedTo 5 (some .int) rm_Fl_joinedTo [.int p0, .int p1] L M (some (.int r)) L M :=
  mk_I rfl hst rfl (fun X hl G _ R => b_Fl_joinedTo G  ⟨_, e, R⟩)
def I_Fl_pastDecree : List (Nat × Instr × Nat) := [(0, .iconst 0, 1), (1, .istore 4, 2), (3, .iload_n 3, 1), (4, .invokestatic 21, 3), (7, .istore 5, 2), (9, .iconst 0, 1), (10, .istore 6, 2), (12, .iload 6, 2), (14, .bipush 8, 2), (16, .if_icmp .ge 39, 3), (19, .iload 5, 2), (21, .ifCond .eq 34, 3), (24, .iload 4, 2), (26, .aload_n 0, 1), (27, .aload_n 1, 1), (28, .iload_n 2, 1), (29, .iload 5, 2), (31, .bipush 10, 2), (33, .irem, 1), (34, .invokevirtual 45, 3), (37, .invokestatic 31, 3), (40, .istore 4, 2), (42, .iload 5, 2), (44, .bipush 10, 2), (46, .idiv, 1), (47, .istore 5, 2), (49, .iinc 6 1, 3), (52, .goto (-40), 3), (55, .iload 4, 2), (57, .ireturn, 1)]
set_option maxRecDepth 100000 in
theorem d_Fl_pastDecree : decA cX1_pastDecree I_Fl_pastDecree = true := by decide +kernel
abbrev rm_Fl_pastDecree : Room := ({ frames := 3, cells := 0, slots := 0, locals := 69 } : Room)
def m_Fl_pastDecree_l12 (u : Nat) (p0 : Nat) (p1 : Int32) : (Int32 × Int32 × Int32 × KMem) → Option ((Int32 × Int32 × Int32 × KMem) ⊕ (Int32 × KMem)) := fun (v4_3, v5_4, v6_5, M6) =>
 if 8 ≤ v6_5 then
 (some (.inr (v4_3, M6)))
 else
 (if v5_4 = 0 then
 (some (.inr (v4_3, M6)))
 else
 (Option.bind (m_Fl_let u p0 p1 (jrem v5_4 10) M6) fun (x10, M11) =>
 Option.bind (m_Fl_joinedTo v4_3 x10) fun x13 =>
 some (.inl (x13, v5_4 / 10, v6_5 + 1, M11))))
def m_Fl_pastDecree (u : Nat) (p0 : Nat) (p1 : Int32) (p2 : Int32) (M : KMem) : Option (Int32 × KMem) :=
 Option.bind (m_Wo_mirrored p2) fun x2 =>
 Option.bind (α := Int32 × KMem) (kLp (m_Fl_pastDecree_l12 u p0 p1) kFU (0, x2, 0, M)) fun (v4_14, M15) =>
 some (v4_14, M15)
set_option maxHeartbeats 4000000 in
set_option maxRecDepth 100000 in
theorem b_Fl_pastDecree {X : KX} {B : KB} {L : KLay} {M : KMem} {u : Nat} {p0 : Nat} {p1 : Int32} {p2 : Int32} (G : Good X B RX1 cX1_pastDecree 7 rm_Fl_pastDecree) (hu : okL L u flT) (hp0 : okL L p0 deT) (h : kOk (m_Fl_pastDecree u p0 p1 p2 M) (fun r => RI X B L 7 cX1_pastDecree .int rm_Fl_pastDecree r.1 r.2)) : KK X B L 7 0 0 M 0 [(0, .ref (B.1 + u)), (1, .ref (B.1 + p0)), (2, .int p1), (3, .int p2)] [] := by
  unfold m_Fl_pastDecree at h
  refine k_iconst G (dc d_Fl_pastDecree 0 rfl) cI_0 ?_
  refine k_istore G (dc d_Fl_pastDecree 1 rfl) (ls' := [(4, .int 0), (0, .ref (B.1 + u)), (1, .ref (B.1 + p0)), (2, .int p1), (3, .int p2)]) rfl rfl ?_
  refine k_iload_n G (dc d_Fl_pastDecree 2 rfl) 4 rfl rfl ?_
  obtain ⟨x2, e1, h⟩ := kOk_b h
  refine k_cSI G (dc d_Fl_pastDecree 3 rfl) mi_Wo_mirrored ms_Wo_mirrored ml_RX1_21 (c_Wo_mirrored (gst G)  e1) rfl rfl ⟨rfl, rfl⟩ rfl ⟨rfl, rfl⟩ ⟨rfl, rfl⟩ ?_
  refine k_istore G (dc d_Fl_pastDecree 4 rfl) (ls' := [(5, .int x2), (4, .int 0), (0, .ref (B.1 + u)), (1, .ref (B.1 + p0)), (2, .int p1), (3, .int p2)]) rfl rfl ?_
  refine k_iconst G (dc d_Fl_pastDecree 5 rfl) cI_0 ?_
  refine k_istore G (dc d_Fl_pastDecree 6 rfl) (ls' := [(6, .int 0), (5, .int x2), (4, .int 0), (0, .ref (B.1 + u)), (1, .ref (B.1 + p0)), (2, .int p1), (3, .int p2)]) rfl rfl ?_
  refine kJ h (fun r16 => KK X B L 7 0 0 r16.2 55 [(4, .int r16.1)] []) (fun r16 h => ?_) (fun h => ?_)
  · obtain ⟨v4_14, M15⟩ := r16
    show KK X B L 7 0 0 M15 55 [(4, .int v4_14)] []
    refine k_iload G (dc d_Fl_pastDecree 28 rfl) 0 rfl ?_
    exact (kOk_s h) _ _ _ _ rfl rfl rfl (dc d_Fl_pastDecree 29 rfl)
  · refine k_sub [3, 4, 5, 2, 1, 0] rfl ?_
    refine kLp_ok (P := fun s17 => KK X B L 7 0 0 s17.2.2.2 12 [(0, .ref (B.1 + u)), (1, .ref (B.1 + p0)), (2, .int p1), (4, .int s17.1), (5, .int s17.2.1), (6, .int s17.2.2.1)] []) (fun s17 h => ?_) kFU _ h
    obtain ⟨v4_3, v5_4, v6_5, M6⟩ := s17
    unfold m_Fl_pastDecree_l12 at h
    show KK X B L 7 0 0 M6 12 [(0, .ref (B.1 + u)), (1, .ref (B.1 + p0)), (2, .int p1), (4, .int v4_3), (5, .int v5_4), (6, .int v6_5)] []
    refine k_iload G (dc d_Fl_pastDecree 7 rfl) 5 rfl ?_
    refine k_bipush G (dc d_Fl_pastDecree 8 rfl) cB_8 ?_
    refine k_icmp_ge G (dc d_Fl_pastDecree 9 rfl) (tgt := 55) rfl (fun c7 => ?_) (fun c7 => ?_)
    · replace h := kOk_p c7 h
      refine k_sub [3] rfl ?_
      have h9 := kOk_s h
      exact h9
    · replace h := kOk_n c7 h
      refine k_iload G (dc d_Fl_pastDecree 10 rfl) 4 rfl ?_
      refine k_if_eq G (dc d_Fl_pastDecree 11 rfl) (tgt := 55) rfl (fun c8 => ?_) (fun c8 => ?_)
      · replace h := kOk_p c8 h
        refine k_sub [3] rfl ?_
        have h9 := kOk_s h
        exact h9
      · replace h := kOk_n c8 h
        refine k_iload G (dc d_Fl_pastDecree 12 rfl) 3 rfl ?_
        refine k_aload_n G (dc d_Fl_pastDecree 13 rfl) 0 rfl rfl ?_
        refine k_aload_n G (dc d_Fl_pastDecree 14 rfl) 1 rfl rfl ?_
        refine k_iload_n G (dc d_Fl_pastDecree 15 rfl) 2 rfl rfl ?_
        refine k_iload G (dc d_Fl_pastDecree 16 rfl) 4 rfl ?_
        refine k_bipush G (dc d_Fl_pastDecree 17 rfl) cB_10 ?_
        refine k_irem G (dc d_Fl_pastDecree 18 rfl) czI_10 ?_
        obtain ⟨⟨x10, M11⟩, e9, h⟩ := kOk_b h
        refine k_cVI G (dc d_Fl_pastDecree 19 rfl) kc1 (okL_lt hu (o := 0) 0 rfl) (okL_k hu (o := 0) 0 rfl) mi_Fl_let mv_Fl_let rfl ml_RX1_45 (c_Fl_let (gst G) hu hp0 e9) rfl rfl ⟨rfl, rfl⟩ rfl ⟨rfl, rfl⟩ ⟨rfl, rfl⟩ ?_
        obtain ⟨x13, e12, h⟩ := kOk_b h
        refine k_cSI G (dc d_Fl_pastDecree 20 rfl) mi_Fl_joinedTo ms_Fl_joinedTo ml_RX1_31 (c_Fl_joinedTo (gst G)  e12) rfl rfl ⟨rfl, rfl⟩ rfl ⟨rfl, rfl⟩ ⟨rfl, rfl⟩ ?_
        refine k_istore G (dc d_Fl_pastDecree 21 rfl) (ls' := [(4, .int x13), (0, .ref (B.1 + u)), (1, .ref (B.1 + p0)), (2, .int p1), (5, .int v5_4), (6, .int v6_5)]) rfl rfl ?_
        refine k_iload G (dc d_Fl_pastDecree 22 rfl) 4 rfl ?_
        refine k_bipush G (dc d_Fl_pastDecree 23 rfl) cB_10 ?_
        refine k_idiv G (dc d_Fl_pastDecree 24 rfl) czI_10 ?_
        refine k_istore G (dc d_Fl_pastDecree 25 rfl) (ls' := [(5, .int (v5_4 / 10)), (4, .int x13), (0, .ref (B.1 + u)), (1, .ref (B.1 + p0)), (2, .int p1), (6, .int v6_5)]) rfl rfl ?_
        refine k_iinc G (dc d_Fl_pastDecree 26 rfl) (ls' := [(6, .int (v6_5 + 1)), (5, .int (v5_4 / 10)), (4, .int x13), (0, .ref (B.1 + u)), (1, .ref (B.1 + p0)), (2, .int p1)]) 5 rfl cI_1 rfl rfl ?_
        refine k_goto G (dc d_Fl_pastDecree 27 rfl) (tgt := 12) rfl ?_
        refine k_sub [3, 4, 5, 2, 1, 0] rfl ?_
        have h9 := kOk_s h
        exact h9
theorem c_Fl_pastDecree {l : Launch} {B : KB} {L : KLay} {M : KMem} {u : Nat} {p0 : Nat} {p1 : Int32} {p2 : Int32} (hst : l.stackTraces = false) (hu : okL L u flT) (hp0 : okL L p0 deT) {r : Int32} {M' : KMem} (e : m_Fl_pastDecree u p0 p1 p2 M = some (r, M')) : CtrN l B yX1_pastDecree cX1_pastDecree 7 (some .int) rm_Fl_pastDecree [.ref (B.1 + u), .ref (B.1 + p0), .int p1, .int p2] L M (some (.int r)) L M' :=
  mk_I rfl hst rfl (fun X hl G _ R => b_Fl_pastDecree G hu hp0 ⟨_, e, R⟩)
def I_Fl_through : List (Nat × Instr × Nat) := [(0, .iload_n 2, 1), (1, .istore 4, 2), (3, .iconst 0, 1), (4, .istore 5, 2), (6, .iload 5, 2), (8, .aload_n 1, 1), (9, .getfield 35, 3), (12, .if_icmp .ge 45, 3), (15, .iload 5, 2), (17, .bipush 10, 2), (19, .if_icmp .ge 38, 3), (22, .aload_n 0, 1), (23, .aload_n 1, 1), (24, .iload 5, 2), (26, .iload 4, 2), (28, .invokevirtual 41, 3), (31, .istore 4, 2), (33, .iload_n 3, 1), (34, .ifCond .eq 17, 3), (37, .iload 4, 2), (39, .aload_n 0, 1), (40, .getfield 9, 3), (43, .iload 5, 2), (45, .iaload, 1), (46, .invokestatic 31, 3), (49, .istore 4, 2), (51, .iinc 5 1, 3), (54, .goto (-48), 3), (57, .iload 4, 2), (59, .ireturn, 1)]
set_option maxRecDepth 100000 in
theorem d_Fl_through : decA cX1_through I_Fl_through = true := by decide +kernel
abbrev rm_Fl_through : Room := ({ frames := 4, cells := 0, slots := 0, locals := 95 } : Room)
def m_Fl_through_l6 (u : Nat) (p0 : Nat) (p2 : Int32) : (Int32 × Int32 × KMem) → Option ((Int32 × Int32 × KMem) ⊕ (Int32 × KMem)) := fun (v4_1, v5_2, M3) =>
 if (M3 p0 0) ≤ v5_2 then
 (some (.inr (v4_1, M3)))
 else
 (if 10 ≤ v5_2 then
 (some (.inr (v4_1, M3)))
 else
 (Option.bind (m_Fl_pastDecree u p0 v5_2 v4_1 M3) fun (x7, M8) =>
 Option.bind (α := Int32) (if p2 = 0 then
 (some x7)
 else
 (Option.bind (rdI M8 (u + 1) 10 v5_2) fun x13 =>
 Option.bind (m_Fl_joinedTo x7 x13) fun x15 =>
 some x15)) fun v4_9 =>
 some (.inl (v4_9, v5_2 + 1, M8))))
def m_Fl_through (u : Nat) (p0 : Nat) (p1 : Int32) (p2 : Int32) (M : KMem) : Option (Int32 × KMem) :=
 Option.bind (α := Int32 × KMem) (kLp (m_Fl_through_l6 u p0 p2) kFU (p1, 0, M)) fun (v4_16, M17) =>
 some (v4_16, M17)
set_option maxHeartbeats 4000000 in
set_option maxRecDepth 100000 in
theorem b_Fl_through {X : KX} {B : KB} {L : KLay} {M : KMem} {u : Nat} {p0 : Nat} {p1 : Int32} {p2 : Int32} (G : Good X B RX1 cX1_through 6 rm_Fl_through) (hu : okL L u flT) (hp0 : okL L p0 deT) (h : kOk (m_Fl_through u p0 p1 p2 M) (fun r => RI X B L 6 cX1_through .int rm_Fl_through r.1 r.2)) : KK X B L 6 0 0 M 0 [(0, .ref (B.1 + u)), (1, .ref (B.1 + p0)), (2, .int p1), (3, .int p2)] [] := by
  unfold m_Fl_through at h
  refine k_iload_n G (dc d_Fl_through 0 rfl) 2 rfl rfl ?_
  refine k_istore G (dc d_Fl_through 1 rfl) (ls' := [(4, .int p1), (0, .ref (B.1 + u)), (1, .ref (B.1 + p0)), (2, .int p1), (3, .int p2)]) rfl rfl ?_
  refine k_iconst G (dc d_Fl_through 2 rfl) cI_0 ?_
  refine k_istore G (dc d_Fl_through 3 rfl) (ls' := [(5, .int 0), (4, .int p1), (0, .ref (B.1 + u)), (1, .ref (B.1 + p0)), (2, .int p1), (3, .int p2)]) rfl rfl ?_
  refine kJ h (fun r18 => KK X B L 6 0 0 r18.2 57 [(4, .int r18.1)] []) (fun r18 h => ?_) (fun h => ?_)
  · obtain ⟨v4_16, M17⟩ := r18
    show KK X B L 6 0 0 M17 57 [(4, .int v4_16)] []
    refine k_iload G (dc d_Fl_through 28 rfl) 0 rfl ?_
    exact (kOk_s h) _ _ _ _ rfl rfl rfl (dc d_Fl_through 29 rfl)
  · refine k_sub [2, 3, 5, 1, 0] rfl ?_
    refine kLp_ok (P := fun s19 => KK X B L 6 0 0 s19.2.2 6 [(0, .ref (B.1 + u)), (1, .ref (B.1 + p0)), (3, .int p2), (4, .int s19.1), (5, .int s19.2.1)] []) (fun s19 h => ?_) kFU _ h
    obtain ⟨v4_1, v5_2, M3⟩ := s19
    unfold m_Fl_through_l6 at h
    show KK X B L 6 0 0 M3 6 [(0, .ref (B.1 + u)), (1, .ref (B.1 + p0)), (3, .int p2), (4, .int v4_1), (5, .int v5_2)] []
    refine k_iload G (dc d_Fl_through 4 rfl) 4 rfl ?_
    refine k_aload_n G (dc d_Fl_through 5 rfl) 1 rfl rfl ?_
    refine k_getIN G kc0 (dc d_Fl_through 6 rfl) (okL_lt hp0 (o := 0) 0 rfl) (okL_k hp0 (o := 0) 0 rfl) 0 (by decide) rfl fl_RX1_35 ?_
    refine k_icmp_ge G (dc d_Fl_through 7 rfl) (tgt := 57) rfl (fun c4 => ?_) (fun c4 => ?_)
    · replace h := kOk_p c4 h
      refine k_sub [3] rfl ?_
      have h9 := kOk_s h
      exact h9
    · replace h := kOk_n c4 h
      refine k_iload G (dc d_Fl_through 8 rfl) 4 rfl ?_
      refine k_bipush G (dc d_Fl_through 9 rfl) cB_10 ?_
      refine k_icmp_ge G (dc d_Fl_through 10 rfl) (tgt := 57) rfl (fun c5 => ?_) (fun c5 => ?_)
      · replace h := kOk_p c5 h
        refine k_sub [3] rfl ?_
        have h9 := kOk_s h
        exact h9
      · replace h := kOk_n c5 h
        refine k_aload_n G (dc d_Fl_through 11 rfl) 0 rfl rfl ?_
        refine k_aload_n G (dc d_Fl_through 12 rfl) 1 rfl rfl ?_
        refine k_iload G (dc d_Fl_through 13 rfl) 4 rfl ?_
        refine k_iload G (dc d_Fl_through 14 rfl) 3 rfl ?_
        obtain ⟨⟨x7, M8⟩, e6, h⟩ := kOk_b h
        refine k_cVI G (dc d_Fl_through 15 rfl) kc1 (okL_lt hu (o := 0) 0 rfl) (okL_k hu (o := 0) 0 rfl) mi_Fl_pastDecree mv_Fl_pastDecree rfl ml_RX1_41 (c_Fl_pastDecree (gst G) hu hp0 e6) rfl rfl ⟨rfl, rfl⟩ rfl ⟨rfl, rfl⟩ ⟨rfl, rfl⟩ ?_
        refine k_istore G (dc d_Fl_through 16 rfl) (ls' := [(4, .int x7), (0, .ref (B.1 + u)), (1, .ref (B.1 + p0)), (3, .int p2), (5, .int v5_2)]) rfl rfl ?_
        refine k_iload_n G (dc d_Fl_through 17 rfl) 3 rfl rfl ?_
        refine kJ h (fun r10 => KK X B L 6 0 0 M8 51 [(0, .ref (B.1 + u)), (1, .ref (B.1 + p0)), (3, .int p2), (4, .int r10), (5, .int v5_2)] []) (fun r10 h => ?_) (fun h => ?_)
        · obtain ⟨v4_9, rfl⟩ : ∃ z, z = r10 := ⟨_, rfl⟩
          show KK X B L 6 0 0 M8 51 [(0, .ref (B.1 + u)), (1, .ref (B.1 + p0)), (3, .int p2), (4, .int v4_9), (5, .int v5_2)] []
          refine k_iinc G (dc d_Fl_through 26 rfl) (ls' := [(5, .int (v5_2 + 1)), (0, .ref (B.1 + u)), (1, .ref (B.1 + p0)), (3, .int p2), (4, .int v4_9)]) 4 rfl cI_1 rfl rfl ?_
          refine k_goto G (dc d_Fl_through 27 rfl) (tgt := 6) rfl ?_
          refine k_sub [1, 2, 3, 4, 0] rfl ?_
          have h9 := kOk_s h
          exact h9
        · refine k_if_eq G (dc d_Fl_through 18 rfl) (tgt := 51) rfl (fun c11 => ?_) (fun c11 => ?_)
          · replace h := kOk_p c11 h
            refine k_sub [1, 2, 3, 0, 4] rfl ?_
            have h9 := kOk_s h
            exact h9
          · replace h := kOk_n c11 h
            refine k_iload G (dc d_Fl_through 19 rfl) 0 rfl ?_
            refine k_aload_n G (dc d_Fl_through 20 rfl) 1 rfl rfl ?_
            refine k_getR G kc1 (dc d_Fl_through 21 rfl) (okL_lt hu (o := 0) 0 rfl) (okL_k hu (o := 0) 0 rfl) 0 (by decide) rfl fl_RX1_9 (u + 1) (okL_r hu (o := 0) (c := 1) 0 rfl 0 rfl) ?_
            refine k_iload G (dc d_Fl_through 22 rfl) 4 rfl ?_
            obtain ⟨x13, e12, h⟩ := kOk_b h
            refine k_ild G (dc d_Fl_through 23 rfl) (okL_lt hu (o := 1) 1 rfl) (okL_k hu (o := 1) 1 rfl) (okL_n hu (o := 1) 1 rfl) e12 ?_
            obtain ⟨x15, e14, h⟩ := kOk_b h
            refine k_cSI G (dc d_Fl_through 24 rfl) mi_Fl_joinedTo ms_Fl_joinedTo ml_RX1_31 (c_Fl_joinedTo (gst G)  e14) rfl rfl ⟨rfl, rfl⟩ rfl ⟨rfl, rfl⟩ ⟨rfl, rfl⟩ ?_
            refine k_istore G (dc d_Fl_through 25 rfl) (ls' := [(4, .int x15), (0, .ref (B.1 + u)), (1, .ref (B.1 + p0)), (3, .int p2), (5, .int v5_2)]) rfl rfl ?_
            refine k_sub [1, 2, 3, 0, 4] rfl ?_
            have h9 := kOk_s h
            exact h9
theorem c_Fl_through {l : Launch} {B : KB} {L : KLay} {M : KMem} {u : Nat} {p0 : Nat} {p1 : Int32} {p2 : Int32} (hst : l.stackTraces = false) (hu : okL L u flT) (hp0 : okL L p0 deT) {r : Int32} {M' : KMem} (e : m_Fl_through u p0 p1 p2 M = some (r, M')) : CtrN l B yX1_through cX1_through 6 (some .int) rm_Fl_through [.ref (B.1 + u), .ref (B.1 + p0), .int p1, .int p2] L M (some (.int r)) L M' :=
  mk_I rfl hst rfl (fun X hl G _ R => b_Fl_through G hu hp0 ⟨_, e, R⟩)
def I_Fl_spellingOf : List (Nat × Instr × Nat) := [(0, .aload_n 0, 1), (1, .getfield 9, 3), (4, .iconst 0, 1), (5, .invokestatic 15, 3), (8, .iconst 0, 1), (9, .istore_n 3, 1), (10, .iload_n 2, 1), (11, .invokestatic 21, 3), (14, .istore 4, 2), (16, .iconst 0, 1), (17, .istore 5, 2), (19, .iload 5, 2), (21, .bipush 8, 2), (23, .if_icmp .ge 37, 3), (26, .iload 4, 2), (28, .ifCond .eq 32, 3), (31, .iload_n 3, 1), (32, .aload_n 0, 1), (33, .aload_n 1, 1), (34, .iload 4, 2), (36, .bipush 10, 2), (38, .irem, 1), (39, .iconst 0, 1), (40, .invokevirtual 27, 3), (43, .invokestatic 31, 3), (46, .istore_n 3, 1), (47, .iload 4, 2), (49, .bipush 10, 2), (51, .idiv, 1), (52, .istore 4, 2), (54, .iinc 5 1, 3), (57, .goto (-38), 3), (60, .iload_n 3, 1), (61, .aload_n 0, 1), (62, .aload_n 1, 1), (63, .iconst 0, 1), (64, .iconst 1, 1), (65, .invokevirtual 27, 3), (68, .invokestatic 31, 3), (71, .ireturn, 1)]
set_option maxRecDepth 100000 in
theorem d_Fl_spellingOf : decA cX1_spellingOf I_Fl_spellingOf = true := by decide +kernel
abbrev rm_Fl_spellingOf : Room := ({ frames := 5, cells := 0, slots := 0, locals := 120 } : Room)
def m_Fl_spellingOf_l19 (u : Nat) (p0 : Nat) : (Int32 × Int32 × Int32 × KMem) → Option ((Int32 × Int32 × Int32 × KMem) ⊕ (Int32 × KMem)) := fun (v3_5, v4_6, v5_7, M8) =>
 if 8 ≤ v5_7 then
 (some (.inr (v3_5, M8)))
 else
 (if v4_6 = 0 then
 (some (.inr (v3_5, M8)))
 else
 (Option.bind (m_Fl_through u p0 (jrem v4_6 10) 0 M8) fun (x12, M13) =>
 Option.bind (m_Fl_joinedTo v3_5 x12) fun x15 =>
 some (.inl (x15, v4_6 / 10, v5_7 + 1, M13))))
def m_Fl_spellingOf (u : Nat) (p0 : Nat) (p1 : Int32) (M : KMem) : Option (Int32 × KMem) :=
 Option.bind (m_Ar_fillI (u + 1) 10 0 M) fun M2 =>
 Option.bind (m_Wo_mirrored p1) fun x4 =>
 Option.bind (α := Int32 × KMem) (kLp (m_Fl_spellingOf_l19 u p0) kFU (0, x4, 0, M2)) fun (v3_16, M17) =>
 Option.bind (m_Fl_through u p0 0 1 M17) fun (x19, M20) =>
 Option.bind (m_Fl_joinedTo v3_16 x19) fun x22 =>
 some (x22, M20)
set_option maxHeartbeats 4000000 in
set_option maxRecDepth 100000 in
theorem b_Fl_spellingOf {X : KX} {B : KB} {L : KLay} {M : KMem} {u : Nat} {p0 : Nat} {p1 : Int32} (G : Good X B RX1 cX1_spellingOf 6 rm_Fl_spellingOf) (hu : okL L u flT) (hp0 : okL L p0 deT) (h : kOk (m_Fl_spellingOf u p0 p1 M) (fun r => RI X B L 6 cX1_spellingOf .int rm_Fl_spellingOf r.1 r.2)) : KK X B L 6 0 0 M 0 [(0, .ref (B.1 + u)), (1, .ref (B.1 + p0)), (2, .int p1)] [] := by
  unfold m_Fl_spellingOf at h
  refine k_aload_n G (dc d_Fl_spellingOf 0 rfl) 0 rfl rfl ?_
  refine k_getR G kc1 (dc d_Fl_spellingOf 1 rfl) (okL_lt hu (o := 0) 0 rfl) (okL_k hu (o := 0) 0 rfl) 0 (by decide) rfl fl_RX1_9 (u + 1) (okL_r hu (o := 0) (c := 1) 0 rfl 0 rfl) ?_
  refine k_iconst G (dc d_Fl_spellingOf 2 rfl) cI_0 ?_
  obtain ⟨M2, e1, h⟩ := kOk_b h
  refine k_cSV G (dc d_Fl_spellingOf 3 rfl) mi_Ar_fillI ms_Ar_fillI ml_RX1_15 (c_Ar_fillI (gst G) (okL_a hu (o := 1) 1 rfl) e1) rfl rfl ⟨rfl, rfl⟩ rfl ⟨rfl, rfl⟩ ⟨rfl, rfl⟩ ?_
  refine k_iconst G (dc d_Fl_spellingOf 4 rfl) cI_0 ?_
  refine k_istore_n G (dc d_Fl_spellingOf 5 rfl) (ls' := [(3, .int 0), (0, .ref (B.1 + u)), (1, .ref (B.1 + p0)), (2, .int p1)]) rfl rfl rfl ?_
  refine k_iload_n G (dc d_Fl_spellingOf 6 rfl) 3 rfl rfl ?_
  obtain ⟨x4, e3, h⟩ := kOk_b h
  refine k_cSI G (dc d_Fl_spellingOf 7 rfl) mi_Wo_mirrored ms_Wo_mirrored ml_RX1_21 (c_Wo_mirrored (gst G)  e3) rfl rfl ⟨rfl, rfl⟩ rfl ⟨rfl, rfl⟩ ⟨rfl, rfl⟩ ?_
  refine k_istore G (dc d_Fl_spellingOf 8 rfl) (ls' := [(4, .int x4), (3, .int 0), (0, .ref (B.1 + u)), (1, .ref (B.1 + p0)), (2, .int p1)]) rfl rfl ?_
  refine k_iconst G (dc d_Fl_spellingOf 9 rfl) cI_0 ?_
  refine k_istore G (dc d_Fl_spellingOf 10 rfl) (ls' := [(5, .int 0), (4, .int x4), (3, .int 0), (0, .ref (B.1 + u)), (1, .ref (B.1 + p0)), (2, .int p1)]) rfl rfl ?_
  refine kJ h (fun r23 => KK X B L 6 0 0 r23.2 60 [(0, .ref (B.1 + u)), (1, .ref (B.1 + p0)), (3, .int r23.1)] []) (fun r23 h => ?_) (fun h => ?_)
  · obtain ⟨v3_16, M17⟩ := r23
    show KK X B L 6 0 0 M17 60 [(0, .ref (B.1 + u)), (1, .ref (B.1 + p0)), (3, .int v3_16)] []
    refine k_iload_n G (dc d_Fl_spellingOf 32 rfl) 2 rfl rfl ?_
    refine k_aload_n G (dc d_Fl_spellingOf 33 rfl) 0 rfl rfl ?_
    refine k_aload_n G (dc d_Fl_spellingOf 34 rfl) 1 rfl rfl ?_
    refine k_iconst G (dc d_Fl_spellingOf 35 rfl) cI_0 ?_
    refine k_iconst G (dc d_Fl_spellingOf 36 rfl) cI_1 ?_
    obtain ⟨⟨x19, M20⟩, e18, h⟩ := kOk_b h
    refine k_cVI G (dc d_Fl_spellingOf 37 rfl) kc1 (okL_lt hu (o := 0) 0 rfl) (okL_k hu (o := 0) 0 rfl) mi_Fl_through mv_Fl_through rfl ml_RX1_27 (c_Fl_through (gst G) hu hp0 e18) rfl rfl ⟨rfl, rfl⟩ rfl ⟨rfl, rfl⟩ ⟨rfl, rfl⟩ ?_
    obtain ⟨x22, e21, h⟩ := kOk_b h
    refine k_cSI G (dc d_Fl_spellingOf 38 rfl) mi_Fl_joinedTo ms_Fl_joinedTo ml_RX1_31 (c_Fl_joinedTo (gst G)  e21) rfl rfl ⟨rfl, rfl⟩ rfl ⟨rfl, rfl⟩ ⟨rfl, rfl⟩ ?_
    exact (kOk_s h) _ _ _ _ rfl rfl rfl (dc d_Fl_spellingOf 39 rfl)
  · refine k_sub [3, 4, 2, 1, 0] rfl ?_
    refine kLp_ok (P := fun s24 => KK X B L 6 0 0 s24.2.2.2 19 [(0, .ref (B.1 + u)), (1, .ref (B.1 + p0)), (3, .int s24.1), (4, .int s24.2.1), (5, .int s24.2.2.1)] []) (fun s24 h => ?_) kFU _ h
    obtain ⟨v3_5, v4_6, v5_7, M8⟩ := s24
    unfold m_Fl_spellingOf_l19 at h
    show KK X B L 6 0 0 M8 19 [(0, .ref (B.1 + u)), (1, .ref (B.1 + p0)), (3, .int v3_5), (4, .int v4_6), (5, .int v5_7)] []
    refine k_iload G (dc d_Fl_spellingOf 11 rfl) 4 rfl ?_
    refine k_bipush G (dc d_Fl_spellingOf 12 rfl) cB_8 ?_
    refine k_icmp_ge G (dc d_Fl_spellingOf 13 rfl) (tgt := 60) rfl (fun c9 => ?_) (fun c9 => ?_)
    · replace h := kOk_p c9 h
      refine k_sub [0, 1, 2] rfl ?_
      have h9 := kOk_s h
      exact h9
    · replace h := kOk_n c9 h
      refine k_iload G (dc d_Fl_spellingOf 14 rfl) 3 rfl ?_
      refine k_if_eq G (dc d_Fl_spellingOf 15 rfl) (tgt := 60) rfl (fun c10 => ?_) (fun c10 => ?_)
      · replace h := kOk_p c10 h
        refine k_sub [0, 1, 2] rfl ?_
        have h9 := kOk_s h
        exact h9
      · replace h := kOk_n c10 h
        refine k_iload_n G (dc d_Fl_spellingOf 16 rfl) 2 rfl rfl ?_
        refine k_aload_n G (dc d_Fl_spellingOf 17 rfl) 0 rfl rfl ?_
        refine k_aload_n G (dc d_Fl_spellingOf 18 rfl) 1 rfl rfl ?_
        refine k_iload G (dc d_Fl_spellingOf 19 rfl) 3 rfl ?_
        refine k_bipush G (dc d_Fl_spellingOf 20 rfl) cB_10 ?_
        refine k_irem G (dc d_Fl_spellingOf 21 rfl) czI_10 ?_
        refine k_iconst G (dc d_Fl_spellingOf 22 rfl) cI_0 ?_
        obtain ⟨⟨x12, M13⟩, e11, h⟩ := kOk_b h
        refine k_cVI G (dc d_Fl_spellingOf 23 rfl) kc1 (okL_lt hu (o := 0) 0 rfl) (okL_k hu (o := 0) 0 rfl) mi_Fl_through mv_Fl_through rfl ml_RX1_27 (c_Fl_through (gst G) hu hp0 e11) rfl rfl ⟨rfl, rfl⟩ rfl ⟨rfl, rfl⟩ ⟨rfl, rfl⟩ ?_
        obtain ⟨x15, e14, h⟩ := kOk_b h
        refine k_cSI G (dc d_Fl_spellingOf 24 rfl) mi_Fl_joinedTo ms_Fl_joinedTo ml_RX1_31 (c_Fl_joinedTo (gst G)  e14) rfl rfl ⟨rfl, rfl⟩ rfl ⟨rfl, rfl⟩ ⟨rfl, rfl⟩ ?_
        refine k_istore_n G (dc d_Fl_spellingOf 25 rfl) (ls' := [(3, .int x15), (0, .ref (B.1 + u)), (1, .ref (B.1 + p0)), (4, .int v4_6), (5, .int v5_7)]) rfl rfl rfl ?_
        refine k_iload G (dc d_Fl_spellingOf 26 rfl) 3 rfl ?_
        refine k_bipush G (dc d_Fl_spellingOf 27 rfl) cB_10 ?_
        refine k_idiv G (dc d_Fl_spellingOf 28 rfl) czI_10 ?_
        refine k_istore G (dc d_Fl_spellingOf 29 rfl) (ls' := [(4, .int (v4_6 / 10)), (3, .int x15), (0, .ref (B.1 + u)), (1, .ref (B.1 + p0)), (5, .int v5_7)]) rfl rfl ?_
        refine k_iinc G (dc d_Fl_spellingOf 30 rfl) (ls' := [(5, .int (v5_7 + 1)), (4, .int (v4_6 / 10)), (3, .int x15), (0, .ref (B.1 + u)), (1, .ref (B.1 + p0))]) 4 rfl cI_1 rfl rfl ?_
        refine k_goto G (dc d_Fl_spellingOf 31 rfl) (tgt := 19) rfl ?_
        refine k_sub [3, 4, 2, 1, 0] rfl ?_
        have h9 := kOk_s h
        exact h9
theorem c_Fl_spellingOf {l : Launch} {B : KB} {L : KLay} {M : KMem} {u : Nat} {p0 : Nat} {p1 : Int32} (hst : l.stackTraces = false) (hu : okL L u flT) (hp0 : okL L p0 deT) {r : Int32} {M' : KMem} (e : m_Fl_spellingOf u p0 p1 M = some (r, M')) : CtrN l B yX1_spellingOf cX1_spellingOf 6 (some .int) rm_Fl_spellingOf [.ref (B.1 + u), .ref (B.1 + p0), .int p1] L M (some (.int r)) L M' :=
  mk_I rfl hst rfl (fun X hl G _ R => b_Fl_spellingOf G hu hp0 ⟨_, e, R⟩)
end
section
/-! laid by wip/whole/lay.py: St_clear, St_copyFrom -/
def I_St_clear : List (Nat × Instr × Nat) := [(0, .aload_n 0, 1), (1, .getfield 12, 3), (4, .iconst 0, 1), (5, .putfield 49, 3), (8, .aload_n 0, 1), (9, .iconst 0, 1), (10, .putfield 53, 3), (13, .aload_n 0, 1), (14, .getfield 37, 3), (17, .iconst 0, 1), (18, .invokestatic 56, 3), (21, .aload_n 0, 1), (22, .getfield 40, 3), (25, .iconst 0, 1), (26, .invokestatic 56, 3), (29, .aload_n 0, 1), (30, .getfield 43, 3), (33, .iconst 0, 1), (34, .iconst 4, 1), (35, .iastore, 1), (36, .aload_n 0, 1), (37, .getfield 43, 3), (40, .iconst 1, 1), (41, .iconst 3, 1), (42, .iastore, 1), (43, .aload_n 0, 1), (44, .iconst 0, 1), (45, .putfield 62, 3), (48, .aload_n 0, 1), (49, .iconst 0, 1), (50, .putfield 65, 3), (53, .aload_n 0, 1), (54, .iconst (-1), 1), (55, .putfield 68, 3), (58, .aload_n 0, 1), (59, .iconst 0, 1), (60, .putfield 71, 3), (63, .return_, 1)]
set_option maxRecDepth 100000 in
theorem d_St_clear : decA cX7_clear I_St_clear = true := by decide +kernel
abbrev rm_St_clear : Room := ({ frames := 1, cells := 0, slots := 0, locals := 23 } : Room)
def m_St_clear (u : Nat) (M : KMem) : Option KMem :=
 Option.bind (some (kup M (u + 1) 0 0)) fun M2 =>
 Option.bind (some (kup M2 u 1 0)) fun M4 =>
 Option.bind (m_Ar_fillI (u + 9) 4 0 M4) fun M6 =>
 Option.bind (m_Ar_fillI (u + 10) 4 0 M6) fun M8 =>
 Option.bind (wrI M8 (u + 11) 2 0 4) fun M10 =>
 Option.bind (wrI M10 (u + 11) 2 1 3) fun M12 =>
 Option.bind (some (kup M12 u 11 0)) fun M14 =>
 Option.bind (some (kup M14 u 12 0)) fun M16 =>
 Option.bind (some (kup M16 u 13 (-1))) fun M18 =>
 Option.bind (some (kup M18 u 14 0)) fun M20 =>
 some M20
set_option maxHeartbeats 4000000 in
set_option maxRecDepth 100000 in
theorem b_St_clear {X : KX} {B : KB} {L : KLay} {M : KMem} {u : Nat} (G : Good X B RX7 cX7_clear 1 rm_St_clear) (hu : okL L u stT) (h : kOk (m_St_clear u M) (fun r => RV X B L 1 cX7_clear rm_St_clear r)) : KK X B L 1 0 0 M 0 [(0, .ref (B.1 + u))] [] := by
  unfold m_St_clear at h
  refine k_aload_n G (dc d_St_clear 0 rfl) 0 rfl rfl ?_
  refine k_getR G kc5 (dc d_St_clear 1 rfl) (okL_lt hu (o := 0) 0 rfl) (okL_k hu (o := 0) 0 rfl) 0 (by decide) rfl fl_RX7_12 (u + 1) (okL_r hu (o := 0) (c := 1) 0 rfl 0 rfl) ?_
  refine k_iconst G (dc d_St_clear 2 rfl) cI_0 ?_
  obtain ⟨M2, e1, h⟩ := kOk_b h
  refine k_putIN G kc0 (dc d_St_clear 3 rfl) (okL_lt hu (o := 1) 1 rfl) (okL_k hu (o := 1) 1 rfl) 0 (by decide) rfl rfl fl_RX7_49 rfl rfl e1 ?_
  refine k_aload_n G (dc d_St_clear 4 rfl) 0 rfl rfl ?_
  refine k_iconst G (dc d_St_clear 5 rfl) cI_0 ?_
  obtain ⟨M4, e3, h⟩ := kOk_b h
  refine k_putI G kc5 (dc d_St_clear 6 rfl) (okL_lt hu (o := 0) 0 rfl) (okL_k hu (o := 0) 0 rfl) 1 (by decide) rfl rfl fl_RX7_53 rfl rfl e3 ?_
  refine k_aload_n G (dc d_St_clear 7 rfl) 0 rfl rfl ?_
  refine k_getR G kc5 (dc d_St_clear 8 rfl) (okL_lt hu (o := 0) 0 rfl) (okL_k hu (o := 0) 0 rfl) 8 (by decide) rfl fl_RX7_37 (u + 9) (okL_r hu (o := 0) (c := 9) 0 rfl 7 rfl) ?_
  refine k_iconst G (dc d_St_clear 9 rfl) cI_0 ?_
  obtain ⟨M6, e5, h⟩ := kOk_b h
  refine k_cSV G (dc d_St_clear 10 rfl) mi_Ar_fillI ms_Ar_fillI ml_RX7_56 (c_Ar_fillI (gst G) (okL_a hu (o := 9) 9 rfl) e5) rfl rfl ⟨rfl, rfl⟩ rfl ⟨rfl, rfl⟩ ⟨rfl, rfl⟩ ?_
  refine k_aload_n G (dc d_St_clear 11 rfl) 0 rfl rfl ?_
  refine k_getR G kc5 (dc d_St_clear 12 rfl) (okL_lt hu (o := 0) 0 rfl) (okL_k hu (o := 0) 0 rfl) 9 (by decide) rfl fl_RX7_40 (u + 10) (okL_r hu (o := 0) (c := 10) 0 rfl 8 rfl) ?_
  refine k_iconst G (dc d_St_clear 13 rfl) cI_0 ?_
  obtain ⟨M8, e7, h⟩ := kOk_b h
  refine k_cSV G (dc d_St_clear 14 rfl) mi_Ar_fillI ms_Ar_fillI ml_RX7_56 (c_Ar_fillI (gst G) (okL_a hu (o := 10) 10 rfl) e7) rfl rfl ⟨rfl, rfl⟩ rfl ⟨rfl, rfl⟩ ⟨rfl, rfl⟩ ?_
  refine k_aload_n G (dc d_St_clear 15 rfl) 0 rfl rfl ?_
  refine k_getR G kc5 (dc d_St_clear 16 rfl) (okL_lt hu (o := 0) 0 rfl) (okL_k hu (o := 0) 0 rfl) 10 (by decide) rfl fl_RX7_43 (u + 11) (okL_r hu (o := 0) (c := 11) 0 rfl 9 rfl) ?_
  refine k_iconst G (dc d_St_clear 17 rfl) cI_0 ?_
  refine k_iconst G (dc d_St_clear 18 rfl) cI_4 ?_
  obtain ⟨M10, e9, h⟩ := kOk_b h
  refine k_ist G (dc d_St_clear 19 rfl) (okL_lt hu (o := 11) 11 rfl) (okL_k hu (o := 11) 11 rfl) (okL_n hu (o := 11) 11 rfl) e9 ?_
  refine k_aload_n G (dc d_St_clear 20 rfl) 0 rfl rfl ?_
  refine k_getR G kc5 (dc d_St_clear 21 rfl) (okL_lt hu (o := 0) 0 rfl) (okL_k hu (o := 0) 0 rfl) 10 (by decide) rfl fl_RX7_43 (u + 11) (okL_r hu (o := 0) (c := 11) 0 rfl 9 rfl) ?_
  refine k_iconst G (dc d_St_clear 22 rfl) cI_1 ?_
  refine k_iconst G (dc d_St_clear 23 rfl) cI_3 ?_
  obtain ⟨M12, e11, h⟩ := kOk_b h
  refine k_ist G (dc d_St_clear 24 rfl) (okL_lt hu (o := 11) 11 rfl) (okL_k hu (o := 11) 11 rfl) (okL_n hu (o := 11) 11 rfl) e11 ?_
  refine k_aload_n G (dc d_St_clear 25 rfl) 0 rfl rfl ?_
  refine k_iconst G (dc d_St_clear 26 rfl) cI_0 ?_
  obtain ⟨M14, e13, h⟩ := kOk_b h
  refine k_putI G kc5 (dc d_St_clear 27 rfl) (okL_lt hu (o := 0) 0 rfl) (okL_k hu (o := 0) 0 rfl) 11 (by decide) rfl rfl fl_RX7_62 rfl rfl e13 ?_
  refine k_aload_n G (dc d_St_clear 28 rfl) 0 rfl rfl ?_
  refine k_iconst G (dc d_St_clear 29 rfl) cI_0 ?_
  obtain ⟨M16, e15, h⟩ := kOk_b h
  refine k_putI G kc5 (dc d_St_clear 30 rfl) (okL_lt hu (o := 0) 0 rfl) (okL_k hu (o := 0) 0 rfl) 12 (by decide) rfl rfl fl_RX7_65 rfl rfl e15 ?_
  refine k_aload_n G (dc d_St_clear 31 rfl) 0 rfl rfl ?_
  refine k_iconst G (dc d_St_clear 32 rfl) cI_m1 ?_
  obtain ⟨M18, e17, h⟩ := kOk_b h
  refine k_putI G kc5 (dc d_St_clear 33 rfl) (okL_lt hu (o := 0) 0 rfl) (okL_k hu (o := 0) 0 rfl) 13 (by decide) rfl rfl fl_RX7_68 rfl rfl e17 ?_
  refine k_aload_n G (dc d_St_clear 34 rfl) 0 rfl rfl ?_
  refine k_iconst G (dc d_St_clear 35 rfl) cI_0 ?_
  obtain ⟨M20, e19, h⟩ := kOk_b h
  refine k_putI G kc5 (dc d_St_clear 36 rfl) (okL_lt hu (o := 0) 0 rfl) (okL_k hu (o := 0) 0 rfl) 14 (by decide) rfl rfl fl_RX7_71 rfl rfl e19 ?_
  exact (kOk_s h) _ _ _ _ rfl rfl (dc d_St_clear 37 rfl)
theorem c_St_clear {l : Launch} {B : KB} {L : KLay} {M : KMem} {u : Nat} (hst : l.stackTraces = false) (hu : okL L u stT) {M' : KMem} (e : m_St_clear u M = some M') : CtrN l B yX7_clear cX7_clear 1 none rm_St_clear [.ref (B.1 + u)] L M none L M' :=
  mk_V rfl hst rfl (fun X hl G _ R => b_St_clear G hu ⟨_, e, R⟩)
def I_St_copyFrom : List (Nat × Instr × Nat) := [(0, .aload_n 0, 1), (1, .getfield 12, 3), (4, .aload_n 1, 1), (5, .getfield 12, 3), (8, .invokevirtual 74, 3), (11, .aload_n 0, 1), (12, .aload_n 1, 1), (13, .getfield 53, 3), (16, .putfield 53, 3), (19, .aload_n 1, 1), (20, .getfield 18, 3), (23, .iconst 0, 1), (24, .aload_n 0, 1), (25, .getfield 18, 3), (28, .iconst 0, 1), (29, .bipush 8, 2), (31, .invokestatic 78, 3), (34, .aload_n 1, 1), (35, .getfield 22, 3), (38, .iconst 0, 1), (39, .aload_n 0, 1), (40, .getfield 22, 3), (43, .iconst 0, 1), (44, .bipush 8, 2), (46, .invokestatic 78, 3), (49, .aload_n 1, 1), (50, .getfield 25, 3), (53, .iconst 0, 1), (54, .aload_n 0, 1), (55, .getfield 25, 3), (58, .iconst 0, 1), (59, .bipush 8, 2), (61, .invokestatic 78, 3), (64, .aload_n 1, 1), (65, .getfield 28, 3), (68, .iconst 0, 1), (69, .aload_n 0, 1), (70, .getfield 28, 3), (73, .iconst 0, 1), (74, .bipush 8, 2), (76, .invokestatic 78, 3), (79, .aload_n 1, 1), (80, .getfield 31, 3), (83, .iconst 0, 1), (84, .aload_n 0, 1), (85, .getfield 31, 3), (88, .iconst 0, 1), (89, .bipush 8, 2), (91, .invokestatic 78, 3), (94, .aload_n 1, 1), (95, .getfield 34, 3), (98, .iconst 0, 1), (99, .aload_n 0, 1), (100, .getfield 34, 3), (103, .iconst 0, 1), (104, .bipush 8, 2), (106, .invokestatic 78, 3), (109, .aload_n 1, 1), (110, .getfield 37, 3), (113, .iconst 0, 1), (114, .aload_n 0, 1), (115, .getfield 37, 3), (118, .iconst 0, 1), (119, .iconst 4, 1), (120, .invokestatic 78, 3), (123, .aload_n 1, 1), (124, .getfield 40, 3), (127, .iconst 0, 1), (128, .aload_n 0, 1), (129, .getfield 40, 3), (132, .iconst 0, 1), (133, .iconst 4, 1), (134, .invokestatic 78, 3), (137, .aload_n 1, 1), (138, .getfield 43, 3), (141, .iconst 0, 1), (142, .aload_n 0, 1), (143, .getfield 43, 3), (146, .iconst 0, 1), (147, .iconst 2, 1), (148, .invokestatic 78, 3), (151, .aload_n 0, 1), (152, .aload_n 1, 1), (153, .getfield 62, 3), (156, .putfield 62, 3), (159, .aload_n 0, 1), (160, .aload_n 1, 1), (161, .getfield 65, 3), (164, .putfield 65, 3), (167, .aload_n 0, 1), (168, .aload_n 1, 1), (169, .getfield 68, 3), (172, .putfield 68, 3), (175, .aload_n 0, 1), (176, .aload_n 1, 1), (177, .getfield 71, 3), (180, .putfield 71, 3), (183, .return_, 1)]
set_option maxRecDepth 100000 in
theorem d_St_copyFrom : decA cX7_copyFrom I_St_copyFrom = true := by decide +kernel
abbrev rm_St_copyFrom : Room := ({ frames := 2, cells := 0, slots := 0, locals := 81 } : Room)
def m_St_copyFrom (u : Nat) (p0 : Nat) (M : KMem) : Option KMem :=
 Option.bind (m_De_copyFrom (u + 1) (p0 + 1) M) fun M2 =>
 Option.bind (some (kup M2 u 1 (M2 p0 1))) fun M4 =>
 Option.bind (cpI M4 (p0 + 3) 8 (u + 3) 8 0 0 8) fun M6 =>
 Option.bind (cpI M6 (p0 + 4) 8 (u + 4) 8 0 0 8) fun M8 =>
 Option.bind (cpI M8 (p0 + 5) 8 (u + 5) 8 0 0 8) fun M10 =>
 Option.bind (cpI M10 (p0 + 6) 8 (u + 6) 8 0 0 8) fun M12 =>
 Option.bind (cpI M12 (p0 + 7) 8 (u + 7) 8 0 0 8) fun M14 =>
 Option.bind (cpI M14 (p0 + 8) 8 (u + 8) 8 0 0 8) fun M16 =>
 Option.bind (cpI M16 (p0 + 9) 4 (u + 9) 4 0 0 4) fun M18 =>
 Option.bind (cpI M18 (p0 + 10) 4 (u + 10) 4 0 0 4) fun M20 =>
 Option.bind (cpI M20 (p0 + 11) 2 (u + 11) 2 0 0 2) fun M22 =>
 Option.bind (some (kup M22 u 11 (M22 p0 11))) fun M24 =>
 Option.bind (some (kup M24 u 12 (M24 p0 12))) fun M26 =>
 Option.bind (some (kup M26 u 13 (M26 p0 13))) fun M28 =>
 Option.bind (some (kup M28 u 14 (M28 p0 14))) fun M30 =>
 some M30
set_option maxHeartbeats 4000000 in
set_option maxRecDepth 100000 in
theorem b_St_copyFrom {X : KX} {B : KB} {L : KLay} {M : KMem} {u : Nat} {p0 : Nat} (G : Good X B RX7 cX7_copyFrom 2 rm_St_copyFrom) (hx : B.2.2.2 = false) (hu : okL L u stT) (hp0 : okL L p0 stT) (h : kOk (m_St_copyFrom u p0 M) (fun r => RV X B L 2 cX7_copyFrom rm_St_copyFrom r)) : KK X B L 2 0 0 M 0 [(0, .ref (B.1 + u)), (1, .ref (B.1 + p0))] [] := by
  unfold m_St_copyFrom at h
  refine k_aload_n G (dc d_St_copyFrom 0 rfl) 0 rfl rfl ?_
  refine k_getR G kc5 (dc d_St_copyFrom 1 rfl) (okL_lt hu (o := 0) 0 rfl) (okL_k hu (o := 0) 0 rfl) 0 (by decide) rfl fl_RX7_12 (u + 1) (okL_r hu (o := 0) (c := 1) 0 rfl 0 rfl) ?_
  refine k_aload_n G (dc d_St_copyFrom 2 rfl) 1 rfl rfl ?_
  refine k_getR G kc5 (dc d_St_copyFrom 3 rfl) (okL_lt hp0 (o := 0) 0 rfl) (okL_k hp0 (o := 0) 0 rfl) 0 (by decide) rfl fl_RX7_12 (p0 + 1) (okL_r hp0 (o := 0) (c := 1) 0 rfl 0 rfl) ?_
  obtain ⟨M2, e1, h⟩ := kOk_b h
  refine k_cVV G (dc d_St_copyFrom 4 rfl) kc0 (okL_lt hu (o := 1) 1 rfl) (okL_k hu (o := 1) 1 rfl) mi_De_copyFrom mv_De_copyFrom rfl ml_RX7_74 (c_De_copyFrom (gst G) hx (okL_sub hu 1 (by decide +kernel)) (okL_sub hp0 1 (by decide +kernel)) e1) rfl rfl ⟨rfl, rfl⟩ rfl ⟨rfl, rfl⟩ ⟨rfl, rfl⟩ ?_
  refine k_aload_n G (dc d_St_copyFrom 5 rfl) 0 rfl rfl ?_
  refine k_aload_n G (dc d_St_copyFrom 6 rfl) 1 rfl rfl ?_
  refine k_getI G kc5 (dc d_St_copyFrom 7 rfl) (okL_lt hp0 (o := 0) 0 rfl) (okL_k hp0 (o := 0) 0 rfl) 1 (by decide) rfl fl_RX7_53 ?_
  obtain ⟨M4, e3, h⟩ := kOk_b h
  refine k_putI G kc5 (dc d_St_copyFrom 8 rfl) (okL_lt hu (o := 0) 0 rfl) (okL_k hu (o := 0) 0 rfl) 1 (by decide) rfl rfl fl_RX7_53 rfl rfl e3 ?_
  refine k_aload_n G (dc d_St_copyFrom 9 rfl) 1 rfl rfl ?_
  refine k_getR G kc5 (dc d_St_copyFrom 10 rfl) (okL_lt hp0 (o := 0) 0 rfl) (okL_k hp0 (o := 0) 0 rfl) 2 (by decide) rfl fl_RX7_18 (p0 + 3) (okL_r hp0 (o := 0) (c := 3) 0 rfl 1 rfl) ?_
  refine k_iconst G (dc d_St_copyFrom 11 rfl) cI_0 ?_
  refine k_aload_n G (dc d_St_copyFrom 12 rfl) 0 rfl rfl ?_
  refine k_getR G kc5 (dc d_St_copyFrom 13 rfl) (okL_lt hu (o := 0) 0 rfl) (okL_k hu (o := 0) 0 rfl) 2 (by decide) rfl fl_RX7_18 (u + 3) (okL_r hu (o := 0) (c := 3) 0 rfl 1 rfl) ?_
  refine k_iconst G (dc d_St_copyFrom 14 rfl) cI_0 ?_
  refine k_bipush G (dc d_St_copyFrom 15 rfl) cB_8 ?_
  obtain ⟨M6, e5, h⟩ := kOk_b h
  refine k_copy G hx (dc d_St_copyFrom 16 rfl) ml_RX7_78 syscopy ⟨rfl, rfl⟩ (okL_lt hp0 (o := 3) 3 rfl) (okL_k hp0 (o := 3) 3 rfl) (okL_n hp0 (o := 3) 3 rfl) (okL_lt hu (o := 3) 3 rfl) (okL_k hu (o := 3) 3 rfl) (okL_n hu (o := 3) 3 rfl) e5 ?_
  refine k_aload_n G (dc d_St_copyFrom 17 rfl) 1 rfl rfl ?_
  refine k_getR G kc5 (dc d_St_copyFrom 18 rfl) (okL_lt hp0 (o := 0) 0 rfl) (okL_k hp0 (o := 0) 0 rfl) 3 (by decide) rfl fl_RX7_22 (p0 + 4) (okL_r hp0 (o := 0) (c := 4) 0 rfl 2 rfl) ?_
  refine k_iconst G (dc d_St_copyFrom 19 rfl) cI_0 ?_
  refine k_aload_n G (dc d_St_copyFrom 20 rfl) 0 rfl rfl ?_
  refine k_getR G kc5 (dc d_St_copyFrom 21 rfl) (okL_lt hu (o := 0) 0 rfl) (okL_k hu (o := 0) 0 rfl) 3 (by decide) rfl fl_RX7_22 (u + 4) (okL_r hu (o := 0) (c := 4) 0 rfl 2 rfl) ?_
  refine k_iconst G (dc d_St_copyFrom 22 rfl) cI_0 ?_
  refine k_bipush G (dc d_St_copyFrom 23 rfl) cB_8 ?_
  obtain ⟨M8, e7, h⟩ := kOk_b h
  refine k_copy G hx (dc d_St_copyFrom 24 rfl) ml_RX7_78 syscopy ⟨rfl, rfl⟩ (okL_lt hp0 (o := 4) 4 rfl) (okL_k hp0 (o := 4) 4 rfl) (okL_n hp0 (o := 4) 4 rfl) (okL_lt hu (o := 4) 4 rfl) (okL_k hu (o := 4) 4 rfl) (okL_n hu (o := 4) 4 rfl) e7 ?_
  refine k_aload_n G (dc d_St_copyFrom 25 rfl) 1 rfl rfl ?_
  refine k_getR G kc5 (dc d_St_copyFrom 26 rfl) (okL_lt hp0 (o := 0) 0 rfl) (okL_k hp0 (o := 0) 0 rfl) 4 (by decide) rfl fl_RX7_25 (p0 + 5) (okL_r hp0 (o := 0) (c := 5) 0 rfl 3 rfl) ?_
  refine k_iconst G (dc d_St_copyFrom 27 rfl) cI_0 ?_
  refine k_aload_n G (dc d_St_copyFrom 28 rfl) 0 rfl rfl ?_
  refine k_getR G kc5 (dc d_St_copyFrom 29 rfl) (okL_lt hu (o := 0) 0 rfl) (okL_k hu (o := 0) 0 rfl) 4 (by decide) rfl fl_RX7_25 (u + 5) (okL_r hu (o := 0) (c := 5) 0 rfl 3 rfl) ?_
  refine k_iconst G (dc d_St_copyFrom 30 rfl) cI_0 ?_
  refine k_bipush G (dc d_St_copyFrom 31 rfl) cB_8 ?_
  obtain ⟨M10, e9, h⟩ := kOk_b h
  refine k_copy G hx (dc d_St_copyFrom 32 rfl) ml_RX7_78 syscopy ⟨rfl, rfl⟩ (okL_lt hp0 (o := 5) 5 rfl) (okL_k hp0 (o := 5) 5 rfl) (okL_n hp0 (o := 5) 5 rfl) (okL_lt hu (o := 5) 5 rfl) (okL_k hu (o := 5) 5 rfl) (okL_n hu (o := 5) 5 rfl) e9 ?_
  refine k_aload_n G (dc d_St_copyFrom 33 rfl) 1 rfl rfl ?_
  refine k_getR G kc5 (dc d_St_copyFrom 34 rfl) (okL_lt hp0 (o := 0) 0 rfl) (okL_k hp0 (o := 0) 0 rfl) 5 (by decide) rfl fl_RX7_28 (p0 + 6) (okL_r hp0 (o := 0) (c := 6) 0 rfl 4 rfl) ?_
  refine k_iconst G (dc d_St_copyFrom 35 rfl) cI_0 ?_
  refine k_aload_n G (dc d_St_copyFrom 36 rfl) 0 rfl rfl ?_
  refine k_getR G kc5 (dc d_St_copyFrom 37 rfl) (okL_lt hu (o := 0) 0 rfl) (okL_k hu (o := 0) 0 rfl) 5 (by decide) rfl fl_RX7_28 (u + 6) (okL_r hu (o := 0) (c := 6) 0 rfl 4 rfl) ?_
  refine k_iconst G (dc d_St_copyFrom 38 rfl) cI_0 ?_
  refine k_bipush G (dc d_St_copyFrom 39 rfl) cB_8 ?_
  obtain ⟨M12, e11, h⟩ := kOk_b h
  refine k_copy G hx (dc d_St_copyFrom 40 rfl) ml_RX7_78 syscopy ⟨rfl, rfl⟩ (okL_lt hp0 (o := 6) 6 rfl) (okL_k hp0 (o := 6) 6 rfl) (okL_n hp0 (o := 6) 6 rfl) (okL_lt hu (o := 6) 6 rfl) (okL_k hu (o := 6) 6 rfl) (okL_n hu (o := 6) 6 rfl) e11 ?_
  refine k_aload_n G (dc d_St_copyFrom 41 rfl) 1 rfl rfl ?_
  refine k_getR G kc5 (dc d_St_copyFrom 42 rfl) (okL_lt hp0 (o := 0) 0 rfl) (okL_k hp0 (o := 0) 0 rfl) 6 (by decide) rfl fl_RX7_31 (p0 + 7) (okL_r hp0 (o := 0) (c := 7) 0 rfl 5 rfl) ?_
  refine k_iconst G (dc d_St_copyFrom 43 rfl) cI_0 ?_
  refine k_aload_n G (dc d_St_copyFrom 44 rfl) 0 rfl rfl ?_
  refine k_getR G kc5 (dc d_St_copyFrom 45 rfl) (okL_lt hu (o := 0) 0 rfl) (okL_k hu (o := 0) 0 rfl) 6 (by decide) rfl fl_RX7_31 (u + 7) (okL_r hu (o := 0) (c := 7) 0 rfl 5 rfl) ?_
  refine k_iconst G (dc d_St_copyFrom 46 rfl) cI_0 ?_
  refine k_bipush G (dc d_St_copyFrom 47 rfl) cB_8 ?_
  obtain ⟨M14, e13, h⟩ := kOk_b h
  refine k_copy G hx (dc d_St_copyFrom 48 rfl) ml_RX7_78 syscopy ⟨rfl, rfl⟩ (okL_lt hp0 (o := 7) 7 rfl) (okL_k hp0 (o := 7) 7 rfl) (okL_n hp0 (o := 7) 7 rfl) (okL_lt hu (o := 7) 7 rfl) (okL_k hu (o := 7) 7 rfl) (okL_n hu (o := 7) 7 rfl) e13 ?_
  refine k_aload_n G (dc d_St_copyFrom 49 rfl) 1 rfl rfl ?_
  refine k_getR G kc5 (dc d_St_copyFrom 50 rfl) (okL_lt hp0 (o := 0) 0 rfl) (okL_k hp0 (o := 0) 0 rfl) 7 (by decide) rfl fl_RX7_34 (p0 + 8) (okL_r hp0 (o := 0) (c := 8) 0 rfl 6 rfl) ?_
  refine k_iconst G (dc d_St_copyFrom 51 rfl) cI_0 ?_
  refine k_aload_n G (dc d_St_copyFrom 52 rfl) 0 rfl rfl ?_
  refine k_getR G kc5 (dc d_St_copyFrom 53 rfl) (okL_lt hu (o := 0) 0 rfl) (okL_k hu (o := 0) 0 rfl) 7 (by decide) rfl fl_RX7_34 (u + 8) (okL_r hu (o := 0) (c := 8) 0 rfl 6 rfl) ?_
  refine k_iconst G (dc d_St_copyFrom 54 rfl) cI_0 ?_
  refine k_bipush G (dc d_St_copyFrom 55 rfl) cB_8 ?_
  obtain ⟨M16, e15, h⟩ := kOk_b h
  refine k_copy G hx (dc d_St_copyFrom 56 rfl) ml_RX7_78 syscopy ⟨rfl, rfl⟩ (okL_lt hp0 (o := 8) 8 rfl) (okL_k hp0 (o := 8) 8 rfl) (okL_n hp0 (o := 8) 8 rfl) (okL_lt hu (o := 8) 8 rfl) (okL_k hu (o := 8) 8 rfl) (okL_n hu (o := 8) 8 rfl) e15 ?_
  refine k_aload_n G (dc d_St_copyFrom 57 rfl) 1 rfl rfl ?_
  refine k_getR G kc5 (dc d_St_copyFrom 58 rfl) (okL_lt hp0 (o := 0) 0 rfl) (okL_k hp0 (o := 0) 0 rfl) 8 (by decide) rfl fl_RX7_37 (p0 + 9) (okL_r hp0 (o := 0) (c := 9) 0 rfl 7 rfl) ?_
  refine k_iconst G (dc d_St_copyFrom 59 rfl) cI_0 ?_
  refine k_aload_n G (dc d_St_copyFrom 60 rfl) 0 rfl rfl ?_
  refine k_getR G kc5 (dc d_St_copyFrom 61 rfl) (okL_lt hu (o := 0) 0 rfl) (okL_k hu (o := 0) 0 rfl) 8 (by decide) rfl fl_RX7_37 (u + 9) (okL_r hu (o := 0) (c := 9) 0 rfl 7 rfl) ?_
  refine k_iconst G (dc d_St_copyFrom 62 rfl) cI_0 ?_
  refine k_iconst G (dc d_St_copyFrom 63 rfl) cI_4 ?_
  obtain ⟨M18, e17, h⟩ := kOk_b h
  refine k_copy G hx (dc d_St_copyFrom 64 rfl) ml_RX7_78 syscopy ⟨rfl, rfl⟩ (okL_lt hp0 (o := 9) 9 rfl) (okL_k hp0 (o := 9) 9 rfl) (okL_n hp0 (o := 9) 9 rfl) (okL_lt hu (o := 9) 9 rfl) (okL_k hu (o := 9) 9 rfl) (okL_n hu (o := 9) 9 rfl) e17 ?_
  refine k_aload_n G (dc d_St_copyFrom 65 rfl) 1 rfl rfl ?_
  refine k_getR G kc5 (dc d_St_copyFrom 66 rfl) (okL_lt hp0 (o := 0) 0 rfl) (okL_k hp0 (o := 0) 0 rfl) 9 (by decide) rfl fl_RX7_40 (p0 + 10) (okL_r hp0 (o := 0) (c := 10) 0 rfl 8 rfl) ?_
  refine k_iconst G (dc d_St_copyFrom 67 rfl) cI_0 ?_
  refine k_aload_n G (dc d_St_copyFrom 68 rfl) 0 rfl rfl ?_
  refine k_getR G kc5 (dc d_St_copyFrom 69 rfl) (okL_lt hu (o := 0) 0 rfl) (okL_k hu (o := 0) 0 rfl) 9 (by decide) rfl fl_RX7_40 (u + 10) (okL_r hu (o := 0) (c := 10) 0 rfl 8 rfl) ?_
  refine k_iconst G (dc d_St_copyFrom 70 rfl) cI_0 ?_
  refine k_iconst G (dc d_St_copyFrom 71 rfl) cI_4 ?_
  obtain ⟨M20, e19, h⟩ := kOk_b h
  refine k_copy G hx (dc d_St_copyFrom 72 rfl) ml_RX7_78 syscopy ⟨rfl, rfl⟩ (okL_lt hp0 (o := 10) 10 rfl) (okL_k hp0 (o := 10) 10 rfl) (okL_n hp0 (o := 10) 10 rfl) (okL_lt hu (o := 10) 10 rfl) (okL_k hu (o := 10) 10 rfl) (okL_n hu (o := 10) 10 rfl) e19 ?_
  refine k_aload_n G (dc d_St_copyFrom 73 rfl) 1 rfl rfl ?_
  refine k_getR G kc5 (dc d_St_copyFrom 74 rfl) (okL_lt hp0 (o := 0) 0 rfl) (okL_k hp0 (o := 0) 0 rfl) 10 (by decide) rfl fl_RX7_43 (p0 + 11) (okL_r hp0 (o := 0) (c := 11) 0 rfl 9 rfl) ?_
  refine k_iconst G (dc d_St_copyFrom 75 rfl) cI_0 ?_
  refine k_aload_n G (dc d_St_copyFrom 76 rfl) 0 rfl rfl ?_
  refine k_getR G kc5 (dc d_St_copyFrom 77 rfl) (okL_lt hu (o := 0) 0 rfl) (okL_k hu (o := 0) 0 rfl) 10 (by decide) rfl fl_RX7_43 (u + 11) (okL_r hu (o := 0) (c := 11) 0 rfl 9 rfl) ?_
  refine k_iconst G (dc d_St_copyFrom 78 rfl) cI_0 ?_
  refine k_iconst G (dc d_St_copyFrom 79 rfl) cI_2 ?_
  obtain ⟨M22, e21, h⟩ := kOk_b h
  refine k_copy G hx (dc d_St_copyFrom 80 rfl) ml_RX7_78 syscopy ⟨rfl, rfl⟩ (okL_lt hp0 (o := 11) 11 rfl) (okL_k hp0 (o := 11) 11 rfl) (okL_n hp0 (o := 11) 11 rfl) (okL_lt hu (o := 11) 11 rfl) (okL_k hu (o := 11) 11 rfl) (okL_n hu (o := 11) 11 rfl) e21 ?_
  refine k_aload_n G (dc d_St_copyFrom 81 rfl) 0 rfl rfl ?_
  refine k_aload_n G (dc d_St_copyFrom 82 rfl) 1 rfl rfl ?_
  refine k_getI G kc5 (dc d_St_copyFrom 83 rfl) (okL_lt hp0 (o := 0) 0 rfl) (okL_k hp0 (o := 0) 0 rfl) 11 (by decide) rfl fl_RX7_62 ?_
  obtain ⟨M24, e23, h⟩ := kOk_b h
  refine k_putI G kc5 (dc d_St_copyFrom 84 rfl) (okL_lt hu (o := 0) 0 rfl) (okL_k hu (o := 0) 0 rfl) 11 (by decide) rfl rfl fl_RX7_62 rfl rfl e23 ?_
  refine k_aload_n G (dc d_St_copyFrom 85 rfl) 0 rfl rfl ?_
  refine k_aload_n G (dc d_St_copyFrom 86 rfl) 1 rfl rfl ?_
  refine k_getI G kc5 (dc d_St_copyFrom 87 rfl) (okL_lt hp0 (o := 0) 0 rfl) (okL_k hp0 (o := 0) 0 rfl) 12 (by decide) rfl fl_RX7_65 ?_
  obtain ⟨M26, e25, h⟩ := kOk_b h
  refine k_putI G kc5 (dc d_St_copyFrom 88 rfl) (okL_lt hu (o := 0) 0 rfl) (okL_k hu (o := 0) 0 rfl) 12 (by decide) rfl rfl fl_RX7_65 rfl rfl e25 ?_
  refine k_aload_n G (dc d_St_copyFrom 89 rfl) 0 rfl rfl ?_
  refine k_aload_n G (dc d_St_copyFrom 90 rfl) 1 rfl rfl ?_
  refine k_getI G kc5 (dc d_St_copyFrom 91 rfl) (okL_lt hp0 (o := 0) 0 rfl) (okL_k hp0 (o := 0) 0 rfl) 13 (by decide) rfl fl_RX7_68 ?_
  obtain ⟨M28, e27, h⟩ := kOk_b h
  refine k_putI G kc5 (dc d_St_copyFrom 92 rfl) (okL_lt hu (o := 0) 0 rfl) (okL_k hu (o := 0) 0 rfl) 13 (by decide) rfl rfl fl_RX7_68 rfl rfl e27 ?_
  refine k_aload_n G (dc d_St_copyFrom 93 rfl) 0 rfl rfl ?_
  refine k_aload_n G (dc d_St_copyFrom 94 rfl) 1 rfl rfl ?_
  refine k_getI G kc5 (dc d_St_copyFrom 95 rfl) (okL_lt hp0 (o := 0) 0 rfl) (okL_k hp0 (o := 0) 0 rfl) 14 (by decide) rfl fl_RX7_71 ?_
  obtain ⟨M30, e29, h⟩ := kOk_b h
  refine k_putI G kc5 (dc d_St_copyFrom 96 rfl) (okL_lt hu (o := 0) 0 rfl) (okL_k hu (o := 0) 0 rfl) 14 (by decide) rfl rfl fl_RX7_71 rfl rfl e29 ?_
  exact (kOk_s h) _ _ _ _ rfl rfl (dc d_St_copyFrom 97 rfl)
theorem c_St_copyFrom {l : Launch} {B : KB} {L : KLay} {M : KMem} {u : Nat} {p0 : Nat} (hst : l.stackTraces = false) (hx : B.2.2.2 = false) (hu : okL L u stT) (hp0 : okL L p0 stT) {M' : KMem} (e : m_St_copyFrom u p0 M = some M') : CtrN l B yX7_copyFrom cX7_copyFrom 2 none rm_St_copyFrom [.ref (B.1 + u), .ref (B.1 + p0)] L M none L M' :=
  mk_V rfl hst rfl (fun X hl G _ R => b_St_copyFrom G hx hu hp0 ⟨_, e, R⟩)
end
section
/-! laid by wip/whole/lay.py: Me_remember, Me_takeBack, Me_forgetStates, Me_isFilled, Me_fillSlot, Me_copySlot, Me_emptySlots -/
def I_Me_remember : List (Nat × Instr × Nat) := [(0, .aload_n 0, 1), (1, .getfield 11, 3), (4, .aload_n 0, 1), (5, .getfield 25, 3), (8, .aload_n 0, 1), (9, .getfield 29, 3), (12, .iadd, 1), (13, .bipush 14, 2), (15, .irem, 1), (16, .aaload, 1), (17, .astore_n 2, 1), (18, .aload_n 2, 1), (19, .ifnull 8, 3), (22, .aload_n 2, 1), (23, .aload_n 1, 1), (24, .invokevirtual 32, 3), (27, .aload_n 0, 1), (28, .getfield 29, 3), (31, .bipush 14, 2), (33, .if_icmp .ge 16, 3), (36, .aload_n 0, 1), (37, .dup, 1), (38, .getfield 29, 3), (41, .iconst 1, 1), (42, .iadd, 1), (43, .putfield 29, 3), (46, .goto 16, 3), (49, .aload_n 0, 1), (50, .aload_n 0, 1), (51, .getfield 25, 3), (54, .iconst 1, 1), (55, .iadd, 1), (56, .bipush 14, 2), (58, .irem, 1), (59, .putfield 25, 3), (62, .return_, 1)]
set_option maxRecDepth 100000 in
theorem d_Me_remember : decA cX2_remember I_Me_remember = true := by decide +kernel
abbrev rm_Me_remember : Room := ({ frames := 3, cells := 0, slots := 0, locals := 102 } : Room)
def m_Me_remember (u : Nat) (p0 : Nat) (M : KMem) : Option KMem :=
 Option.bind (ckI 14 (jrem ((M u 1) + (M u 2)) 14)) fun j2 =>
 Option.bind (m_St_copyFrom (u + (4 + 12 * j2)) p0 M) fun M5 =>
 Option.bind (α := KMem) (if 14 ≤ (M5 u 2) then
 (Option.bind (some (kup M5 u 1 (jrem ((M5 u 1) + 1) 14))) fun M10 =>
 some M10)
 else
 (Option.bind (some (kup M5 u 2 ((M5 u 2) + 1))) fun M12 =>
 some M12)) fun M6 =>
 some M6
set_option maxHeartbeats 4000000 in
set_option maxRecDepth 100000 in
theorem b_Me_remember {X : KX} {B : KB} {L : KLay} {M : KMem} {u : Nat} {p0 : Nat} (G : Good X B RX2 cX2_remember 3 rm_Me_remember) (hx : B.2.2.2 = false) (hu : okL L u meT) (hp0 : okL L p0 stT) (h : kOk (m_Me_remember u p0 M) (fun r => RV X B L 3 cX2_remember rm_Me_remember r)) : KK X B L 3 0 0 M 0 [(0, .ref (B.1 + u)), (1, .ref (B.1 + p0))] [] := by
  unfold m_Me_remember at h
  refine k_aload_n G (dc d_Me_remember 0 rfl) 0 rfl rfl ?_
  refine k_getR G kc2 (dc d_Me_remember 1 rfl) (okL_lt hu (o := 0) 0 rfl) (okL_k hu (o := 0) 0 rfl) 0 (by decide) rfl fl_RX2_11 (u + 1) (okL_r hu (o := 0) (c := 1) 0 rfl 0 rfl) ?_
  refine k_aload_n G (dc d_Me_remember 2 rfl) 0 rfl rfl ?_
  refine k_getI G kc2 (dc d_Me_remember 3 rfl) (okL_lt hu (o := 0) 0 rfl) (okL_k hu (o := 0) 0 rfl) 1 (by decide) rfl fl_RX2_25 ?_
  refine k_aload_n G (dc d_Me_remember 4 rfl) 0 rfl rfl ?_
  refine k_getI G kc2 (dc d_Me_remember 5 rfl) (okL_lt hu (o := 0) 0 rfl) (okL_k hu (o := 0) 0 rfl) 2 (by decide) rfl fl_RX2_29 ?_
  refine k_iadd G (dc d_Me_remember 6 rfl) ?_
  refine k_bipush G (dc d_Me_remember 7 rfl) cB_14 ?_
  refine k_irem G (dc d_Me_remember 8 rfl) czI_14 ?_
  obtain ⟨j2, e1, h⟩ := kOk_b h
  have hq3 := me_rs hu (ckI_ok e1).2.2
  refine k_qld G (dc d_Me_remember 9 rfl) (okL_lt hu (o := 1) 1 rfl) (okL_k hu (o := 1) 1 rfl) (okL_n hu (o := 1) 1 rfl) e1 (me_ring hu (ckI_ok e1).2.2) ?_
  refine k_astore_n G (dc d_Me_remember 10 rfl) (ls' := [(2, .ref (B.1 + (u + (4 + 12 * j2)))), (0, .ref (B.1 + u)), (1, .ref (B.1 + p0))]) rfl rfl rfl ?_
  refine k_aload_n G (dc d_Me_remember 11 rfl) 0 rfl rfl ?_
  refine k_ifnull G (dc d_Me_remember 12 rfl) ?_
  refine k_aload_n G (dc d_Me_remember 13 rfl) 0 rfl rfl ?_
  refine k_aload_n G (dc d_Me_remember 14 rfl) 2 rfl rfl ?_
  obtain ⟨M5, e4, h⟩ := kOk_b h
  refine k_cVV G (dc d_Me_remember 15 rfl) kc5 (okL_lt hq3 (o := 0) 0 rfl) (okL_k hq3 (o := 0) 0 rfl) mi_St_copyFrom mv_St_copyFrom rfl ml_RX2_32 (c_St_copyFrom (gst G) hx hq3 hp0 e4) rfl rfl ⟨rfl, rfl⟩ rfl ⟨rfl, rfl⟩ ⟨rfl, rfl⟩ ?_
  refine k_aload_n G (dc d_Me_remember 16 rfl) 1 rfl rfl ?_
  refine k_getI G kc2 (dc d_Me_remember 17 rfl) (okL_lt hu (o := 0) 0 rfl) (okL_k hu (o := 0) 0 rfl) 2 (by decide) rfl fl_RX2_29 ?_
  refine k_bipush G (dc d_Me_remember 18 rfl) cB_14 ?_
  refine kJ h (fun r7 => KK X B L 3 0 0 r7 62 [] []) (fun r7 h => ?_) (fun h => ?_)
  · obtain ⟨M6, rfl⟩ : ∃ z, z = r7 := ⟨_, rfl⟩
    show KK X B L 3 0 0 M6 62 [] []
    exact (kOk_s h) _ _ _ _ rfl rfl (dc d_Me_remember 35 rfl)
  · refine k_icmp_ge G (dc d_Me_remember 19 rfl) (tgt := 49) rfl (fun c8 => ?_) (fun c8 => ?_)
    · replace h := kOk_p c8 h
      refine k_aload_n G (dc d_Me_remember 27 rfl) 1 rfl rfl ?_
      refine k_aload_n G (dc d_Me_remember 28 rfl) 1 rfl rfl ?_
      refine k_getI G kc2 (dc d_Me_remember 29 rfl) (okL_lt hu (o := 0) 0 rfl) (okL_k hu (o := 0) 0 rfl) 1 (by decide) rfl fl_RX2_25 ?_
      refine k_iconst G (dc d_Me_remember 30 rfl) cI_1 ?_
      refine k_iadd G (dc d_Me_remember 31 rfl) ?_
      refine k_bipush G (dc d_Me_remember 32 rfl) cB_14 ?_
      refine k_irem G (dc d_Me_remember 33 rfl) czI_14 ?_
      obtain ⟨M10, e9, h⟩ := kOk_b h
      refine k_putI G kc2 (dc d_Me_remember 34 rfl) (okL_lt hu (o := 0) 0 rfl) (okL_k hu (o := 0) 0 rfl) 1 (by decide) rfl rfl fl_RX2_25 rfl rfl e9 ?_
      refine k_sub [] rfl ?_
      have h9 := kOk_s h
      exact h9
    · replace h := kOk_n c8 h
      refine k_aload_n G (dc d_Me_remember 20 rfl) 1 rfl rfl ?_
      refine k_dup G (dc d_Me_remember 21 rfl) rfl ?_
      refine k_getI G kc2 (dc d_Me_remember 22 rfl) (okL_lt hu (o := 0) 0 rfl) (okL_k hu (o := 0) 0 rfl) 2 (by decide) rfl fl_RX2_29 ?_
      refine k_iconst G (dc d_Me_remember 23 rfl) cI_1 ?_
      refine k_iadd G (dc d_Me_remember 24 rfl) ?_
      obtain ⟨M12, e11, h⟩ := kOk_b h
      refine k_putI G kc2 (dc d_Me_remember 25 rfl) (okL_lt hu (o := 0) 0 rfl) (okL_k hu (o := 0) 0 rfl) 2 (by decide) rfl rfl fl_RX2_29 rfl rfl e11 ?_
      refine k_goto G (dc d_Me_remember 26 rfl) (tgt := 62) rfl ?_
      refine k_sub [] rfl ?_
      have h9 := kOk_s h
      exact h9
theorem c_Me_remember {l : Launch} {B : KB} {L : KLay} {M : KMem} {u : Nat} {p0 : Nat} (hst : l.stackTraces = false) (hx : B.2.2.2 = false) (hu : okL L u meT) (hp0 : okL L p0 stT) {M' : KMem} (e : m_Me_remember u p0 M = some M') : CtrN l B yX2_remember cX2_remember 3 none rm_Me_remember [.ref (B.1 + u), .ref (B.1 + p0)] L M none L M' :=
  mk_V rfl hst rfl (fun X hl G _ R => b_Me_remember G hx hu hp0 ⟨_, e, R⟩)
def I_Me_takeBack : List (Nat × Instr × Nat) := [(0, .aload_n 0, 1), (1, .getfield 29, 3), (4, .ifCond .ne 4, 3), (7, .return_, 1), (8, .aload_n 0, 1), (9, .dup, 1), (10, .getfield 29, 3), (13, .iconst 1, 1), (14, .isub, 1), (15, .putfield 29, 3), (18, .aload_n 0, 1), (19, .getfield 11, 3), (22, .aload_n 0, 1), (23, .getfield 25, 3), (26, .aload_n 0, 1), (27, .getfield 29, 3), (30, .iadd, 1), (31, .bipush 14, 2), (33, .irem, 1), (34, .aaload, 1), (35, .astore_n 2, 1), (36, .aload_n 2, 1), (37, .ifnull 8, 3), (40, .aload_n 1, 1), (41, .aload_n 2, 1), (42, .invokevirtual 32, 3), (45, .return_, 1)]
set_option maxRecDepth 100000 in
theorem d_Me_takeBack : decA cX2_takeBack I_Me_takeBack = true := by decide +kernel
abbrev rm_Me_takeBack : Room := ({ frames := 3, cells := 0, slots := 0, locals := 102 } : Room)
def m_Me_takeBack (u : Nat) (p0 : Nat) (M : KMem) : Option KMem :=
 if (M u 2) = 0 then
 (some M)
 else
 (Option.bind (some (kup M u 2 ((M u 2) - 1))) fun M3 =>
 Option.bind (ckI 14 (jrem ((M3 u 1) + (M3 u 2)) 14)) fun j5 =>
 Option.bind (m_St_copyFrom p0 (u + (4 + 12 * j5)) M3) fun M8 =>
 some M8)
set_option maxHeartbeats 4000000 in
set_option maxRecDepth 100000 in
theorem b_Me_takeBack {X : KX} {B : KB} {L : KLay} {M : KMem} {u : Nat} {p0 : Nat} (G : Good X B RX2 cX2_takeBack 3 rm_Me_takeBack) (hx : B.2.2.2 = false) (hu : okL L u meT) (hp0 : okL L p0 stT) (h : kOk (m_Me_takeBack u p0 M) (fun r => RV X B L 3 cX2_takeBack rm_Me_takeBack r)) : KK X B L 3 0 0 M 0 [(0, .ref (B.1 + u)), (1, .ref (B.1 + p0))] [] := by
  unfold m_Me_takeBack at h
  refine k_aload_n G (dc d_Me_takeBack 0 rfl) 0 rfl rfl ?_
  refine k_getI G kc2 (dc d_Me_takeBack 1 rfl) (okL_lt hu (o := 0) 0 rfl) (okL_k hu (o := 0) 0 rfl) 2 (by decide) rfl fl_RX2_29 ?_
  refine k_if_ne G (dc d_Me_takeBack 2 rfl) (tgt := 8) rfl (fun c1 => ?_) (fun c1 => ?_)
  · replace h := kOk_n c1 h
    refine k_aload_n G (dc d_Me_takeBack 4 rfl) 0 rfl rfl ?_
    refine k_dup G (dc d_Me_takeBack 5 rfl) rfl ?_
    refine k_getI G kc2 (dc d_Me_takeBack 6 rfl) (okL_lt hu (o := 0) 0 rfl) (okL_k hu (o := 0) 0 rfl) 2 (by decide) rfl fl_RX2_29 ?_
    refine k_iconst G (dc d_Me_takeBack 7 rfl) cI_1 ?_
    refine k_isub G (dc d_Me_takeBack 8 rfl) ?_
    obtain ⟨M3, e2, h⟩ := kOk_b h
    refine k_putI G kc2 (dc d_Me_takeBack 9 rfl) (okL_lt hu (o := 0) 0 rfl) (okL_k hu (o := 0) 0 rfl) 2 (by decide) rfl rfl fl_RX2_29 rfl rfl e2 ?_
    refine k_aload_n G (dc d_Me_takeBack 10 rfl) 0 rfl rfl ?_
    refine k_getR G kc2 (dc d_Me_takeBack 11 rfl) (okL_lt hu (o := 0) 0 rfl) (okL_k hu (o := 0) 0 rfl) 0 (by decide) rfl fl_RX2_11 (u + 1) (okL_r hu (o := 0) (c := 1) 0 rfl 0 rfl) ?_
    refine k_aload_n G (dc d_Me_takeBack 12 rfl) 0 rfl rfl ?_
    refine k_getI G kc2 (dc d_Me_takeBack 13 rfl) (okL_lt hu (o := 0) 0 rfl) (okL_k hu (o := 0) 0 rfl) 1 (by decide) rfl fl_RX2_25 ?_
    refine k_aload_n G (dc d_Me_takeBack 14 rfl) 0 rfl rfl ?_
    refine k_getI G kc2 (dc d_Me_takeBack 15 rfl) (okL_lt hu (o := 0) 0 rfl) (okL_k hu (o := 0) 0 rfl) 2 (by decide) rfl fl_RX2_29 ?_
    refine k_iadd G (dc d_Me_takeBack 16 rfl) ?_
    refine k_bipush G (dc d_Me_takeBack 17 rfl) cB_14 ?_
    refine k_irem G (dc d_Me_takeBack 18 rfl) czI_14 ?_
    obtain ⟨j5, e4, h⟩ := kOk_b h
    have hq6 := me_rs hu (ckI_ok e4).2.2
    refine k_qld G (dc d_Me_takeBack 19 rfl) (okL_lt hu (o := 1) 1 rfl) (okL_k hu (o := 1) 1 rfl) (okL_n hu (o := 1) 1 rfl) e4 (me_ring hu (ckI_ok e4).2.2) ?_
    refine k_astore_n G (dc d_Me_takeBack 20 rfl) (ls' := [(2, .ref (B.1 + (u + (4 + 12 * j5)))), (0, .ref (B.1 + u)), (1, .ref (B.1 + p0))]) rfl rfl rfl ?_
    refine k_aload_n G (dc d_Me_takeBack 21 rfl) 0 rfl rfl ?_
    refine k_ifnull G (dc d_Me_takeBack 22 rfl) ?_
    refine k_aload_n G (dc d_Me_takeBack 23 rfl) 2 rfl rfl ?_
    refine k_aload_n G (dc d_Me_takeBack 24 rfl) 0 rfl rfl ?_
    obtain ⟨M8, e7, h⟩ := kOk_b h
    refine k_cVV G (dc d_Me_takeBack 25 rfl) kc5 (okL_lt hp0 (o := 0) 0 rfl) (okL_k hp0 (o := 0) 0 rfl) mi_St_copyFrom mv_St_copyFrom rfl ml_RX2_32 (c_St_copyFrom (gst G) hx hp0 hq6 e7) rfl rfl ⟨rfl, rfl⟩ rfl ⟨rfl, rfl⟩ ⟨rfl, rfl⟩ ?_
    exact (kOk_s h) _ _ _ _ rfl rfl (dc d_Me_takeBack 26 rfl)
  · replace h := kOk_p c1 h
    exact (kOk_s h) _ _ _ _ rfl rfl (dc d_Me_takeBack 3 rfl)
theorem c_Me_takeBack {l : Launch} {B : KB} {L : KLay} {M : KMem} {u : Nat} {p0 : Nat} (hst : l.stackTraces = false) (hx : B.2.2.2 = false) (hu : okL L u meT) (hp0 : okL L p0 stT) {M' : KMem} (e : m_Me_takeBack u p0 M = some M') : CtrN l B yX2_takeBack cX2_takeBack 3 none rm_Me_takeBack [.ref (B.1 + u), .ref (B.1 + p0)] L M none L M' :=
  mk_V rfl hst rfl (fun X hl G _ R => b_Me_takeBack G hx hu hp0 ⟨_, e, R⟩)
def I_Me_forgetStates : List (Nat × Instr × Nat) := [(0, .aload_n 0, 1), (1, .iconst 0, 1), (2, .putfield 29, 3), (5, .return_, 1)]
set_option maxRecDepth 100000 in
theorem d_Me_forgetStates : decA cX2_forgetStates I_Me_forgetStates = true := by decide +kernel
abbrev rm_Me_forgetStates : Room := ({ frames := 0, cells := 0, slots := 0, locals := 0 } : Room)
def m_Me_forgetStates (u : Nat) (M : KMem) : Option KMem :=
 Option.bind (some (kup M u 2 0)) fun M2 =>
 some M2
set_option maxHeartbeats 4000000 in
set_option maxRecDepth 100000 in
theorem b_Me_forgetStates {X : KX} {B : KB} {L : KLay} {M : KMem} {u : Nat} (G : Good X B RX2 cX2_forgetStates 1 rm_Me_forgetStates) (hu : okL L u meT) (h : kOk (m_Me_forgetStates u M) (fun r => RV X B L 1 cX2_forgetStates rm_Me_forgetStates r)) : KK X B L 1 0 0 M 0 [(0, .ref (B.1 + u))] [] := by
  unfold m_Me_forgetStates at h
  refine k_aload_n G (dc d_Me_forgetStates 0 rfl) 0 rfl rfl ?_
  refine k_iconst G (dc d_Me_forgetStates 1 rfl) cI_0 ?_
  obtain ⟨M2, e1, h⟩ := kOk_b h
  refine k_putI G kc2 (dc d_Me_forgetStates 2 rfl) (okL_lt hu (o := 0) 0 rfl) (okL_k hu (o := 0) 0 rfl) 2 (by decide) rfl rfl fl_RX2_29 rfl rfl e1 ?_
  exact (kOk_s h) _ _ _ _ rfl rfl (dc d_Me_forgetStates 3 rfl)
theorem c_Me_forgetStates {l : Launch} {B : KB} {L : KLay} {M : KMem} {u : Nat} (hst : l.stackTraces = false) (hu : okL L u meT) {M' : KMem} (e : m_Me_forgetStates u M = some M') : CtrN l B yX2_forgetStates cX2_forgetStates 1 none rm_Me_forgetStates [.ref (B.1 + u)] L M none L M' :=
  mk_V rfl hst rfl (fun X hl G _ R => b_Me_forgetStates G hu ⟨_, e, R⟩)
def I_Me_isFilled : List (Nat × Instr × Nat) := [(0, .iload_n 1, 1), (1, .ifCond .lt 21, 3), (4, .iload_n 1, 1), (5, .iconst 2, 1), (6, .if_icmp .ge 16, 3), (9, .aload_n 0, 1), (10, .getfield 20, 3), (13, .iload_n 1, 1), (14, .baload, 1), (15, .ifCond .eq 7, 3), (18, .iconst 1, 1), (19, .goto 4, 3), (22, .iconst 0, 1), (23, .ireturn, 1)]
set_option maxRecDepth 100000 in
theorem d_Me_isFilled : decA cX2_isFilled I_Me_isFilled = true := by decide +kernel
abbrev rm_Me_isFilled : Room := ({ frames := 0, cells := 0, slots := 0, locals := 0 } : Room)
def m_Me_isFilled (u : Nat) (p0 : Int32) (M : KMem) : Option Int32 :=
 Option.bind (α := Int32) (if p0 < 0 then
 (some 0)
 else
 (if 2 ≤ p0 then
 (some 0)
 else
 (Option.bind (rdI M (u + 3) 2 p0) fun x8 =>
 if x8 = 0 then
 (some 0)
 else
 (some 1)))) fun t1 =>
 Option.bind (kz t1) fun z3 =>
 some z3
set_option maxHeartbeats 4000000 in
set_option maxRecDepth 100000 in
theorem b_Me_isFilled {X : KX} {B : KB} {L : KLay} {M : KMem} {u : Nat} {p0 : Int32} (G : Good X B RX2 cX2_isFilled 2 rm_Me_isFilled) (hu : okL L u meT) (h : kOk (m_Me_isFilled u p0 M) (fun r => RI X B L 2 cX2_isFilled .boolean rm_Me_isFilled r M)) : KK X B L 2 0 0 M 0 [(0, .ref (B.1 + u)), (1, .int p0)] [] := by
  unfold m_Me_isFilled at h
  refine k_iload_n G (dc d_Me_isFilled 0 rfl) 1 rfl rfl ?_
  refine kJ h (fun r2 => KK X B L 2 0 0 M 23 [] [.int r2]) (fun r2 h => ?_) (fun h => ?_)
  · obtain ⟨t1, rfl⟩ : ∃ z, z = r2 := ⟨_, rfl⟩
    show KK X B L 2 0 0 M 23 [] [.int t1]
    obtain ⟨z3, e4, h⟩ := kOk_b h
    obtain ⟨e4, nz3⟩ := kz_ok e4
    rw [e4]
    exact (kOk_s h) _ _ _ _ rfl rfl nz3 (dc d_Me_isFilled 13 rfl)
  · refine k_if_lt G (dc d_Me_isFilled 1 rfl) (tgt := 22) rfl (fun c5 => ?_) (fun c5 => ?_)
    · replace h := kOk_p c5 h
      refine k_iconst G (dc d_Me_isFilled 12 rfl) cI_0 ?_
      refine k_sub [] rfl ?_
      have h9 := kOk_s h
      exact h9
    · replace h := kOk_n c5 h
      refine k_iload_n G (dc d_Me_isFilled 2 rfl) 1 rfl rfl ?_
      refine k_iconst G (dc d_Me_isFilled 3 rfl) cI_2 ?_
      refine k_icmp_ge G (dc d_Me_isFilled 4 rfl) (tgt := 22) rfl (fun c6 => ?_) (fun c6 => ?_)
      · replace h := kOk_p c6 h
        refine k_iconst G (dc d_Me_isFilled 12 rfl) cI_0 ?_
        refine k_sub [] rfl ?_
        have h9 := kOk_s h
        exact h9
      · replace h := kOk_n c6 h
        refine k_aload_n G (dc d_Me_isFilled 5 rfl) 0 rfl rfl ?_
        refine k_getR G kc2 (dc d_Me_isFilled 6 rfl) (okL_lt hu (o := 0) 0 rfl) (okL_k hu (o := 0) 0 rfl) 4 (by decide) rfl fl_RX2_20 (u + 3) (okL_r hu (o := 0) (c := 3) 0 rfl 2 rfl) ?_
        refine k_iload_n G (dc d_Me_isFilled 7 rfl) 1 rfl rfl ?_
        obtain ⟨x8, e7, h⟩ := kOk_b h
        refine k_zld G (dc d_Me_isFilled 8 rfl) (okL_lt hu (o := 3) 3 rfl) (okL_k hu (o := 3) 3 rfl) (okL_n hu (o := 3) 3 rfl) e7 ?_
        refine k_if_eq G (dc d_Me_isFilled 9 rfl) (tgt := 22) rfl (fun c9 => ?_) (fun c9 => ?_)
        · replace h := kOk_p c9 h
          refine k_iconst G (dc d_Me_isFilled 12 rfl) cI_0 ?_
          refine k_sub [] rfl ?_
          have h9 := kOk_s h
          exact h9
        · replace h := kOk_n c9 h
          refine k_iconst G (dc d_Me_isFilled 10 rfl) cI_1 ?_
          refine k_goto G (dc d_Me_isFilled 11 rfl) (tgt := 23) rfl ?_
          refine k_sub [] rfl ?_
          have h9 := kOk_s h
          exact h9
theorem c_Me_isFilled {l : Launch} {B : KB} {L : KLay} {M : KMem} {u : Nat} {p0 : Int32} (hst : l.stackTraces = false) (hu : okL L u meT) {r : Int32} (e : m_Me_isFilled u p0 M = some r) : CtrN l B yX2_isFilled cX2_isFilled 2 (some .boolean) rm_Me_isFilled [.ref (B.1 + u), .int p0] L M (some (.int r)) L M :=
  mk_I rfl hst rfl (fun X hl G _ R => b_Me_isFilled G hu ⟨_, e, R⟩)
def I_Me_fillSlot : List (Nat × Instr × Nat) := [(0, .iload_n 1, 1), (1, .ifCond .lt 8, 3), (4, .iload_n 1, 1), (5, .iconst 2, 1), (6, .if_icmp .lt 4, 3), (9, .return_, 1), (10, .aload_n 0, 1), (11, .getfield 17, 3), (14, .iload_n 1, 1), (15, .aaload, 1), (16, .astore_n 3, 1), (17, .aload_n 3, 1), (18, .ifnull 15, 3), (21, .aload_n 3, 1), (22, .aload_n 2, 1), (23, .invokevirtual 32, 3), (26, .aload_n 0, 1), (27, .getfield 20, 3), (30, .iload_n 1, 1), (31, .iconst 1, 1), (32, .bastore, 1), (33, .return_, 1)]
set_option maxRecDepth 100000 in
theorem d_Me_fillSlot : decA cX2_fillSlot I_Me_fillSlot = true := by decide +kernel
abbrev rm_Me_fillSlot : Room := ({ frames := 3, cells := 0, slots := 0, locals := 102 } : Room)
def m_Me_fillSlot (u : Nat) (p0 : Int32) (p1 : Nat) (M : KMem) : Option KMem :=
 if p0 < 0 then
 (some M)
 else
 (if p0 < 2 then
 (Option.bind (ckI 2 p0) fun j4 =>
 Option.bind (m_St_copyFrom (u + (172 + 12 * j4)) p1 M) fun M7 =>
 Option.bind (wrZ M7 (u + 3) 2 p0 1) fun M9 =>
 some M9)
 else
 (some M))
set_option maxHeartbeats 4000000 in
set_option maxRecDepth 100000 in
theorem b_Me_fillSlot {X : KX} {B : KB} {L : KLay} {M : KMem} {u : Nat} {p0 : Int32} {p1 : Nat} (G : Good X B RX2 cX2_fillSlot 4 rm_Me_fillSlot) (hx : B.2.2.2 = false) (hu : okL L u meT) (hp1 : okL L p1 stT) (h : kOk (m_Me_fillSlot u p0 p1 M) (fun r => RV X B L 4 cX2_fillSlot rm_Me_fillSlot r)) : KK X B L 4 0 0 M 0 [(0, .ref (B.1 + u)), (1, .int p0), (2, .ref (B.1 + p1))] [] := by
  unfold m_Me_fillSlot at h
  refine k_iload_n G (dc d_Me_fillSlot 0 rfl) 1 rfl rfl ?_
  refine k_if_lt G (dc d_Me_fillSlot 1 rfl) (tgt := 9) rfl (fun c1 => ?_) (fun c1 => ?_)
  · replace h := kOk_p c1 h
    exact (kOk_s h) _ _ _ _ rfl rfl (dc d_Me_fillSlot 5 rfl)
  · replace h := kOk_n c1 h
    refine k_iload_n G (dc d_Me_fillSlot 2 rfl) 1 rfl rfl ?_
    refine k_iconst G (dc d_Me_fillSlot 3 rfl) cI_2 ?_
    refine k_icmp_lt G (dc d_Me_fillSlot 4 rfl) (tgt := 10) rfl (fun c2 => ?_) (fun c2 => ?_)
    · replace h := kOk_p c2 h
      refine k_aload_n G (dc d_Me_fillSlot 6 rfl) 0 rfl rfl ?_
      refine k_getR G kc2 (dc d_Me_fillSlot 7 rfl) (okL_lt hu (o := 0) 0 rfl) (okL_k hu (o := 0) 0 rfl) 3 (by decide) rfl fl_RX2_17 (u + 2) (okL_r hu (o := 0) (c := 2) 0 rfl 1 rfl) ?_
      refine k_iload_n G (dc d_Me_fillSlot 8 rfl) 1 rfl rfl ?_
      obtain ⟨j4, e3, h⟩ := kOk_b h
      have hq5 := me_ss hu (ckI_ok e3).2.2
      refine k_qld G (dc d_Me_fillSlot 9 rfl) (okL_lt hu (o := 2) 2 rfl) (okL_k hu (o := 2) 2 rfl) (okL_n hu (o := 2) 2 rfl) e3 (me_slot hu (ckI_ok e3).2.2) ?_
      refine k_astore_n G (dc d_Me_fillSlot 10 rfl) (ls' := [(3, .ref (B.1 + (u + (172 + 12 * j4)))), (0, .ref (B.1 + u)), (1, .int p0), (2, .ref (B.1 + p1))]) rfl rfl rfl ?_
      refine k_aload_n G (dc d_Me_fillSlot 11 rfl) 0 rfl rfl ?_
      refine k_ifnull G (dc d_Me_fillSlot 12 rfl) ?_
      refine k_aload_n G (dc d_Me_fillSlot 13 rfl) 0 rfl rfl ?_
      refine k_aload_n G (dc d_Me_fillSlot 14 rfl) 3 rfl rfl ?_
      obtain ⟨M7, e6, h⟩ := kOk_b h
      refine k_cVV G (dc d_Me_fillSlot 15 rfl) kc5 (okL_lt hq5 (o := 0) 0 rfl) (okL_k hq5 (o := 0) 0 rfl) mi_St_copyFrom mv_St_copyFrom rfl ml_RX2_32 (c_St_copyFrom (gst G) hx hq5 hp1 e6) rfl rfl ⟨rfl, rfl⟩ rfl ⟨rfl, rfl⟩ ⟨rfl, rfl⟩ ?_
      refine k_aload_n G (dc d_Me_fillSlot 16 rfl) 1 rfl rfl ?_
      refine k_getR G kc2 (dc d_Me_fillSlot 17 rfl) (okL_lt hu (o := 0) 0 rfl) (okL_k hu (o := 0) 0 rfl) 4 (by decide) rfl fl_RX2_20 (u + 3) (okL_r hu (o := 0) (c := 3) 0 rfl 2 rfl) ?_
      refine k_iload_n G (dc d_Me_fillSlot 18 rfl) 2 rfl rfl ?_
      refine k_iconst G (dc d_Me_fillSlot 19 rfl) cI_1 ?_
      obtain ⟨M9, e8, h⟩ := kOk_b h
      refine k_zst G (dc d_Me_fillSlot 20 rfl) (okL_lt hu (o := 3) 3 rfl) (okL_k hu (o := 3) 3 rfl) (okL_n hu (o := 3) 3 rfl) e8 ?_
      exact (kOk_s h) _ _ _ _ rfl rfl (dc d_Me_fillSlot 21 rfl)
    · replace h := kOk_n c2 h
      exact (kOk_s h) _ _ _ _ rfl rfl (dc d_Me_fillSlot 5 rfl)
theorem c_Me_fillSlot {l : Launch} {B : KB} {L : KLay} {M : KMem} {u : Nat} {p0 : Int32} {p1 : Nat} (hst : l.stackTraces = false) (hx : B.2.2.2 = false) (hu : okL L u meT) (hp1 : okL L p1 stT) {M' : KMem} (e : m_Me_fillSlot u p0 p1 M = some M') : CtrN l B yX2_fillSlot cX2_fillSlot 4 none rm_Me_fillSlot [.ref (B.1 + u), .int p0, .ref (B.1 + p1)] L M none L M' :=
  mk_V rfl hst rfl (fun X hl G _ R => b_Me_fillSlot G hx hu hp1 ⟨_, e, R⟩)
def I_Me_copySlot : List (Nat × Instr × Nat) := [(0, .aload_n 0, 1), (1, .iload_n 1, 1), (2, .invokevirtual 36, 3), (5, .ifCond .ne 4, 3), (8, .return_, 1), (9, .aload_n 0, 1), (10, .getfield 17, 3), (13, .iload_n 1, 1), (14, .aaload, 1), (15, .astore_n 3, 1), (16, .aload_n 3, 1), (17, .ifnull 8, 3), (20, .aload_n 2, 1), (21, .aload_n 3, 1), (22, .invokevirtual 32, 3), (25, .return_, 1)]
set_option maxRecDepth 100000 in
theorem d_Me_copySlot : decA cX2_copySlot I_Me_copySlot = true := by decide +kernel
abbrev rm_Me_copySlot : Room := ({ frames := 3, cells := 0, slots := 0, locals := 102 } : Room)
def m_Me_copySlot (u : Nat) (p0 : Int32) (p1 : Nat) (M : KMem) : Option KMem :=
 Option.bind (m_Me_isFilled u p0 M) fun x2 =>
 if x2 = 0 then
 (some M)
 else
 (Option.bind (ckI 2 p0) fun j5 =>
 Option.bind (m_St_copyFrom p1 (u + (172 + 12 * j5)) M) fun M8 =>
 some M8)
set_option maxHeartbeats 4000000 in
set_option maxRecDepth 100000 in
theorem b_Me_copySlot {X : KX} {B : KB} {L : KLay} {M : KMem} {u : Nat} {p0 : Int32} {p1 : Nat} (G : Good X B RX2 cX2_copySlot 4 rm_Me_copySlot) (hx : B.2.2.2 = false) (hu : okL L u meT) (hp1 : okL L p1 stT) (h : kOk (m_Me_copySlot u p0 p1 M) (fun r => RV X B L 4 cX2_copySlot rm_Me_copySlot r)) : KK X B L 4 0 0 M 0 [(0, .ref (B.1 + u)), (1, .int p0), (2, .ref (B.1 + p1))] [] := by
  unfold m_Me_copySlot at h
  refine k_aload_n G (dc d_Me_copySlot 0 rfl) 0 rfl rfl ?_
  refine k_iload_n G (dc d_Me_copySlot 1 rfl) 1 rfl rfl ?_
  obtain ⟨x2, e1, h⟩ := kOk_b h
  refine k_cVI G (dc d_Me_copySlot 2 rfl) kc2 (okL_lt hu (o := 0) 0 rfl) (okL_k hu (o := 0) 0 rfl) mi_Me_isFilled mv_Me_isFilled rfl ml_RX2_36 (c_Me_isFilled (gst G) hu e1) rfl rfl ⟨rfl, rfl⟩ rfl ⟨rfl, rfl⟩ ⟨rfl, rfl⟩ ?_
  refine k_if_ne G (dc d_Me_copySlot 3 rfl) (tgt := 9) rfl (fun c3 => ?_) (fun c3 => ?_)
  · replace h := kOk_n c3 h
    refine k_aload_n G (dc d_Me_copySlot 5 rfl) 0 rfl rfl ?_
    refine k_getR G kc2 (dc d_Me_copySlot 6 rfl) (okL_lt hu (o := 0) 0 rfl) (okL_k hu (o := 0) 0 rfl) 3 (by decide) rfl fl_RX2_17 (u + 2) (okL_r hu (o := 0) (c := 2) 0 rfl 1 rfl) ?_
    refine k_iload_n G (dc d_Me_copySlot 7 rfl) 1 rfl rfl ?_
    obtain ⟨j5, e4, h⟩ := kOk_b h
    have hq6 := me_ss hu (ckI_ok e4).2.2
    refine k_qld G (dc d_Me_copySlot 8 rfl) (okL_lt hu (o := 2) 2 rfl) (okL_k hu (o := 2) 2 rfl) (okL_n hu (o := 2) 2 rfl) e4 (me_slot hu (ckI_ok e4).2.2) ?_
    refine k_astore_n G (dc d_Me_copySlot 9 rfl) (ls' := [(3, .ref (B.1 + (u + (172 + 12 * j5)))), (0, .ref (B.1 + u)), (1, .int p0), (2, .ref (B.1 + p1))]) rfl rfl rfl ?_
    refine k_aload_n G (dc d_Me_copySlot 10 rfl) 0 rfl rfl ?_
    refine k_ifnull G (dc d_Me_copySlot 11 rfl) ?_
    refine k_aload_n G (dc d_Me_copySlot 12 rfl) 3 rfl rfl ?_
    refine k_aload_n G (dc d_Me_copySlot 13 rfl) 0 rfl rfl ?_
    obtain ⟨M8, e7, h⟩ := kOk_b h
    refine k_cVV G (dc d_Me_copySlot 14 rfl) kc5 (okL_lt hp1 (o := 0) 0 rfl) (okL_k hp1 (o := 0) 0 rfl) mi_St_copyFrom mv_St_copyFrom rfl ml_RX2_32 (c_St_copyFrom (gst G) hx hp1 hq6 e7) rfl rfl ⟨rfl, rfl⟩ rfl ⟨rfl, rfl⟩ ⟨rfl, rfl⟩ ?_
    exact (kOk_s h) _ _ _ _ rfl rfl (dc d_Me_copySlot 15 rfl)
  · replace h := kOk_p c3 h
    exact (kOk_s h) _ _ _ _ rfl rfl (dc d_Me_copySlot 4 rfl)
theorem c_Me_copySlot {l : Launch} {B : KB} {L : KLay} {M : KMem} {u : Nat} {p0 : Int32} {p1 : Nat} (hst : l.stackTraces = false) (hx : B.2.2.2 = false) (hu : okL L u meT) (hp1 : okL L p1 stT) {M' : KMem} (e : m_Me_copySlot u p0 p1 M = some M') : CtrN l B yX2_copySlot cX2_copySlot 4 none rm_Me_copySlot [.ref (B.1 + u), .int p0, .ref (B.1 + p1)] L M none L M' :=
  mk_V rfl hst rfl (fun X hl G _ R => b_Me_copySlot G hx hu hp1 ⟨_, e, R⟩)
def I_Me_emptySlots : List (Nat × Instr × Nat) := [(0, .aload_n 0, 1), (1, .getfield 20, 3), (4, .iconst 0, 1), (5, .invokestatic 40, 3), (8, .return_, 1)]
set_option maxRecDepth 100000 in
theorem d_Me_emptySlots : decA cX2_emptySlots I_Me_emptySlots = true := by decide +kernel
abbrev rm_Me_emptySlots : Room := ({ frames := 1, cells := 0, slots := 0, locals := 23 } : Room)
def m_Me_emptySlots (u : Nat) (M : KMem) : Option KMem :=
 Option.bind (m_Ar_fillZ (u + 3) 2 0 M) fun M2 =>
 some M2
set_option maxHeartbeats 4000000 in
set_option maxRecDepth 100000 in
theorem b_Me_emptySlots {X : KX} {B : KB} {L : KLay} {M : KMem} {u : Nat} (G : Good X B RX2 cX2_emptySlots 1 rm_Me_emptySlots) (hu : okL L u meT) (h : kOk (m_Me_emptySlots u M) (fun r => RV X B L 1 cX2_emptySlots rm_Me_emptySlots r)) : KK X B L 1 0 0 M 0 [(0, .ref (B.1 + u))] [] := by
  unfold m_Me_emptySlots at h
  refine k_aload_n G (dc d_Me_emptySlots 0 rfl) 0 rfl rfl ?_
  refine k_getR G kc2 (dc d_Me_emptySlots 1 rfl) (okL_lt hu (o := 0) 0 rfl) (okL_k hu (o := 0) 0 rfl) 4 (by decide) rfl fl_RX2_20 (u + 3) (okL_r hu (o := 0) (c := 3) 0 rfl 2 rfl) ?_
  refine k_iconst G (dc d_Me_emptySlots 2 rfl) cI_0 ?_
  obtain ⟨M2, e1, h⟩ := kOk_b h
  refine k_cSV G (dc d_Me_emptySlots 3 rfl) mi_Ar_fillZ ms_Ar_fillZ ml_RX2_40 (c_Ar_fillZ (gst G) (okL_a hu (o := 3) 3 rfl) e1) rfl rfl ⟨rfl, rfl⟩ rfl ⟨rfl, rfl⟩ ⟨rfl, rfl⟩ ?_
  exact (kOk_s h) _ _ _ _ rfl rfl (dc d_Me_emptySlots 4 rfl)
theorem c_Me_emptySlots {l : Launch} {B : KB} {L : KLay} {M : KMem} {u : Nat} (hst : l.stackTraces = false) (hu : okL L u meT) {M' : KMem} (e : m_Me_emptySlots u M = some M') : CtrN l B yX2_emptySlots cX2_emptySlots 1 none rm_Me_emptySlots [.ref (B.1 + u)] L M none L M' :=
  mk_V rfl hst rfl (fun X hl G _ R => b_Me_emptySlots G hu ⟨_, e, R⟩)
end
section
/-! laid by wip/whole/lay.py: Tw_hasSign, Tw_reasonAgainstPlan, Tw_reasonAgainstDecree, Tw_giveDecree, Tw_takeDecree, Tw_lettersWrong, Tw_costOf, Tw_repaint, Tw_sum, Tw_allFines, Tw_isWrong, Tw_fineWrongSigns, Tw_passMonths -/
def I_Tw_hasSign : List (Nat × Instr × Nat) := [(0, .iload_n 1, 1), (1, .ifCond .lt 24, 3), (4, .iload_n 1, 1), (5, .aload_n 0, 1), (6, .getfield 12, 3), (9, .getfield 36, 3), (12, .if_icmp .ge 13, 3), (15, .iload_n 1, 1), (16, .bipush 8, 2), (18, .if_icmp .ge 7, 3), (21, .iconst 1, 1), (22, .goto 4, 3), (25, .iconst 0, 1), (26, .ireturn, 1)]
set_option maxRecDepth 100000 in
theorem d_Tw_hasSign : decA cX8_hasSign I_Tw_hasSign = true := by decide +kernel
abbrev rm_Tw_hasSign : Room := ({ frames := 0, cells := 0, slots := 0, locals := 0 } : Room)
def m_Tw_hasSign (u : Nat) (p0 : Int32) (M : KMem) : Option Int32 :=
 Option.bind (α := Int32) (if p0 < 0 then
 (some 0)
 else
 (if (M (u + 1) 1) ≤ p0 then
 (some 0)
 else
 (if 8 ≤ p0 then
 (some 0)
 else
 (some 1)))) fun t1 =>
 Option.bind (kz t1) fun z3 =>
 some z3
set_option maxHeartbeats 4000000 in
set_option maxRecDepth 100000 in
theorem b_Tw_hasSign {X : KX} {B : KB} {L : KLay} {M : KMem} {u : Nat} {p0 : Int32} (G : Good X B RX8 cX8_hasSign 2 rm_Tw_hasSign) (hu : okL L u twT) (h : kOk (m_Tw_hasSign u p0 M) (fun r => RI X B L 2 cX8_hasSign .boolean rm_Tw_hasSign r M)) : KK X B L 2 0 0 M 0 [(0, .ref (B.1 + u)), (1, .int p0)] [] := by
  unfold m_Tw_hasSign at h
  refine k_iload_n G (dc d_Tw_hasSign 0 rfl) 1 rfl rfl ?_
  refine kJ h (fun r2 => KK X B L 2 0 0 M 26 [] [.int r2]) (fun r2 h => ?_) (fun h => ?_)
  · obtain ⟨t1, rfl⟩ : ∃ z, z = r2 := ⟨_, rfl⟩
    show KK X B L 2 0 0 M 26 [] [.int t1]
    obtain ⟨z3, e4, h⟩ := kOk_b h
    obtain ⟨e4, nz3⟩ := kz_ok e4
    rw [e4]
    exact (kOk_s h) _ _ _ _ rfl rfl nz3 (dc d_Tw_hasSign 13 rfl)
  · refine k_if_lt G (dc d_Tw_hasSign 1 rfl) (tgt := 25) rfl (fun c5 => ?_) (fun c5 => ?_)
    · replace h := kOk_p c5 h
      refine k_iconst G (dc d_Tw_hasSign 12 rfl) cI_0 ?_
      refine k_sub [] rfl ?_
      have h9 := kOk_s h
      exact h9
    · replace h := kOk_n c5 h
      refine k_iload_n G (dc d_Tw_hasSign 2 rfl) 1 rfl rfl ?_
      refine k_aload_n G (dc d_Tw_hasSign 3 rfl) 0 rfl rfl ?_
      refine k_getR G kc6 (dc d_Tw_hasSign 4 rfl) (okL_lt hu (o := 0) 0 rfl) (okL_k hu (o := 0) 0 rfl) 0 (by decide) rfl fl_RX8_12 (u + 1) (okL_r hu (o := 0) (c := 1) 0 rfl 0 rfl) ?_
      refine k_getI G kc5 (dc d_Tw_hasSign 5 rfl) (okL_lt hu (o := 1) 1 rfl) (okL_k hu (o := 1) 1 rfl) 1 (by decide) rfl fl_RX8_36 ?_
      refine k_icmp_ge G (dc d_Tw_hasSign 6 rfl) (tgt := 25) rfl (fun c6 => ?_) (fun c6 => ?_)
      · replace h := kOk_p c6 h
        refine k_iconst G (dc d_Tw_hasSign 12 rfl) cI_0 ?_
        refine k_sub [] rfl ?_
        have h9 := kOk_s h
        exact h9
      · replace h := kOk_n c6 h
        refine k_iload_n G (dc d_Tw_hasSign 7 rfl) 1 rfl rfl ?_
        refine k_bipush G (dc d_Tw_hasSign 8 rfl) cB_8 ?_
        refine k_icmp_ge G (dc d_Tw_hasSign 9 rfl) (tgt := 25) rfl (fun c7 => ?_) (fun c7 => ?_)
        · replace h := kOk_p c7 h
          refine k_iconst G (dc d_Tw_hasSign 12 rfl) cI_0 ?_
          refine k_sub [] rfl ?_
          have h9 := kOk_s h
          exact h9
        · replace h := kOk_n c7 h
          refine k_iconst G (dc d_Tw_hasSign 10 rfl) cI_1 ?_
          refine k_goto G (dc d_Tw_hasSign 11 rfl) (tgt := 26) rfl ?_
          refine k_sub [] rfl ?_
          have h9 := kOk_s h
          exact h9
theorem c_Tw_hasSign {l : Launch} {B : KB} {L : KLay} {M : KMem} {u : Nat} {p0 : Int32} (hst : l.stackTraces = false) (hu : okL L u twT) {r : Int32} (e : m_Tw_hasSign u p0 M = some r) : CtrN l B yX8_hasSign cX8_hasSign 2 (some .boolean) rm_Tw_hasSign [.ref (B.1 + u), .int p0] L M (some (.int r)) L M :=
  mk_I rfl hst rfl (fun X hl G _ R => b_Tw_hasSign G hu ⟨_, e, R⟩)
def I_Tw_reasonAgainstPlan : List (Nat × Instr × Nat) := [(0, .iconst 0, 1), (1, .istore_n 1, 1), (2, .iload_n 1, 1), (3, .bipush 8, 2), (5, .if_icmp .ge 28, 3), (8, .aload_n 0, 1), (9, .iload_n 1, 1), (10, .invokevirtual 57, 3), (13, .ifCond .eq 20, 3), (16, .aload_n 0, 1), (17, .getfield 32, 3), (20, .iload_n 1, 1), (21, .iaload, 1), (22, .ifCond .ne 5, 3), (25, .iconst 1, 1), (26, .ireturn, 1), (27, .iinc 1 1, 3), (30, .goto (-28), 3), (33, .iconst 0, 1), (34, .istore_n 1, 1), (35, .iload_n 1, 1), (36, .bipush 8, 2), (38, .if_icmp .ge 68, 3), (41, .aload_n 0, 1), (42, .iload_n 1, 1), (43, .invokevirtual 57, 3), (46, .ifCond .eq 60, 3), (49, .iconst 0, 1), (50, .istore_n 2, 1), (51, .iload_n 2, 1), (52, .iload_n 1, 1), (53, .if_icmp .ge 47, 3), (56, .aload_n 0, 1), (57, .getfield 12, 3), (60, .getfield 79, 3), (63, .iload_n 1, 1), (64, .iaload, 1), (65, .aload_n 0, 1), (66, .getfield 12, 3), (69, .getfield 79, 3), (72, .iload_n 2, 1), (73, .iaload, 1), (74, .if_icmp .ne 20, 3), (77, .aload_n 0, 1), (78, .getfield 32, 3), (81, .iload_n 1, 1), (82, .iaload, 1), (83, .aload_n 0, 1), (84, .getfield 32, 3), (87, .iload_n 2, 1), (88, .iaload, 1), (89, .if_icmp .ne 5, 3), (92, .iconst 2, 1), (93, .ireturn, 1), (94, .iinc 2 1, 3), (97, .goto (-46), 3), (100, .iinc 1 1, 3), (103, .goto (-68), 3), (106, .iconst 0, 1), (107, .ireturn, 1)]
set_option maxRecDepth 100000 in
theorem d_Tw_reasonAgainstPlan : decA cX8_reasonAgainstPlan I_Tw_reasonAgainstPlan = true := by decide +kernel
abbrev rm_Tw_reasonAgainstPlan : Room := ({ frames := 1, cells := 0, slots := 0, locals := 21 } : Room)
def m_Tw_reasonAgainstPlan_l2 (u : Nat) (M : KMem) : Int32 → Option (Int32 ⊕ (Int32 ⊕ Unit)) := fun v1_1 =>
 if 8 ≤ v1_1 then
 (some (.inr (.inr ())))
 else
 (Option.bind (m_Tw_hasSign u v1_1 M) fun x4 =>
 if x4 = 0 then
 (some (.inr (.inr ())))
 else
 (Option.bind (rdI M (u + 17) 8 v1_1) fun x7 =>
 if x7 = 0 then
 (some (.inr (.inl 1)))
 else
 (some (.inl (v1_1 + 1)))))
def m_Tw_reasonAgainstPlan_l51 (u : Nat) (M : KMem) (v1_9 : Int32) : Int32 → Option (Int32 ⊕ (Int32 ⊕ Unit)) := fun v2_14 =>
 if v1_9 ≤ v2_14 then
 (some (.inr (.inr ())))
 else
 (Option.bind (rdI M (u + 4) 8 v1_9) fun x17 =>
 Option.bind (rdI M (u + 4) 8 v2_14) fun x19 =>
 if x17 = x19 then
 (Option.bind (rdI M (u + 17) 8 v1_9) fun x22 =>
 Option.bind (rdI M (u + 17) 8 v2_14) fun x24 =>
 if x22 = x24 then
 (some (.inr (.inl 2)))
 else
 (some (.inl (v2_14 + 1))))
 else
 (some (.inl (v2_14 + 1))))
def m_Tw_reasonAgainstPlan_l35 (u : Nat) (M : KMem) : Int32 → Option (Int32 ⊕ (Int32 ⊕ Unit)) := fun v1_9 =>
 if 8 ≤ v1_9 then
 (some (.inr (.inr ())))
 else
 (Option.bind (m_Tw_hasSign u v1_9 M) fun x12 =>
 if x12 = 0 then
 (some (.inr (.inr ())))
 else
 (Option.bind (α := Int32 ⊕ Unit) (kLp (m_Tw_reasonAgainstPlan_l51 u M v1_9) kFU 0) fun r => match r with
 | .inl q => some (.inr (.inl q))
 | .inr _ =>
 (some (.inl (v1_9 + 1)))))
def m_Tw_reasonAgainstPlan (u : Nat) (M : KMem) : Option Int32 :=
 Option.bind (α := Int32 ⊕ Unit) (kLp (m_Tw_reasonAgainstPlan_l2 u M) kFU 0) fun r => match r with
 | .inl q => some q
 | .inr _ =>
 (Option.bind (α := Int32 ⊕ Unit) (kLp (m_Tw_reasonAgainstPlan_l35 u M) kFU 0) fun r => match r with
 | .inl q => some q
 | .inr _ =>
 (some 0))
set_option maxHeartbeats 4000000 in
set_option maxRecDepth 100000 in
theorem b_Tw_reasonAgainstPlan {X : KX} {B : KB} {L : KLay} {M : KMem} {u : Nat} (G : Good X B RX8 cX8_reasonAgainstPlan 3 rm_Tw_reasonAgainstPlan) (hu : okL L u twT) (h : kOk (m_Tw_reasonAgainstPlan u M) (fun r => RI X B L 3 cX8_reasonAgainstPlan .int rm_Tw_reasonAgainstPlan r M)) : KK X B L 3 0 0 M 0 [(0, .ref (B.1 + u))] [] := by
  unfold m_Tw_reasonAgainstPlan at h
  refine k_iconst G (dc d_Tw_reasonAgainstPlan 0 rfl) cI_0 ?_
  refine k_istore_n G (dc d_Tw_reasonAgainstPlan 1 rfl) (ls' := [(1, .int 0), (0, .ref (B.1 + u))]) rfl rfl rfl ?_
  refine kJ h (fun r30 => match r30 with | .inl q => RI X B L 3 cX8_reasonAgainstPlan .int rm_Tw_reasonAgainstPlan q M | .inr r30 => KK X B L 3 0 0 M 33 [(0, .ref (B.1 + u))] []) (fun r30 h => ?_) (fun h => ?_)
  · rcases r30 with q | r30
    · have h9 := kOk_s h
      exact h9
    · show KK X B L 3 0 0 M 33 [(0, .ref (B.1 + u))] []
      refine k_iconst G (dc d_Tw_reasonAgainstPlan 18 rfl) cI_0 ?_
      refine k_istore_n G (dc d_Tw_reasonAgainstPlan 19 rfl) (ls' := [(1, .int 0), (0, .ref (B.1 + u))]) rfl rfl rfl ?_
      refine kJ h (fun r28 => match r28 with | .inl q => RI X B L 3 cX8_reasonAgainstPlan .int rm_Tw_reasonAgainstPlan q M | .inr r28 => KK X B L 3 0 0 M 106 [] []) (fun r28 h => ?_) (fun h => ?_)
      · rcases r28 with q | r28
        · have h9 := kOk_s h
          exact h9
        · show KK X B L 3 0 0 M 106 [] []
          refine k_iconst G (dc d_Tw_reasonAgainstPlan 58 rfl) cI_0 ?_
          exact (kOk_s h) _ _ _ _ rfl rfl rfl (dc d_Tw_reasonAgainstPlan 59 rfl)
      · refine k_sub [1, 0] rfl ?_
        refine kLp_ok (P := fun s29 => KK X B L 3 0 0 M 35 [(0, .ref (B.1 + u)), (1, .int s29)] []) (fun s29 h => ?_) kFU _ h
        obtain ⟨v1_9, rfl⟩ : ∃ z, z = s29 := ⟨_, rfl⟩
        unfold m_Tw_reasonAgainstPlan_l35 at h
        show KK X B L 3 0 0 M 35 [(0, .ref (B.1 + u)), (1, .int v1_9)] []
        refine k_iload_n G (dc d_Tw_reasonAgainstPlan 20 rfl) 1 rfl rfl ?_
        refine k_bipush G (dc d_Tw_reasonAgainstPlan 21 rfl) cB_8 ?_
        refine k_icmp_ge G (dc d_Tw_reasonAgainstPlan 22 rfl) (tgt := 106) rfl (fun c10 => ?_) (fun c10 => ?_)
        · replace h := kOk_p c10 h
          refine k_sub [] rfl ?_
          have h9 := kOk_s h
          exact h9
        · replace h := kOk_n c10 h
          refine k_aload_n G (dc d_Tw_reasonAgainstPlan 23 rfl) 0 rfl rfl ?_
          refine k_iload_n G (dc d_Tw_reasonAgainstPlan 24 rfl) 1 rfl rfl ?_
          obtain ⟨x12, e11, h⟩ := kOk_b h
          refine k_cVI G (dc d_Tw_reasonAgainstPlan 25 rfl) kc6 (okL_lt hu (o := 0) 0 rfl) (okL_k hu (o := 0) 0 rfl) mi_Tw_hasSign mv_Tw_hasSign rfl ml_RX8_57 (c_Tw_hasSign (gst G) hu e11) rfl rfl ⟨rfl, rfl⟩ rfl ⟨rfl, rfl⟩ ⟨rfl, rfl⟩ ?_
          refine k_if_eq G (dc d_Tw_reasonAgainstPlan 26 rfl) (tgt := 106) rfl (fun c13 => ?_) (fun c13 => ?_)
          · replace h := kOk_p c13 h
            refine k_sub [] rfl ?_
            have h9 := kOk_s h
            exact h9
          · replace h := kOk_n c13 h
            refine k_iconst G (dc d_Tw_reasonAgainstPlan 27 rfl) cI_0 ?_
            refine k_istore_n G (dc d_Tw_reasonAgainstPlan 28 rfl) (ls' := [(2, .int 0), (0, .ref (B.1 + u)), (1, .int v1_9)]) rfl rfl rfl ?_
            refine kJ h (fun r26 => match r26 with | .inl q => RI X B L 3 cX8_reasonAgainstPlan .int rm_Tw_reasonAgainstPlan q M | .inr r26 => KK X B L 3 0 0 M 100 [(0, .ref (B.1 + u)), (1, .int v1_9)] []) (fun r26 h => ?_) (fun h => ?_)
            · rcases r26 with q | r26
              · have h9 := kOk_s h
                exact h9
              · show KK X B L 3 0 0 M 100 [(0, .ref (B.1 + u)), (1, .int v1_9)] []
                refine k_iinc G (dc d_Tw_reasonAgainstPlan 56 rfl) (ls' := [(1, .int (v1_9 + 1)), (0, .ref (B.1 + u))]) 1 rfl cI_1 rfl rfl ?_
                refine k_goto G (dc d_Tw_reasonAgainstPlan 57 rfl) (tgt := 35) rfl ?_
                refine k_sub [1, 0] rfl ?_
                have h9 := kOk_s h
                exact h9
            · refine k_sub [1, 2, 0] rfl ?_
              refine kLp_ok (P := fun s27 => KK X B L 3 0 0 M 51 [(0, .ref (B.1 + u)), (1, .int v1_9), (2, .int s27)] []) (fun s27 h => ?_) kFU _ h
              obtain ⟨v2_14, rfl⟩ : ∃ z, z = s27 := ⟨_, rfl⟩
              unfold m_Tw_reasonAgainstPlan_l51 at h
              show KK X B L 3 0 0 M 51 [(0, .ref (B.1 + u)), (1, .int v1_9), (2, .int v2_14)] []
              refine k_iload_n G (dc d_Tw_reasonAgainstPlan 29 rfl) 2 rfl rfl ?_
              refine k_iload_n G (dc d_Tw_reasonAgainstPlan 30 rfl) 1 rfl rfl ?_
              refine k_icmp_ge G (dc d_Tw_reasonAgainstPlan 31 rfl) (tgt := 100) rfl (fun c15 => ?_) (fun c15 => ?_)
              · replace h := kOk_p c15 h
                refine k_sub [0, 1] rfl ?_
                have h9 := kOk_s h
                exact h9
              · replace h := kOk_n c15 h
                refine k_aload_n G (dc d_Tw_reasonAgainstPlan 32 rfl) 0 rfl rfl ?_
                refine k_getR G kc6 (dc d_Tw_reasonAgainstPlan 33 rfl) (okL_lt hu (o := 0) 0 rfl) (okL_k hu (o := 0) 0 rfl) 0 (by decide) rfl fl_RX8_12 (u + 1) (okL_r hu (o := 0) (c := 1) 0 rfl 0 rfl) ?_
                refine k_getR G kc5 (dc d_Tw_reasonAgainstPlan 34 rfl) (okL_lt hu (o := 1) 1 rfl) (okL_k hu (o := 1) 1 rfl) 2 (by decide) rfl fl_RX8_79 (u + 4) (okL_r hu (o := 1) (c := 4) 1 rfl 1 rfl) ?_
                refine k_iload_n G (dc d_Tw_reasonAgainstPlan 35 rfl) 1 rfl rfl ?_
                obtain ⟨x17, e16, h⟩ := kOk_b h
                refine k_ild G (dc d_Tw_reasonAgainstPlan 36 rfl) (okL_lt hu (o := 4) 4 rfl) (okL_k hu (o := 4) 4 rfl) (okL_n hu (o := 4) 4 rfl) e16 ?_
                refine k_aload_n G (dc d_Tw_reasonAgainstPlan 37 rfl) 0 rfl rfl ?_
                refine k_getR G kc6 (dc d_Tw_reasonAgainstPlan 38 rfl) (okL_lt hu (o := 0) 0 rfl) (okL_k hu (o := 0) 0 rfl) 0 (by decide) rfl fl_RX8_12 (u + 1) (okL_r hu (o := 0) (c := 1) 0 rfl 0 rfl) ?_
                refine k_getR G kc5 (dc d_Tw_reasonAgainstPlan 39 rfl) (okL_lt hu (o := 1) 1 rfl) (okL_k hu (o := 1) 1 rfl) 2 (by decide) rfl fl_RX8_79 (u + 4) (okL_r hu (o := 1) (c := 4) 1 rfl 1 rfl) ?_
                refine k_iload_n G (dc d_Tw_reasonAgainstPlan 40 rfl) 2 rfl rfl ?_
                obtain ⟨x19, e18, h⟩ := kOk_b h
                refine k_ild G (dc d_Tw_reasonAgainstPlan 41 rfl) (okL_lt hu (o := 4) 4 rfl) (okL_k hu (o := 4) 4 rfl) (okL_n hu (o := 4) 4 rfl) e18 ?_
                refine k_icmp_ne G (dc d_Tw_reasonAgainstPlan 42 rfl) (tgt := 94) rfl (fun c20 => ?_) (fun c20 => ?_)
                · replace h := kOk_n c20 h
                  refine k_iinc G (dc d_Tw_reasonAgainstPlan 54 rfl) (ls' := [(2, .int (v2_14 + 1)), (0, .ref (B.1 + u)), (1, .int v1_9)]) 2 rfl cI_1 rfl rfl ?_
                  refine k_goto G (dc d_Tw_reasonAgainstPlan 55 rfl) (tgt := 51) rfl ?_
                  refine k_sub [1, 2, 0] rfl ?_
                  have h9 := kOk_s h
                  exact h9
                · replace h := kOk_p c20 h
                  refine k_aload_n G (dc d_Tw_reasonAgainstPlan 43 rfl) 0 rfl rfl ?_
                  refine k_getR G kc6 (dc d_Tw_reasonAgainstPlan 44 rfl) (okL_lt hu (o := 0) 0 rfl) (okL_k hu (o := 0) 0 rfl) 3 (by decide) rfl fl_RX8_32 (u + 17) (okL_r hu (o := 0) (c := 17) 0 rfl 3 rfl) ?_
                  refine k_iload_n G (dc d_Tw_reasonAgainstPlan 45 rfl) 1 rfl rfl ?_
                  obtain ⟨x22, e21, h⟩ := kOk_b h
                  refine k_ild G (dc d_Tw_reasonAgainstPlan 46 rfl) (okL_lt hu (o := 17) 17 rfl) (okL_k hu (o := 17) 17 rfl) (okL_n hu (o := 17) 17 rfl) e21 ?_
                  refine k_aload_n G (dc d_Tw_reasonAgainstPlan 47 rfl) 0 rfl rfl ?_
                  refine k_getR G kc6 (dc d_Tw_reasonAgainstPlan 48 rfl) (okL_lt hu (o := 0) 0 rfl) (okL_k hu (o := 0) 0 rfl) 3 (by decide) rfl fl_RX8_32 (u + 17) (okL_r hu (o := 0) (c := 17) 0 rfl 3 rfl) ?_
                  refine k_iload_n G (dc d_Tw_reasonAgainstPlan 49 rfl) 2 rfl rfl ?_
                  obtain ⟨x24, e23, h⟩ := kOk_b h
                  refine k_ild G (dc d_Tw_reasonAgainstPlan 50 rfl) (okL_lt hu (o := 17) 17 rfl) (okL_k hu (o := 17) 17 rfl) (okL_n hu (o := 17) 17 rfl) e23 ?_
                  refine k_icmp_ne G (dc d_Tw_reasonAgainstPlan 51 rfl) (tgt := 94) rfl (fun c25 => ?_) (fun c25 => ?_)
                  · replace h := kOk_n c25 h
                    refine k_iinc G (dc d_Tw_reasonAgainstPlan 54 rfl) (ls' := [(2, .int (v2_14 + 1)), (0, .ref (B.1 + u)), (1, .int v1_9)]) 2 rfl cI_1 rfl rfl ?_
                    refine k_goto G (dc d_Tw_reasonAgainstPlan 55 rfl) (tgt := 51) rfl ?_
                    refine k_sub [1, 2, 0] rfl ?_
                    have h9 := kOk_s h
                    exact h9
                  · replace h := kOk_p c25 h
                    refine k_iconst G (dc d_Tw_reasonAgainstPlan 52 rfl) cI_2 ?_
                    exact (kOk_s h) _ _ _ _ rfl rfl rfl (dc d_Tw_reasonAgainstPlan 53 rfl)
  · refine k_sub [1, 0] rfl ?_
    refine kLp_ok (P := fun s31 => KK X B L 3 0 0 M 2 [(0, .ref (B.1 + u)), (1, .int s31)] []) (fun s31 h => ?_) kFU _ h
    obtain ⟨v1_1, rfl⟩ : ∃ z, z = s31 := ⟨_, rfl⟩
    unfold m_Tw_reasonAgainstPlan_l2 at h
    show KK X B L 3 0 0 M 2 [(0, .ref (B.1 + u)), (1, .int v1_1)] []
    refine k_iload_n G (dc d_Tw_reasonAgainstPlan 2 rfl) 1 rfl rfl ?_
    refine k_bipush G (dc d_Tw_reasonAgainstPlan 3 rfl) cB_8 ?_
    refine k_icmp_ge G (dc d_Tw_reasonAgainstPlan 4 rfl) (tgt := 33) rfl (fun c2 => ?_) (fun c2 => ?_)
    · replace h := kOk_p c2 h
      refine k_sub [0] rfl ?_
      have h9 := kOk_s h
      exact h9
    · replace h := kOk_n c2 h
      refine k_aload_n G (dc d_Tw_reasonAgainstPlan 5 rfl) 0 rfl rfl ?_
      refine k_iload_n G (dc d_Tw_reasonAgainstPlan 6 rfl) 1 rfl rfl ?_
      obtain ⟨x4, e3, h⟩ := kOk_b h
      refine k_cVI G (dc d_Tw_reasonAgainstPlan 7 rfl) kc6 (okL_lt hu (o := 0) 0 rfl) (okL_k hu (o := 0) 0 rfl) mi_Tw_hasSign mv_Tw_hasSign rfl ml_RX8_57 (c_Tw_hasSign (gst G) hu e3) rfl rfl ⟨rfl, rfl⟩ rfl ⟨rfl, rfl⟩ ⟨rfl, rfl⟩ ?_
      refine k_if_eq G (dc d_Tw_reasonAgainstPlan 8 rfl) (tgt := 33) rfl (fun c5 => ?_) (fun c5 => ?_)
      · replace h := kOk_p c5 h
        refine k_sub [0] rfl ?_
        have h9 := kOk_s h
        exact h9
      · replace h := kOk_n c5 h
        refine k_aload_n G (dc d_Tw_reasonAgainstPlan 9 rfl) 0 rfl rfl ?_
        refine k_getR G kc6 (dc d_Tw_reasonAgainstPlan 10 rfl) (okL_lt hu (o := 0) 0 rfl) (okL_k hu (o := 0) 0 rfl) 3 (by decide) rfl fl_RX8_32 (u + 17) (okL_r hu (o := 0) (c := 17) 0 rfl 3 rfl) ?_
        refine k_iload_n G (dc d_Tw_reasonAgainstPlan 11 rfl) 1 rfl rfl ?_
        obtain ⟨x7, e6, h⟩ := kOk_b h
        refine k_ild G (dc d_Tw_reasonAgainstPlan 12 rfl) (okL_lt hu (o := 17) 17 rfl) (okL_k hu (o := 17) 17 rfl) (okL_n hu (o := 17) 17 rfl) e6 ?_
        refine k_if_ne G (dc d_Tw_reasonAgainstPlan 13 rfl) (tgt := 27) rfl (fun c8 => ?_) (fun c8 => ?_)
        · replace h := kOk_n c8 h
          refine k_iinc G (dc d_Tw_reasonAgainstPlan 16 rfl) (ls' := [(1, .int (v1_1 + 1)), (0, .ref (B.1 + u))]) 1 rfl cI_1 rfl rfl ?_
          refine k_goto G (dc d_Tw_reasonAgainstPlan 17 rfl) (tgt := 2) rfl ?_
          refine k_sub [1, 0] rfl ?_
          have h9 := kOk_s h
          exact h9
        · replace h := kOk_p c8 h
          refine k_iconst G (dc d_Tw_reasonAgainstPlan 14 rfl) cI_1 ?_
          exact (kOk_s h) _ _ _ _ rfl rfl rfl (dc d_Tw_reasonAgainstPlan 15 rfl)
theorem c_Tw_reasonAgainstPlan {l : Launch} {B : KB} {L : KLay} {M : KMem} {u : Nat} (hst : l.stackTraces = false) (hu : okL L u twT) {r : Int32} (e : m_Tw_reasonAgainstPlan u M = some r) : CtrN l B yX8_reasonAgainstPlan cX8_reasonAgainstPlan 3 (some .int) rm_Tw_reasonAgainstPlan [.ref (B.1 + u)] L M (some (.int r)) L M :=
  mk_I rfl hst rfl (fun X hl G _ R => b_Tw_reasonAgainstPlan G hu ⟨_, e, R⟩)
def I_Tw_reasonAgainstDecree : List (Nat × Instr × Nat) := [(0, .iconst 0, 1), (1, .istore 5, 2), (3, .iload 5, 2), (5, .bipush 8, 2), (7, .if_icmp .ge 43, 3), (10, .aload_n 0, 1), (11, .iload 5, 2), (13, .invokevirtual 57, 3), (16, .ifCond .eq 34, 3), (19, .aload_n 0, 1), (20, .getfield 32, 3), (23, .iload 5, 2), (25, .iload_n 1, 1), (26, .iload_n 2, 1), (27, .iload_n 3, 1), (28, .iload 4, 2), (30, .aload_n 0, 1), (31, .getfield 12, 3), (34, .getfield 43, 3), (37, .iload 5, 2), (39, .iaload, 1), (40, .invokestatic 123, 3), (43, .iastore, 1), (44, .iinc 5 1, 3), (47, .goto (-44), 3), (50, .aload_n 0, 1), (51, .invokevirtual 115, 3), (54, .ireturn, 1)]
set_option maxRecDepth 100000 in
theorem d_Tw_reasonAgainstDecree : decA cX8_reasonAgainstDecree I_Tw_reasonAgainstDecree = true := by decide +kernel
abbrev rm_Tw_reasonAgainstDecree : Room := ({ frames := 2, cells := 0, slots := 0, locals := 52 } : Room)
def m_Tw_reasonAgainstDecree_l3 (u : Nat) (p0 : Int32) (p1 : Int32) (p2 : Int32) (p3 : Int32) : (Int32 × KMem) → Option ((Int32 × KMem) ⊕ KMem) := fun (v5_1, M2) =>
 if 8 ≤ v5_1 then
 (some (.inr M2))
 else
 (Option.bind (m_Tw_hasSign u v5_1 M2) fun x5 =>
 if x5 = 0 then
 (some (.inr M2))
 else
 (Option.bind (rdI M2 (u + 7) 8 v5_1) fun x8 =>
 Option.bind (m_Wo_decreed p0 p1 p2 p3 x8) fun x10 =>
 Option.bind (wrI M2 (u + 17) 8 v5_1 x10) fun M12 =>
 some (.inl (v5_1 + 1, M12))))
def m_Tw_reasonAgainstDecree (u : Nat) (p0 : Int32) (p1 : Int32) (p2 : Int32) (p3 : Int32) (M : KMem) : Option (Int32 × KMem) :=
 Option.bind (α := KMem) (kLp (m_Tw_reasonAgainstDecree_l3 u p0 p1 p2 p3) kFU (0, M)) fun M13 =>
 Option.bind (m_Tw_reasonAgainstPlan u M13) fun x15 =>
 some (x15, M13)
set_option maxHeartbeats 4000000 in
set_option maxRecDepth 100000 in
theorem b_Tw_reasonAgainstDecree {X : KX} {B : KB} {L : KLay} {M : KMem} {u : Nat} {p0 : Int32} {p1 : Int32} {p2 : Int32} {p3 : Int32} (G : Good X B RX8 cX8_reasonAgainstDecree 6 rm_Tw_reasonAgainstDecree) (hu : okL L u twT) (h : kOk (m_Tw_reasonAgainstDecree u p0 p1 p2 p3 M) (fun r => RI X B L 6 cX8_reasonAgainstDecree .int rm_Tw_reasonAgainstDecree r.1 r.2)) : KK X B L 6 0 0 M 0 [(0, .ref (B.1 + u)), (1, .int p0), (2, .int p1), (3, .int p2), (4, .int p3)] [] := by
  unfold m_Tw_reasonAgainstDecree at h
  refine k_iconst G (dc d_Tw_reasonAgainstDecree 0 rfl) cI_0 ?_
  refine k_istore G (dc d_Tw_reasonAgainstDecree 1 rfl) (ls' := [(5, .int 0), (0, .ref (B.1 + u)), (1, .int p0), (2, .int p1), (3, .int p2), (4, .int p3)]) rfl rfl ?_
  refine kJ h (fun r16 => KK X B L 6 0 0 r16 50 [(0, .ref (B.1 + u))] []) (fun r16 h => ?_) (fun h => ?_)
  · obtain ⟨M13, rfl⟩ : ∃ z, z = r16 := ⟨_, rfl⟩
    show KK X B L 6 0 0 M13 50 [(0, .ref (B.1 + u))] []
    refine k_aload_n G (dc d_Tw_reasonAgainstDecree 25 rfl) 0 rfl rfl ?_
    obtain ⟨x15, e14, h⟩ := kOk_b h
    refine k_cVI G (dc d_Tw_reasonAgainstDecree 26 rfl) kc6 (okL_lt hu (o := 0) 0 rfl) (okL_k hu (o := 0) 0 rfl) mi_Tw_reasonAgainstPlan mv_Tw_reasonAgainstPlan rfl ml_RX8_115 (c_Tw_reasonAgainstPlan (gst G) hu e14) rfl rfl ⟨rfl, rfl⟩ rfl ⟨rfl, rfl⟩ ⟨rfl, rfl⟩ ?_
    exact (kOk_s h) _ _ _ _ rfl rfl rfl (dc d_Tw_reasonAgainstDecree 27 rfl)
  · refine k_sub [1, 2, 3, 4, 5, 0] rfl ?_
    refine kLp_ok (P := fun s17 => KK X B L 6 0 0 s17.2 3 [(0, .ref (B.1 + u)), (1, .int p0), (2, .int p1), (3, .int p2), (4, .int p3), (5, .int s17.1)] []) (fun s17 h => ?_) kFU _ h
    obtain ⟨v5_1, M2⟩ := s17
    unfold m_Tw_reasonAgainstDecree_l3 at h
    show KK X B L 6 0 0 M2 3 [(0, .ref (B.1 + u)), (1, .int p0), (2, .int p1), (3, .int p2), (4, .int p3), (5, .int v5_1)] []
    refine k_iload G (dc d_Tw_reasonAgainstDecree 2 rfl) 5 rfl ?_
    refine k_bipush G (dc d_Tw_reasonAgainstDecree 3 rfl) cB_8 ?_
    refine k_icmp_ge G (dc d_Tw_reasonAgainstDecree 4 rfl) (tgt := 50) rfl (fun c3 => ?_) (fun c3 => ?_)
    · replace h := kOk_p c3 h
      refine k_sub [0] rfl ?_
      have h9 := kOk_s h
      exact h9
    · replace h := kOk_n c3 h
      refine k_aload_n G (dc d_Tw_reasonAgainstDecree 5 rfl) 0 rfl rfl ?_
      refine k_iload G (dc d_Tw_reasonAgainstDecree 6 rfl) 5 rfl ?_
      obtain ⟨x5, e4, h⟩ := kOk_b h
      refine k_cVI G (dc d_Tw_reasonAgainstDecree 7 rfl) kc6 (okL_lt hu (o := 0) 0 rfl) (okL_k hu (o := 0) 0 rfl) mi_Tw_hasSign mv_Tw_hasSign rfl ml_RX8_57 (c_Tw_hasSign (gst G) hu e4) rfl rfl ⟨rfl, rfl⟩ rfl ⟨rfl, rfl⟩ ⟨rfl, rfl⟩ ?_
      refine k_if_eq G (dc d_Tw_reasonAgainstDecree 8 rfl) (tgt := 50) rfl (fun c6 => ?_) (fun c6 => ?_)
      · replace h := kOk_p c6 h
        refine k_sub [0] rfl ?_
        have h9 := kOk_s h
        exact h9
      · replace h := kOk_n c6 h
        refine k_aload_n G (dc d_Tw_reasonAgainstDecree 9 rfl) 0 rfl rfl ?_
        refine k_getR G kc6 (dc d_Tw_reasonAgainstDecree 10 rfl) (okL_lt hu (o := 0) 0 rfl) (okL_k hu (o := 0) 0 rfl) 3 (by decide) rfl fl_RX8_32 (u + 17) (okL_r hu (o := 0) (c := 17) 0 rfl 3 rfl) ?_
        refine k_iload G (dc d_Tw_reasonAgainstDecree 11 rfl) 5 rfl ?_
        refine k_iload_n G (dc d_Tw_reasonAgainstDecree 12 rfl) 1 rfl rfl ?_
        refine k_iload_n G (dc d_Tw_reasonAgainstDecree 13 rfl) 2 rfl rfl ?_
        refine k_iload_n G (dc d_Tw_reasonAgainstDecree 14 rfl) 3 rfl rfl ?_
        refine k_iload G (dc d_Tw_reasonAgainstDecree 15 rfl) 4 rfl ?_
        refine k_aload_n G (dc d_Tw_reasonAgainstDecree 16 rfl) 0 rfl rfl ?_
        refine k_getR G kc6 (dc d_Tw_reasonAgainstDecree 17 rfl) (okL_lt hu (o := 0) 0 rfl) (okL_k hu (o := 0) 0 rfl) 0 (by decide) rfl fl_RX8_12 (u + 1) (okL_r hu (o := 0) (c := 1) 0 rfl 0 rfl) ?_
        refine k_getR G kc5 (dc d_Tw_reasonAgainstDecree 18 rfl) (okL_lt hu (o := 1) 1 rfl) (okL_k hu (o := 1) 1 rfl) 5 (by decide) rfl fl_RX8_43 (u + 7) (okL_r hu (o := 1) (c := 7) 1 rfl 4 rfl) ?_
        refine k_iload G (dc d_Tw_reasonAgainstDecree 19 rfl) 5 rfl ?_
        obtain ⟨x8, e7, h⟩ := kOk_b h
        refine k_ild G (dc d_Tw_reasonAgainstDecree 20 rfl) (okL_lt hu (o := 7) 7 rfl) (okL_k hu (o := 7) 7 rfl) (okL_n hu (o := 7) 7 rfl) e7 ?_
        obtain ⟨x10, e9, h⟩ := kOk_b h
        refine k_cSI G (dc d_Tw_reasonAgainstDecree 21 rfl) mi_Wo_decreed ms_Wo_decreed ml_RX8_123 (c_Wo_decreed (gst G)  e9) rfl rfl ⟨rfl, rfl⟩ rfl ⟨rfl, rfl⟩ ⟨rfl, rfl⟩ ?_
        obtain ⟨M12, e11, h⟩ := kOk_b h
        refine k_ist G (dc d_Tw_reasonAgainstDecree 22 rfl) (okL_lt hu (o := 17) 17 rfl) (okL_k hu (o := 17) 17 rfl) (okL_n hu (o := 17) 17 rfl) e11 ?_
        refine k_iinc G (dc d_Tw_reasonAgainstDecree 23 rfl) (ls' := [(5, .int (v5_1 + 1)), (0, .ref (B.1 + u)), (1, .int p0), (2, .int p1), (3, .int p2), (4, .int p3)]) 5 rfl cI_1 rfl rfl ?_
        refine k_goto G (dc d_Tw_reasonAgainstDecree 24 rfl) (tgt := 3) rfl ?_
        refine k_sub [1, 2, 3, 4, 5, 0] rfl ?_
        have h9 := kOk_s h
        exact h9
theorem c_Tw_reasonAgainstDecree {l : Launch} {B : KB} {L : KLay} {M : KMem} {u : Nat} {p0 : Int32} {p1 : Int32} {p2 : Int32} {p3 : Int32} (hst : l.stackTraces = false) (hu : okL L u twT) {r : Int32} {M' : KMem} (e : m_Tw_reasonAgainstDecree u p0 p1 p2 p3 M = some (r, M')) : CtrN l B yX8_reasonAgainstDecree cX8_reasonAgainstDecree 6 (some .int) rm_Tw_reasonAgainstDecree [.ref (B.1 + u), .int p0, .int p1, .int p2, .int p3] L M (some (.int r)) L M' :=
  mk_I rfl hst rfl (fun X hl G _ R => b_Tw_reasonAgainstDecree G hu ⟨_, e, R⟩)
def I_Tw_giveDecree : List (Nat × Instr × Nat) := [(0, .aload_n 0, 1), (1, .getfield 12, 3), (4, .getfield 64, 3), (7, .invokevirtual 88, 3), (10, .ifCond .eq 5, 3), (13, .iconst 3, 1), (14, .ireturn, 1), (15, .aload_n 0, 1), (16, .iload_n 1, 1), (17, .iload_n 2, 1), (18, .iload_n 3, 1), (19, .iload 4, 2), (21, .invokevirtual 92, 3), (24, .istore 5, 2), (26, .iload 5, 2), (28, .ifCond .ne 43, 3), (31, .aload_n 0, 1), (32, .getfield 12, 3), (35, .getfield 64, 3), (38, .iload_n 1, 1), (39, .iload_n 2, 1), (40, .iload_n 3, 1), (41, .iload 4, 2), (43, .aload_n 0, 1), (44, .getfield 12, 3), (47, .getfield 96, 3), (50, .invokevirtual 99, 3), (53, .aload_n 0, 1), (54, .getfield 32, 3), (57, .iconst 0, 1), (58, .aload_n 0, 1), (59, .getfield 12, 3), (62, .getfield 43, 3), (65, .iconst 0, 1), (66, .bipush 8, 2), (68, .invokestatic 103, 3), (71, .iload 5, 2), (73, .ireturn, 1)]
set_option maxRecDepth 100000 in
theorem d_Tw_giveDecree : decA cX8_giveDecree I_Tw_giveDecree = true := by decide +kernel
abbrev rm_Tw_giveDecree : Room := ({ frames := 3, cells := 0, slots := 0, locals := 77 } : Room)
def m_Tw_giveDecree (u : Nat) (p0 : Int32) (p1 : Int32) (p2 : Int32) (p3 : Int32) (M : KMem) : Option (Int32 × KMem) :=
 Option.bind (m_De_areFull (u + 2) M) fun x2 =>
 if x2 = 0 then
 (Option.bind (m_Tw_reasonAgainstDecree u p0 p1 p2 p3 M) fun (x5, M6) =>
 Option.bind (α := KMem) (if x5 = 0 then
 (Option.bind (m_De_add (u + 2) p0 p1 p2 p3 (M6 (u + 1) 11) M6) fun M11 =>
 Option.bind (cpI M11 (u + 17) 8 (u + 7) 8 0 0 8) fun M13 =>
 some M13)
 else
 (some M6)) fun M7 =>
 some (x5, M7))
 else
 (some (3, M))
set_option maxHeartbeats 4000000 in
set_option maxRecDepth 100000 in
theorem b_Tw_giveDecree {X : KX} {B : KB} {L : KLay} {M : KMem} {u : Nat} {p0 : Int32} {p1 : Int32} {p2 : Int32} {p3 : Int32} (G : Good X B RX8 cX8_giveDecree 6 rm_Tw_giveDecree) (hx : B.2.2.2 = false) (hu : okL L u twT) (h : kOk (m_Tw_giveDecree u p0 p1 p2 p3 M) (fun r => RI X B L 6 cX8_giveDecree .int rm_Tw_giveDecree r.1 r.2)) : KK X B L 6 0 0 M 0 [(0, .ref (B.1 + u)), (1, .int p0), (2, .int p1), (3, .int p2), (4, .int p3)] [] := by
  unfold m_Tw_giveDecree at h
  refine k_aload_n G (dc d_Tw_giveDecree 0 rfl) 0 rfl rfl ?_
  refine k_getR G kc6 (dc d_Tw_giveDecree 1 rfl) (okL_lt hu (o := 0) 0 rfl) (okL_k hu (o := 0) 0 rfl) 0 (by decide) rfl fl_RX8_12 (u + 1) (okL_r hu (o := 0) (c := 1) 0 rfl 0 rfl) ?_
  refine k_getR G kc5 (dc d_Tw_giveDecree 2 rfl) (okL_lt hu (o := 1) 1 rfl) (okL_k hu (o := 1) 1 rfl) 0 (by decide) rfl fl_RX8_64 (u + 2) (okL_r hu (o := 1) (c := 2) 1 rfl 0 rfl) ?_
  obtain ⟨x2, e1, h⟩ := kOk_b h
  refine k_cVI G (dc d_Tw_giveDecree 3 rfl) kc0 (okL_lt hu (o := 2) 2 rfl) (okL_k hu (o := 2) 2 rfl) mi_De_areFull mv_De_areFull rfl ml_RX8_88 (c_De_areFull (gst G) (okL_sub hu 2 (by decide +kernel)) e1) rfl rfl ⟨rfl, rfl⟩ rfl ⟨rfl, rfl⟩ ⟨rfl, rfl⟩ ?_
  refine k_if_eq G (dc d_Tw_giveDecree 4 rfl) (tgt := 15) rfl (fun c3 => ?_) (fun c3 => ?_)
  · replace h := kOk_p c3 h
    refine k_aload_n G (dc d_Tw_giveDecree 7 rfl) 0 rfl rfl ?_
    refine k_iload_n G (dc d_Tw_giveDecree 8 rfl) 1 rfl rfl ?_
    refine k_iload_n G (dc d_Tw_giveDecree 9 rfl) 2 rfl rfl ?_
    refine k_iload_n G (dc d_Tw_giveDecree 10 rfl) 3 rfl rfl ?_
    refine k_iload G (dc d_Tw_giveDecree 11 rfl) 4 rfl ?_
    obtain ⟨⟨x5, M6⟩, e4, h⟩ := kOk_b h
    refine k_cVI G (dc d_Tw_giveDecree 12 rfl) kc6 (okL_lt hu (o := 0) 0 rfl) (okL_k hu (o := 0) 0 rfl) mi_Tw_reasonAgainstDecree mv_Tw_reasonAgainstDecree rfl ml_RX8_92 (c_Tw_reasonAgainstDecree (gst G) hu e4) rfl rfl ⟨rfl, rfl⟩ rfl ⟨rfl, rfl⟩ ⟨rfl, rfl⟩ ?_
    refine k_istore G (dc d_Tw_giveDecree 13 rfl) (ls' := [(5, .int x5), (0, .ref (B.1 + u)), (1, .int p0), (2, .int p1), (3, .int p2), (4, .int p3)]) rfl rfl ?_
    refine k_iload G (dc d_Tw_giveDecree 14 rfl) 0 rfl ?_
    refine kJ h (fun r8 => KK X B L 6 0 0 r8 71 [(5, .int x5)] []) (fun r8 h => ?_) (fun h => ?_)
    · obtain ⟨M7, rfl⟩ : ∃ z, z = r8 := ⟨_, rfl⟩
      show KK X B L 6 0 0 M7 71 [(5, .int x5)] []
      refine k_iload G (dc d_Tw_giveDecree 36 rfl) 0 rfl ?_
      exact (kOk_s h) _ _ _ _ rfl rfl rfl (dc d_Tw_giveDecree 37 rfl)
    · refine k_if_ne G (dc d_Tw_giveDecree 15 rfl) (tgt := 71) rfl (fun c9 => ?_) (fun c9 => ?_)
      · replace h := kOk_n c9 h
        refine k_sub [0] rfl ?_
        have h9 := kOk_s h
        exact h9
      · replace h := kOk_p c9 h
        refine k_aload_n G (dc d_Tw_giveDecree 16 rfl) 1 rfl rfl ?_
        refine k_getR G kc6 (dc d_Tw_giveDecree 17 rfl) (okL_lt hu (o := 0) 0 rfl) (okL_k hu (o := 0) 0 rfl) 0 (by decide) rfl fl_RX8_12 (u + 1) (okL_r hu (o := 0) (c := 1) 0 rfl 0 rfl) ?_
        refine k_getR G kc5 (dc d_Tw_giveDecree 18 rfl) (okL_lt hu (o := 1) 1 rfl) (okL_k hu (o := 1) 1 rfl) 0 (by decide) rfl fl_RX8_64 (u + 2) (okL_r hu (o := 1) (c := 2) 1 rfl 0 rfl) ?_
        refine k_iload_n G (dc d_Tw_giveDecree 19 rfl) 2 rfl rfl ?_
        refine k_iload_n G (dc d_Tw_giveDecree 20 rfl) 3 rfl rfl ?_
        refine k_iload_n G (dc d_Tw_giveDecree 21 rfl) 4 rfl rfl ?_
        refine k_iload G (dc d_Tw_giveDecree 22 rfl) 5 rfl ?_
        refine k_aload_n G (dc d_Tw_giveDecree 23 rfl) 1 rfl rfl ?_
        refine k_getR G kc6 (dc d_Tw_giveDecree 24 rfl) (okL_lt hu (o := 0) 0 rfl) (okL_k hu (o := 0) 0 rfl) 0 (by decide) rfl fl_RX8_12 (u + 1) (okL_r hu (o := 0) (c := 1) 0 rfl 0 rfl) ?_
        refine k_getI G kc5 (dc d_Tw_giveDecree 25 rfl) (okL_lt hu (o := 1) 1 rfl) (okL_k hu (o := 1) 1 rfl) 11 (by decide) rfl fl_RX8_96 ?_
        obtain ⟨M11, e10, h⟩ := kOk_b h
        refine k_cVV G (dc d_Tw_giveDecree 26 rfl) kc0 (okL_lt hu (o := 2) 2 rfl) (okL_k hu (o := 2) 2 rfl) mi_De_add mv_De_add rfl ml_RX8_99 (c_De_add (gst G) (okL_sub hu 2 (by decide +kernel)) e10) rfl rfl ⟨rfl, rfl⟩ rfl ⟨rfl, rfl⟩ ⟨rfl, rfl⟩ ?_
        refine k_aload_n G (dc d_Tw_giveDecree 27 rfl) 1 rfl rfl ?_
        refine k_getR G kc6 (dc d_Tw_giveDecree 28 rfl) (okL_lt hu (o := 0) 0 rfl) (okL_k hu (o := 0) 0 rfl) 3 (by decide) rfl fl_RX8_32 (u + 17) (okL_r hu (o := 0) (c := 17) 0 rfl 3 rfl) ?_
        refine k_iconst G (dc d_Tw_giveDecree 29 rfl) cI_0 ?_
        refine k_aload_n G (dc d_Tw_giveDecree 30 rfl) 1 rfl rfl ?_
        refine k_getR G kc6 (dc d_Tw_giveDecree 31 rfl) (okL_lt hu (o := 0) 0 rfl) (okL_k hu (o := 0) 0 rfl) 0 (by decide) rfl fl_RX8_12 (u + 1) (okL_r hu (o := 0) (c := 1) 0 rfl 0 rfl) ?_
        refine k_getR G kc5 (dc d_Tw_giveDecree 32 rfl) (okL_lt hu (o := 1) 1 rfl) (okL_k hu (o := 1) 1 rfl) 5 (by decide) rfl fl_RX8_43 (u + 7) (okL_r hu (o := 1) (c := 7) 1 rfl 4 rfl) ?_
        refine k_iconst G (dc d_Tw_giveDecree 33 rfl) cI_0 ?_
        refine k_bipush G (dc d_Tw_giveDecree 34 rfl) cB_8 ?_
        obtain ⟨M13, e12, h⟩ := kOk_b h
        refine k_copy G hx (dc d_Tw_giveDecree 35 rfl) ml_RX8_103 syscopy ⟨rfl, rfl⟩ (okL_lt hu (o := 17) 17 rfl) (okL_k hu (o := 17) 17 rfl) (okL_n hu (o := 17) 17 rfl) (okL_lt hu (o := 7) 7 rfl) (okL_k hu (o := 7) 7 rfl) (okL_n hu (o := 7) 7 rfl) e12 ?_
        refine k_sub [0] rfl ?_
        have h9 := kOk_s h
        exact h9
  · replace h := kOk_n c3 h
    refine k_iconst G (dc d_Tw_giveDecree 5 rfl) cI_3 ?_
    exact (kOk_s h) _ _ _ _ rfl rfl rfl (dc d_Tw_giveDecree 6 rfl)
theorem c_Tw_giveDecree {l : Launch} {B : KB} {L : KLay} {M : KMem} {u : Nat} {p0 : Int32} {p1 : Int32} {p2 : Int32} {p3 : Int32} (hst : l.stackTraces = false) (hx : B.2.2.2 = false) (hu : okL L u twT) {r : Int32} {M' : KMem} (e : m_Tw_giveDecree u p0 p1 p2 p3 M = some (r, M')) : CtrN l B yX8_giveDecree cX8_giveDecree 6 (some .int) rm_Tw_giveDecree [.ref (B.1 + u), .int p0, .int p1, .int p2, .int p3] L M (some (.int r)) L M' :=
  mk_I rfl hst rfl (fun X hl G _ R => b_Tw_giveDecree G hx hu ⟨_, e, R⟩)
def I_Tw_takeDecree : List (Nat × Instr × Nat) := [(0, .aload_n 0, 1), (1, .getfield 12, 3), (4, .getfield 64, 3), (7, .iload_n 1, 1), (8, .invokevirtual 109, 3), (11, .ifCond .ne 5, 3), (14, .iconst 3, 1), (15, .ireturn, 1), (16, .iconst 0, 1), (17, .istore_n 2, 1), (18, .iload_n 2, 1), (19, .bipush 8, 2), (21, .if_icmp .ge 43, 3), (24, .aload_n 0, 1), (25, .iload_n 2, 1), (26, .invokevirtual 57, 3), (29, .ifCond .eq 35, 3), (32, .aload_n 0, 1), (33, .getfield 32, 3), (36, .iload_n 2, 1), (37, .aload_n 0, 1), (38, .getfield 12, 3), (41, .getfield 64, 3), (44, .iload_n 1, 1), (45, .aload_n 0, 1), (46, .getfield 12, 3), (49, .getfield 61, 3), (52, .iload_n 2, 1), (53, .iaload, 1), (54, .invokevirtual 112, 3), (57, .iastore, 1), (58, .iinc 2 1, 3), (61, .goto (-43), 3), (64, .aload_n 0, 1), (65, .invokevirtual 115, 3), (68, .istore_n 2, 1), (69, .iload_n 2, 1), (70, .ifCond .ne 32, 3), (73, .aload_n 0, 1), (74, .getfield 12, 3), (77, .getfield 64, 3), (80, .iload_n 1, 1), (81, .invokevirtual 119, 3), (84, .aload_n 0, 1), (85, .getfield 32, 3), (88, .iconst 0, 1), (89, .aload_n 0, 1), (90, .getfield 12, 3), (93, .getfield 43, 3), (96, .iconst 0, 1), (97, .bipush 8, 2), (99, .invokestatic 103, 3), (102, .iload_n 2, 1), (103, .ireturn, 1)]
set_option maxRecDepth 100000 in
theorem d_Tw_takeDecree : decA cX8_takeDecree I_Tw_takeDecree = true := by decide +kernel
abbrev rm_Tw_takeDecree : Room := ({ frames := 3, cells := 0, slots := 0, locals := 82 } : Room)
def m_Tw_takeDecree_l18 (u : Nat) (p0 : Int32) : (Int32 × KMem) → Option ((Int32 × KMem) ⊕ KMem) := fun (v2_4, M5) =>
 if 8 ≤ v2_4 then
 (some (.inr M5))
 else
 (Option.bind (m_Tw_hasSign u v2_4 M5) fun x8 =>
 if x8 = 0 then
 (some (.inr M5))
 else
 (Option.bind (rdI M5 (u + 5) 8 v2_4) fun x11 =>
 Option.bind (m_De_spellingWithout (u + 2) p0 x11 M5) fun x13 =>
 Option.bind (wrI M5 (u + 17) 8 v2_4 x13) fun M15 =>
 some (.inl (v2_4 + 1, M15))))
def m_Tw_takeDecree (u : Nat) (p0 : Int32) (M : KMem) : Option (Int32 × KMem) :=
 Option.bind (m_De_has (u + 2) p0 M) fun x2 =>
 if x2 = 0 then
 (some (3, M))
 else
 (Option.bind (α := KMem) (kLp (m_Tw_takeDecree_l18 u p0) kFU (0, M)) fun M16 =>
 Option.bind (m_Tw_reasonAgainstPlan u M16) fun x18 =>
 Option.bind (α := KMem) (if x18 = 0 then
 (Option.bind (m_De_remove (u + 2) p0 M16) fun M23 =>
 Option.bind (cpI M23 (u + 17) 8 (u + 7) 8 0 0 8) fun M25 =>
 some M25)
 else
 (some M16)) fun M19 =>
 some (x18, M19))
set_option maxHeartbeats 4000000 in
set_option maxRecDepth 100000 in
theorem b_Tw_takeDecree {X : KX} {B : KB} {L : KLay} {M : KMem} {u : Nat} {p0 : Int32} (G : Good X B RX8 cX8_takeDecree 3 rm_Tw_takeDecree) (hx : B.2.2.2 = false) (hu : okL L u twT) (h : kOk (m_Tw_takeDecree u p0 M) (fun r => RI X B L 3 cX8_takeDecree .int rm_Tw_takeDecree r.1 r.2)) : KK X B L 3 0 0 M 0 [(0, .ref (B.1 + u)), (1, .int p0)] [] := by
  unfold m_Tw_takeDecree at h
  refine k_aload_n G (dc d_Tw_takeDecree 0 rfl) 0 rfl rfl ?_
  refine k_getR G kc6 (dc d_Tw_takeDecree 1 rfl) (okL_lt hu (o := 0) 0 rfl) (okL_k hu (o := 0) 0 rfl) 0 (by decide) rfl fl_RX8_12 (u + 1) (okL_r hu (o := 0) (c := 1) 0 rfl 0 rfl) ?_
  refine k_getR G kc5 (dc d_Tw_takeDecree 2 rfl) (okL_lt hu (o := 1) 1 rfl) (okL_k hu (o := 1) 1 rfl) 0 (by decide) rfl fl_RX8_64 (u + 2) (okL_r hu (o := 1) (c := 2) 1 rfl 0 rfl) ?_
  refine k_iload_n G (dc d_Tw_takeDecree 3 rfl) 1 rfl rfl ?_
  obtain ⟨x2, e1, h⟩ := kOk_b h
  refine k_cVI G (dc d_Tw_takeDecree 4 rfl) kc0 (okL_lt hu (o := 2) 2 rfl) (okL_k hu (o := 2) 2 rfl) mi_De_has mv_De_has rfl ml_RX8_109 (c_De_has (gst G) (okL_sub hu 2 (by decide +kernel)) e1) rfl rfl ⟨rfl, rfl⟩ rfl ⟨rfl, rfl⟩ ⟨rfl, rfl⟩ ?_
  refine k_if_ne G (dc d_Tw_takeDecree 5 rfl) (tgt := 16) rfl (fun c3 => ?_) (fun c3 => ?_)
  · replace h := kOk_n c3 h
    refine k_iconst G (dc d_Tw_takeDecree 8 rfl) cI_0 ?_
    refine k_istore_n G (dc d_Tw_takeDecree 9 rfl) (ls' := [(2, .int 0), (0, .ref (B.1 + u)), (1, .int p0)]) rfl rfl rfl ?_
    refine kJ h (fun r26 => KK X B L 3 0 0 r26 64 [(0, .ref (B.1 + u)), (1, .int p0)] []) (fun r26 h => ?_) (fun h => ?_)
    · obtain ⟨M16, rfl⟩ : ∃ z, z = r26 := ⟨_, rfl⟩
      show KK X B L 3 0 0 M16 64 [(0, .ref (B.1 + u)), (1, .int p0)] []
      refine k_aload_n G (dc d_Tw_takeDecree 33 rfl) 0 rfl rfl ?_
      obtain ⟨x18, e17, h⟩ := kOk_b h
      refine k_cVI G (dc d_Tw_takeDecree 34 rfl) kc6 (okL_lt hu (o := 0) 0 rfl) (okL_k hu (o := 0) 0 rfl) mi_Tw_reasonAgainstPlan mv_Tw_reasonAgainstPlan rfl ml_RX8_115 (c_Tw_reasonAgainstPlan (gst G) hu e17) rfl rfl ⟨rfl, rfl⟩ rfl ⟨rfl, rfl⟩ ⟨rfl, rfl⟩ ?_
      refine k_istore_n G (dc d_Tw_takeDecree 35 rfl) (ls' := [(2, .int x18), (0, .ref (B.1 + u)), (1, .int p0)]) rfl rfl rfl ?_
      refine k_iload_n G (dc d_Tw_takeDecree 36 rfl) 0 rfl rfl ?_
      refine kJ h (fun r20 => KK X B L 3 0 0 r20 102 [(2, .int x18)] []) (fun r20 h => ?_) (fun h => ?_)
      · obtain ⟨M19, rfl⟩ : ∃ z, z = r20 := ⟨_, rfl⟩
        show KK X B L 3 0 0 M19 102 [(2, .int x18)] []
        refine k_iload_n G (dc d_Tw_takeDecree 52 rfl) 0 rfl rfl ?_
        exact (kOk_s h) _ _ _ _ rfl rfl rfl (dc d_Tw_takeDecree 53 rfl)
      · refine k_if_ne G (dc d_Tw_takeDecree 37 rfl) (tgt := 102) rfl (fun c21 => ?_) (fun c21 => ?_)
        · replace h := kOk_n c21 h
          refine k_sub [0] rfl ?_
          have h9 := kOk_s h
          exact h9
        · replace h := kOk_p c21 h
          refine k_aload_n G (dc d_Tw_takeDecree 38 rfl) 1 rfl rfl ?_
          refine k_getR G kc6 (dc d_Tw_takeDecree 39 rfl) (okL_lt hu (o := 0) 0 rfl) (okL_k hu (o := 0) 0 rfl) 0 (by decide) rfl fl_RX8_12 (u + 1) (okL_r hu (o := 0) (c := 1) 0 rfl 0 rfl) ?_
          refine k_getR G kc5 (dc d_Tw_takeDecree 40 rfl) (okL_lt hu (o := 1) 1 rfl) (okL_k hu (o := 1) 1 rfl) 0 (by decide) rfl fl_RX8_64 (u + 2) (okL_r hu (o := 1) (c := 2) 1 rfl 0 rfl) ?_
          refine k_iload_n G (dc d_Tw_takeDecree 41 rfl) 2 rfl rfl ?_
          obtain ⟨M23, e22, h⟩ := kOk_b h
          refine k_cVV G (dc d_Tw_takeDecree 42 rfl) kc0 (okL_lt hu (o := 2) 2 rfl) (okL_k hu (o := 2) 2 rfl) mi_De_remove mv_De_remove rfl ml_RX8_119 (c_De_remove (gst G) hx (okL_sub hu 2 (by decide +kernel)) e22) rfl rfl ⟨rfl, rfl⟩ rfl ⟨rfl, rfl⟩ ⟨rfl, rfl⟩ ?_
          refine k_aload_n G (dc d_Tw_takeDecree 43 rfl) 1 rfl rfl ?_
          refine k_getR G kc6 (dc d_Tw_takeDecree 44 rfl) (okL_lt hu (o := 0) 0 rfl) (okL_k hu (o := 0) 0 rfl) 3 (by decide) rfl fl_RX8_32 (u + 17) (okL_r hu (o := 0) (c := 17) 0 rfl 3 rfl) ?_
          refine k_iconst G (dc d_Tw_takeDecree 45 rfl) cI_0 ?_
          refine k_aload_n G (dc d_Tw_takeDecree 46 rfl) 1 rfl rfl ?_
          refine k_getR G kc6 (dc d_Tw_takeDecree 47 rfl) (okL_lt hu (o := 0) 0 rfl) (okL_k hu (o := 0) 0 rfl) 0 (by decide) rfl fl_RX8_12 (u + 1) (okL_r hu (o := 0) (c := 1) 0 rfl 0 rfl) ?_
          refine k_getR G kc5 (dc d_Tw_takeDecree 48 rfl) (okL_lt hu (o := 1) 1 rfl) (okL_k hu (o := 1) 1 rfl) 5 (by decide) rfl fl_RX8_43 (u + 7) (okL_r hu (o := 1) (c := 7) 1 rfl 4 rfl) ?_
          refine k_iconst G (dc d_Tw_takeDecree 49 rfl) cI_0 ?_
          refine k_bipush G (dc d_Tw_takeDecree 50 rfl) cB_8 ?_
          obtain ⟨M25, e24, h⟩ := kOk_b h
          refine k_copy G hx (dc d_Tw_takeDecree 51 rfl) ml_RX8_103 syscopy ⟨rfl, rfl⟩ (okL_lt hu (o := 17) 17 rfl) (okL_k hu (o := 17) 17 rfl) (okL_n hu (o := 17) 17 rfl) (okL_lt hu (o := 7) 7 rfl) (okL_k hu (o := 7) 7 rfl) (okL_n hu (o := 7) 7 rfl) e24 ?_
          refine k_sub [0] rfl ?_
          have h9 := kOk_s h
          exact h9
    · refine k_sub [1, 2, 0] rfl ?_
      refine kLp_ok (P := fun s27 => KK X B L 3 0 0 s27.2 18 [(0, .ref (B.1 + u)), (1, .int p0), (2, .int s27.1)] []) (fun s27 h => ?_) kFU _ h
      obtain ⟨v2_4, M5⟩ := s27
      unfold m_Tw_takeDecree_l18 at h
      show KK X B L 3 0 0 M5 18 [(0, .ref (B.1 + u)), (1, .int p0), (2, .int v2_4)] []
      refine k_iload_n G (dc d_Tw_takeDecree 10 rfl) 2 rfl rfl ?_
      refine k_bipush G (dc d_Tw_takeDecree 11 rfl) cB_8 ?_
      refine k_icmp_ge G (dc d_Tw_takeDecree 12 rfl) (tgt := 64) rfl (fun c6 => ?_) (fun c6 => ?_)
      · replace h := kOk_p c6 h
        refine k_sub [0, 1] rfl ?_
        have h9 := kOk_s h
        exact h9
      · replace h := kOk_n c6 h
        refine k_aload_n G (dc d_Tw_takeDecree 13 rfl) 0 rfl rfl ?_
        refine k_iload_n G (dc d_Tw_takeDecree 14 rfl) 2 rfl rfl ?_
        obtain ⟨x8, e7, h⟩ := kOk_b h
        refine k_cVI G (dc d_Tw_takeDecree 15 rfl) kc6 (okL_lt hu (o := 0) 0 rfl) (okL_k hu (o := 0) 0 rfl) mi_Tw_hasSign mv_Tw_hasSign rfl ml_RX8_57 (c_Tw_hasSign (gst G) hu e7) rfl rfl ⟨rfl, rfl⟩ rfl ⟨rfl, rfl⟩ ⟨rfl, rfl⟩ ?_
        refine k_if_eq G (dc d_Tw_takeDecree 16 rfl) (tgt := 64) rfl (fun c9 => ?_) (fun c9 => ?_)
        · replace h := kOk_p c9 h
          refine k_sub [0, 1] rfl ?_
          have h9 := kOk_s h
          exact h9
        · replace h := kOk_n c9 h
          refine k_aload_n G (dc d_Tw_takeDecree 17 rfl) 0 rfl rfl ?_
          refine k_getR G kc6 (dc d_Tw_takeDecree 18 rfl) (okL_lt hu (o := 0) 0 rfl) (okL_k hu (o := 0) 0 rfl) 3 (by decide) rfl fl_RX8_32 (u + 17) (okL_r hu (o := 0) (c := 17) 0 rfl 3 rfl) ?_
          refine k_iload_n G (dc d_Tw_takeDecree 19 rfl) 2 rfl rfl ?_
          refine k_aload_n G (dc d_Tw_takeDecree 20 rfl) 0 rfl rfl ?_
          refine k_getR G kc6 (dc d_Tw_takeDecree 21 rfl) (okL_lt hu (o := 0) 0 rfl) (okL_k hu (o := 0) 0 rfl) 0 (by decide) rfl fl_RX8_12 (u + 1) (okL_r hu (o := 0) (c := 1) 0 rfl 0 rfl) ?_
          refine k_getR G kc5 (dc d_Tw_takeDecree 22 rfl) (okL_lt hu (o := 1) 1 rfl) (okL_k hu (o := 1) 1 rfl) 0 (by decide) rfl fl_RX8_64 (u + 2) (okL_r hu (o := 1) (c := 2) 1 rfl 0 rfl) ?_
          refine k_iload_n G (dc d_Tw_takeDecree 23 rfl) 1 rfl rfl ?_
          refine k_aload_n G (dc d_Tw_takeDecree 24 rfl) 0 rfl rfl ?_
          refine k_getR G kc6 (dc d_Tw_takeDecree 25 rfl) (okL_lt hu (o := 0) 0 rfl) (okL_k hu (o := 0) 0 rfl) 0 (by decide) rfl fl_RX8_12 (u + 1) (okL_r hu (o := 0) (c := 1) 0 rfl 0 rfl) ?_
          refine k_getR G kc5 (dc d_Tw_takeDecree 26 rfl) (okL_lt hu (o := 1) 1 rfl) (okL_k hu (o := 1) 1 rfl) 3 (by decide) rfl fl_RX8_61 (u + 5) (okL_r hu (o := 1) (c := 5) 1 rfl 2 rfl) ?_
          refine k_iload_n G (dc d_Tw_takeDecree 27 rfl) 2 rfl rfl ?_
          obtain ⟨x11, e10, h⟩ := kOk_b h
          refine k_ild G (dc d_Tw_takeDecree 28 rfl) (okL_lt hu (o := 5) 5 rfl) (okL_k hu (o := 5) 5 rfl) (okL_n hu (o := 5) 5 rfl) e10 ?_
          obtain ⟨x13, e12, h⟩ := kOk_b h
          refine k_cVI G (dc d_Tw_takeDecree 29 rfl) kc0 (okL_lt hu (o := 2) 2 rfl) (okL_k hu (o := 2) 2 rfl) mi_De_spellingWithout mv_De_spellingWithout rfl ml_RX8_112 (c_De_spellingWithout (gst G) (okL_sub hu 2 (by decide +kernel)) e12) rfl rfl ⟨rfl, rfl⟩ rfl ⟨rfl, rfl⟩ ⟨rfl, rfl⟩ ?_
          obtain ⟨M15, e14, h⟩ := kOk_b h
          refine k_ist G (dc d_Tw_takeDecree 30 rfl) (okL_lt hu (o := 17) 17 rfl) (okL_k hu (o := 17) 17 rfl) (okL_n hu (o := 17) 17 rfl) e14 ?_
          refine k_iinc G (dc d_Tw_takeDecree 31 rfl) (ls' := [(2, .int (v2_4 + 1)), (0, .ref (B.1 + u)), (1, .int p0)]) 2 rfl cI_1 rfl rfl ?_
          refine k_goto G (dc d_Tw_takeDecree 32 rfl) (tgt := 18) rfl ?_
          refine k_sub [1, 2, 0] rfl ?_
          have h9 := kOk_s h
          exact h9
  · replace h := kOk_p c3 h
    refine k_iconst G (dc d_Tw_takeDecree 6 rfl) cI_3 ?_
    exact (kOk_s h) _ _ _ _ rfl rfl rfl (dc d_Tw_takeDecree 7 rfl)
theorem c_Tw_takeDecree {l : Launch} {B : KB} {L : KLay} {M : KMem} {u : Nat} {p0 : Int32} (hst : l.stackTraces = false) (hx : B.2.2.2 = false) (hu : okL L u twT) {r : Int32} {M' : KMem} (e : m_Tw_takeDecree u p0 M = some (r, M')) : CtrN l B yX8_takeDecree cX8_takeDecree 3 (some .int) rm_Tw_takeDecree [.ref (B.1 + u), .int p0] L M (some (.int r)) L M' :=
  mk_I rfl hst rfl (fun X hl G _ R => b_Tw_takeDecree G hx hu ⟨_, e, R⟩)
def I_Tw_lettersWrong : List (Nat × Instr × Nat) := [(0, .aload_n 0, 1), (1, .getfield 21, 3), (4, .aload_n 0, 1), (5, .getfield 12, 3), (8, .getfield 40, 3), (11, .iload_n 1, 1), (12, .iaload, 1), (13, .aload_n 0, 1), (14, .getfield 12, 3), (17, .getfield 43, 3), (20, .iload_n 1, 1), (21, .iaload, 1), (22, .invokevirtual 46, 3), (25, .ireturn, 1)]
set_option maxRecDepth 100000 in
theorem d_Tw_lettersWrong : decA cX8_lettersWrong I_Tw_lettersWrong = true := by decide +kernel
abbrev rm_Tw_lettersWrong : Room := ({ frames := 3, cells := 0, slots := 0, locals := 71 } : Room)
def m_Tw_lettersWrong (u : Nat) (p0 : Int32) (M : KMem) : Option (Int32 × KMem) :=
 Option.bind (rdI M (u + 6) 8 p0) fun x2 =>
 Option.bind (rdI M (u + 7) 8 p0) fun x4 =>
 Option.bind (m_Ru_measured (u + 13) x2 x4 M) fun (x6, M7) =>
 some (x6, M7)
set_option maxHeartbeats 4000000 in
set_option maxRecDepth 100000 in
theorem b_Tw_lettersWrong {X : KX} {B : KB} {L : KLay} {M : KMem} {u : Nat} {p0 : Int32} (G : Good X B RX8 cX8_lettersWrong 2 rm_Tw_lettersWrong) (hu : okL L u twT) (h : kOk (m_Tw_lettersWrong u p0 M) (fun r => RI X B L 2 cX8_lettersWrong .int rm_Tw_lettersWrong r.1 r.2)) : KK X B L 2 0 0 M 0 [(0, .ref (B.1 + u)), (1, .int p0)] [] := by
  unfold m_Tw_lettersWrong at h
  refine k_aload_n G (dc d_Tw_lettersWrong 0 rfl) 0 rfl rfl ?_
  refine k_getR G kc6 (dc d_Tw_lettersWrong 1 rfl) (okL_lt hu (o := 0) 0 rfl) (okL_k hu (o := 0) 0 rfl) 1 (by decide) rfl fl_RX8_21 (u + 13) (okL_r hu (o := 0) (c := 13) 0 rfl 1 rfl) ?_
  refine k_aload_n G (dc d_Tw_lettersWrong 2 rfl) 0 rfl rfl ?_
  refine k_getR G kc6 (dc d_Tw_lettersWrong 3 rfl) (okL_lt hu (o := 0) 0 rfl) (okL_k hu (o := 0) 0 rfl) 0 (by decide) rfl fl_RX8_12 (u + 1) (okL_r hu (o := 0) (c := 1) 0 rfl 0 rfl) ?_
  refine k_getR G kc5 (dc d_Tw_lettersWrong 4 rfl) (okL_lt hu (o := 1) 1 rfl) (okL_k hu (o := 1) 1 rfl) 4 (by decide) rfl fl_RX8_40 (u + 6) (okL_r hu (o := 1) (c := 6) 1 rfl 3 rfl) ?_
  refine k_iload_n G (dc d_Tw_lettersWrong 5 rfl) 1 rfl rfl ?_
  obtain ⟨x2, e1, h⟩ := kOk_b h
  refine k_ild G (dc d_Tw_lettersWrong 6 rfl) (okL_lt hu (o := 6) 6 rfl) (okL_k hu (o := 6) 6 rfl) (okL_n hu (o := 6) 6 rfl) e1 ?_
  refine k_aload_n G (dc d_Tw_lettersWrong 7 rfl) 0 rfl rfl ?_
  refine k_getR G kc6 (dc d_Tw_lettersWrong 8 rfl) (okL_lt hu (o := 0) 0 rfl) (okL_k hu (o := 0) 0 rfl) 0 (by decide) rfl fl_RX8_12 (u + 1) (okL_r hu (o := 0) (c := 1) 0 rfl 0 rfl) ?_
  refine k_getR G kc5 (dc d_Tw_lettersWrong 9 rfl) (okL_lt hu (o := 1) 1 rfl) (okL_k hu (o := 1) 1 rfl) 5 (by decide) rfl fl_RX8_43 (u + 7) (okL_r hu (o := 1) (c := 7) 1 rfl 4 rfl) ?_
  refine k_iload_n G (dc d_Tw_lettersWrong 10 rfl) 1 rfl rfl ?_
  obtain ⟨x4, e3, h⟩ := kOk_b h
  refine k_ild G (dc d_Tw_lettersWrong 11 rfl) (okL_lt hu (o := 7) 7 rfl) (okL_k hu (o := 7) 7 rfl) (okL_n hu (o := 7) 7 rfl) e3 ?_
  obtain ⟨⟨x6, M7⟩, e5, h⟩ := kOk_b h
  refine k_cVI G (dc d_Tw_lettersWrong 12 rfl) kc4 (okL_lt hu (o := 13) 13 rfl) (okL_k hu (o := 13) 13 rfl) mi_Ru_measured mv_Ru_measured rfl ml_RX8_46 (c_Ru_measured (gst G) (okL_sub hu 13 (by decide +kernel)) e5) rfl rfl ⟨rfl, rfl⟩ rfl ⟨rfl, rfl⟩ ⟨rfl, rfl⟩ ?_
  exact (kOk_s h) _ _ _ _ rfl rfl rfl (dc d_Tw_lettersWrong 13 rfl)
theorem c_Tw_lettersWrong {l : Launch} {B : KB} {L : KLay} {M : KMem} {u : Nat} {p0 : Int32} (hst : l.stackTraces = false) (hu : okL L u twT) {r : Int32} {M' : KMem} (e : m_Tw_lettersWrong u p0 M = some (r, M')) : CtrN l B yX8_lettersWrong cX8_lettersWrong 2 (some .int) rm_Tw_lettersWrong [.ref (B.1 + u), .int p0] L M (some (.int r)) L M' :=
  mk_I rfl hst rfl (fun X hl G _ R => b_Tw_lettersWrong G hu ⟨_, e, R⟩)
def I_Tw_costOf : List (Nat × Instr × Nat) := [(0, .aload_n 0, 1), (1, .iload_n 1, 1), (2, .invokevirtual 50, 3), (5, .aload_n 0, 1), (6, .getfield 12, 3), (9, .getfield 54, 3), (12, .iconst 0, 1), (13, .iaload, 1), (14, .imul, 1), (15, .ireturn, 1)]
set_option maxRecDepth 100000 in
theorem d_Tw_costOf : decA cX8_costOf I_Tw_costOf = true := by decide +kernel
abbrev rm_Tw_costOf : Room := ({ frames := 4, cells := 0, slots := 0, locals := 92 } : Room)
def m_Tw_costOf (u : Nat) (p0 : Int32) (M : KMem) : Option (Int32 × KMem) :=
 Option.bind (m_Tw_lettersWrong u p0 M) fun (x2, M3) =>
 Option.bind (rdI M3 (u + 12) 2 0) fun x5 =>
 some (x2 * x5, M3)
set_option maxHeartbeats 4000000 in
set_option maxRecDepth 100000 in
theorem b_Tw_costOf {X : KX} {B : KB} {L : KLay} {M : KMem} {u : Nat} {p0 : Int32} (G : Good X B RX8 cX8_costOf 2 rm_Tw_costOf) (hu : okL L u twT) (h : kOk (m_Tw_costOf u p0 M) (fun r => RI X B L 2 cX8_costOf .int rm_Tw_costOf r.1 r.2)) : KK X B L 2 0 0 M 0 [(0, .ref (B.1 + u)), (1, .int p0)] [] := by
  unfold m_Tw_costOf at h
  refine k_aload_n G (dc d_Tw_costOf 0 rfl) 0 rfl rfl ?_
  refine k_iload_n G (dc d_Tw_costOf 1 rfl) 1 rfl rfl ?_
  obtain ⟨⟨x2, M3⟩, e1, h⟩ := kOk_b h
  refine k_cVI G (dc d_Tw_costOf 2 rfl) kc6 (okL_lt hu (o := 0) 0 rfl) (okL_k hu (o := 0) 0 rfl) mi_Tw_lettersWrong mv_Tw_lettersWrong rfl ml_RX8_50 (c_Tw_lettersWrong (gst G) hu e1) rfl rfl ⟨rfl, rfl⟩ rfl ⟨rfl, rfl⟩ ⟨rfl, rfl⟩ ?_
  refine k_aload_n G (dc d_Tw_costOf 3 rfl) 0 rfl rfl ?_
  refine k_getR G kc6 (dc d_Tw_costOf 4 rfl) (okL_lt hu (o := 0) 0 rfl) (okL_k hu (o := 0) 0 rfl) 0 (by decide) rfl fl_RX8_12 (u + 1) (okL_r hu (o := 0) (c := 1) 0 rfl 0 rfl) ?_
  refine k_getR G kc5 (dc d_Tw_costOf 5 rfl) (okL_lt hu (o := 1) 1 rfl) (okL_k hu (o := 1) 1 rfl) 10 (by decide) rfl fl_RX8_54 (u + 12) (okL_r hu (o := 1) (c := 12) 1 rfl 9 rfl) ?_
  refine k_iconst G (dc d_Tw_costOf 6 rfl) cI_0 ?_
  obtain ⟨x5, e4, h⟩ := kOk_b h
  refine k_ild G (dc d_Tw_costOf 7 rfl) (okL_lt hu (o := 12) 12 rfl) (okL_k hu (o := 12) 12 rfl) (okL_n hu (o := 12) 12 rfl) e4 ?_
  refine k_imul G (dc d_Tw_costOf 8 rfl) ?_
  exact (kOk_s h) _ _ _ _ rfl rfl rfl (dc d_Tw_costOf 9 rfl)
theorem c_Tw_costOf {l : Launch} {B : KB} {L : KLay} {M : KMem} {u : Nat} {p0 : Int32} (hst : l.stackTraces = false) (hu : okL L u twT) {r : Int32} {M' : KMem} (e : m_Tw_costOf u p0 M = some (r, M')) : CtrN l B yX8_costOf cX8_costOf 2 (some .int) rm_Tw_costOf [.ref (B.1 + u), .int p0] L M (some (.int r)) L M' :=
  mk_I rfl hst rfl (fun X hl G _ R => b_Tw_costOf G hu ⟨_, e, R⟩)
def I_Tw_repaint : List (Nat × Instr × Nat) := [(0, .aload_n 0, 1), (1, .iload_n 1, 1), (2, .invokevirtual 57, 3), (5, .ifCond .ne 5, 3), (8, .iconst (-1), 1), (9, .ireturn, 1), (10, .aload_n 0, 1), (11, .iload_n 1, 1), (12, .invokevirtual 132, 3), (15, .istore_n 2, 1), (16, .aload_n 0, 1), (17, .getfield 12, 3), (20, .getfield 135, 3), (23, .aload_n 0, 1), (24, .getfield 12, 3), (27, .getfield 79, 3), (30, .iload_n 1, 1), (31, .iaload, 1), (32, .dup2, 1), (33, .iaload, 1), (34, .iload_n 2, 1), (35, .iadd, 1), (36, .iastore, 1), (37, .aload_n 0, 1), (38, .getfield 12, 3), (41, .getfield 40, 3), (44, .iload_n 1, 1), (45, .aload_n 0, 1), (46, .getfield 12, 3), (49, .getfield 43, 3), (52, .iload_n 1, 1), (53, .iaload, 1), (54, .iastore, 1), (55, .aload_n 0, 1), (56, .getfield 12, 3), (59, .getfield 82, 3), (62, .iload_n 1, 1), (63, .dup2, 1), (64, .iaload, 1), (65, .iconst 1, 1), (66, .iadd, 1), (67, .iastore, 1), (68, .iload_n 2, 1), (69, .ireturn, 1)]
set_option maxRecDepth 100000 in
theorem d_Tw_repaint : decA cX8_repaint I_Tw_repaint = true := by decide +kernel
abbrev rm_Tw_repaint : Room := ({ frames := 5, cells := 0, slots := 0, locals := 113 } : Room)
def m_Tw_repaint (u : Nat) (p0 : Int32) (M : KMem) : Option (Int32 × KMem) :=
 Option.bind (m_Tw_hasSign u p0 M) fun x2 =>
 if x2 = 0 then
 (some ((-1), M))
 else
 (Option.bind (m_Tw_costOf u p0 M) fun (x5, M6) =>
 Option.bind (rdI M6 (u + 4) 8 p0) fun x8 =>
 Option.bind (rdI M6 (u + 11) 4 x8) fun x10 =>
 Option.bind (wrI M6 (u + 11) 4 x8 (x10 + x5)) fun M12 =>
 Option.bind (rdI M12 (u + 7) 8 p0) fun x14 =>
 Option.bind (wrI M12 (u + 6) 8 p0 x14) fun M16 =>
 Option.bind (rdI M16 (u + 8) 8 p0) fun x18 =>
 Option.bind (wrI M16 (u + 8) 8 p0 (x18 + 1)) fun M20 =>
 some (x5, M20))
set_option maxHeartbeats 4000000 in
set_option maxRecDepth 100000 in
theorem b_Tw_repaint {X : KX} {B : KB} {L : KLay} {M : KMem} {u : Nat} {p0 : Int32} (G : Good X B RX8 cX8_repaint 3 rm_Tw_repaint) (hu : okL L u twT) (h : kOk (m_Tw_repaint u p0 M) (fun r => RI X B L 3 cX8_repaint .int rm_Tw_repaint r.1 r.2)) : KK X B L 3 0 0 M 0 [(0, .ref (B.1 + u)), (1, .int p0)] [] := by
  unfold m_Tw_repaint at h
  refine k_aload_n G (dc d_Tw_repaint 0 rfl) 0 rfl rfl ?_
  refine k_iload_n G (dc d_Tw_repaint 1 rfl) 1 rfl rfl ?_
  obtain ⟨x2, e1, h⟩ := kOk_b h
  refine k_cVI G (dc d_Tw_repaint 2 rfl) kc6 (okL_lt hu (o := 0) 0 rfl) (okL_k hu (o := 0) 0 rfl) mi_Tw_hasSign mv_Tw_hasSign rfl ml_RX8_57 (c_Tw_hasSign (gst G) hu e1) rfl rfl ⟨rfl, rfl⟩ rfl ⟨rfl, rfl⟩ ⟨rfl, rfl⟩ ?_
  refine k_if_ne G (dc d_Tw_repaint 3 rfl) (tgt := 10) rfl (fun c3 => ?_) (fun c3 => ?_)
  · replace h := kOk_n c3 h
    refine k_aload_n G (dc d_Tw_repaint 6 rfl) 0 rfl rfl ?_
    refine k_iload_n G (dc d_Tw_repaint 7 rfl) 1 rfl rfl ?_
    obtain ⟨⟨x5, M6⟩, e4, h⟩ := kOk_b h
    refine k_cVI G (dc d_Tw_repaint 8 rfl) kc6 (okL_lt hu (o := 0) 0 rfl) (okL_k hu (o := 0) 0 rfl) mi_Tw_costOf mv_Tw_costOf rfl ml_RX8_132 (c_Tw_costOf (gst G) hu e4) rfl rfl ⟨rfl, rfl⟩ rfl ⟨rfl, rfl⟩ ⟨rfl, rfl⟩ ?_
    refine k_istore_n G (dc d_Tw_repaint 9 rfl) (ls' := [(2, .int x5), (0, .ref (B.1 + u)), (1, .int p0)]) rfl rfl rfl ?_
    refine k_aload_n G (dc d_Tw_repaint 10 rfl) 1 rfl rfl ?_
    refine k_getR G kc6 (dc d_Tw_repaint 11 rfl) (okL_lt hu (o := 0) 0 rfl) (okL_k hu (o := 0) 0 rfl) 0 (by decide) rfl fl_RX8_12 (u + 1) (okL_r hu (o := 0) (c := 1) 0 rfl 0 rfl) ?_
    refine k_getR G kc5 (dc d_Tw_repaint 12 rfl) (okL_lt hu (o := 1) 1 rfl) (okL_k hu (o := 1) 1 rfl) 9 (by decide) rfl fl_RX8_135 (u + 11) (okL_r hu (o := 1) (c := 11) 1 rfl 8 rfl) ?_
    refine k_aload_n G (dc d_Tw_repaint 13 rfl) 1 rfl rfl ?_
    refine k_getR G kc6 (dc d_Tw_repaint 14 rfl) (okL_lt hu (o := 0) 0 rfl) (okL_k hu (o := 0) 0 rfl) 0 (by decide) rfl fl_RX8_12 (u + 1) (okL_r hu (o := 0) (c := 1) 0 rfl 0 rfl) ?_
    refine k_getR G kc5 (dc d_Tw_repaint 15 rfl) (okL_lt hu (o := 1) 1 rfl) (okL_k hu (o := 1) 1 rfl) 2 (by decide) rfl fl_RX8_79 (u + 4) (okL_r hu (o := 1) (c := 4) 1 rfl 1 rfl) ?_
    refine k_iload_n G (dc d_Tw_repaint 16 rfl) 2 rfl rfl ?_
    obtain ⟨x8, e7, h⟩ := kOk_b h
    refine k_ild G (dc d_Tw_repaint 17 rfl) (okL_lt hu (o := 4) 4 rfl) (okL_k hu (o := 4) 4 rfl) (okL_n hu (o := 4) 4 rfl) e7 ?_
    refine k_dup2 G (dc d_Tw_repaint 18 rfl) rfl rfl ?_
    obtain ⟨x10, e9, h⟩ := kOk_b h
    refine k_ild G (dc d_Tw_repaint 19 rfl) (okL_lt hu (o := 11) 11 rfl) (okL_k hu (o := 11) 11 rfl) (okL_n hu (o := 11) 11 rfl) e9 ?_
    refine k_iload_n G (dc d_Tw_repaint 20 rfl) 0 rfl rfl ?_
    refine k_iadd G (dc d_Tw_repaint 21 rfl) ?_
    obtain ⟨M12, e11, h⟩ := kOk_b h
    refine k_ist G (dc d_Tw_repaint 22 rfl) (okL_lt hu (o := 11) 11 rfl) (okL_k hu (o := 11) 11 rfl) (okL_n hu (o := 11) 11 rfl) e11 ?_
    refine k_aload_n G (dc d_Tw_repaint 23 rfl) 1 rfl rfl ?_
    refine k_getR G kc6 (dc d_Tw_repaint 24 rfl) (okL_lt hu (o := 0) 0 rfl) (okL_k hu (o := 0) 0 rfl) 0 (by decide) rfl fl_RX8_12 (u + 1) (okL_r hu (o := 0) (c := 1) 0 rfl 0 rfl) ?_
    refine k_getR G kc5 (dc d_Tw_repaint 25 rfl) (okL_lt hu (o := 1) 1 rfl) (okL_k hu (o := 1) 1 rfl) 4 (by decide) rfl fl_RX8_40 (u + 6) (okL_r hu (o := 1) (c := 6) 1 rfl 3 rfl) ?_
    refine k_iload_n G (dc d_Tw_repaint 26 rfl) 2 rfl rfl ?_
    refine k_aload_n G (dc d_Tw_repaint 27 rfl) 1 rfl rfl ?_
    refine k_getR G kc6 (dc d_Tw_repaint 28 rfl) (okL_lt hu (o := 0) 0 rfl) (okL_k hu (o := 0) 0 rfl) 0 (by decide) rfl fl_RX8_12 (u + 1) (okL_r hu (o := 0) (c := 1) 0 rfl 0 rfl) ?_
    refine k_getR G kc5 (dc d_Tw_repaint 29 rfl) (okL_lt hu (o := 1) 1 rfl) (okL_k hu (o := 1) 1 rfl) 5 (by decide) rfl fl_RX8_43 (u + 7) (okL_r hu (o := 1) (c := 7) 1 rfl 4 rfl) ?_
    refine k_iload_n G (dc d_Tw_repaint 30 rfl) 2 rfl rfl ?_
    obtain ⟨x14, e13, h⟩ := kOk_b h
    refine k_ild G (dc d_Tw_repaint 31 rfl) (okL_lt hu (o := 7) 7 rfl) (okL_k hu (o := 7) 7 rfl) (okL_n hu (o := 7) 7 rfl) e13 ?_
    obtain ⟨M16, e15, h⟩ := kOk_b h
    refine k_ist G (dc d_Tw_repaint 32 rfl) (okL_lt hu (o := 6) 6 rfl) (okL_k hu (o := 6) 6 rfl) (okL_n hu (o := 6) 6 rfl) e15 ?_
    refine k_aload_n G (dc d_Tw_repaint 33 rfl) 1 rfl rfl ?_
    refine k_getR G kc6 (dc d_Tw_repaint 34 rfl) (okL_lt hu (o := 0) 0 rfl) (okL_k hu (o := 0) 0 rfl) 0 (by decide) rfl fl_RX8_12 (u + 1) (okL_r hu (o := 0) (c := 1) 0 rfl 0 rfl) ?_
    refine k_getR G kc5 (dc d_Tw_repaint 35 rfl) (okL_lt hu (o := 1) 1 rfl) (okL_k hu (o := 1) 1 rfl) 6 (by decide) rfl fl_RX8_82 (u + 8) (okL_r hu (o := 1) (c := 8) 1 rfl 5 rfl) ?_
    refine k_iload_n G (dc d_Tw_repaint 36 rfl) 2 rfl rfl ?_
    refine k_dup2 G (dc d_Tw_repaint 37 rfl) rfl rfl ?_
    obtain ⟨x18, e17, h⟩ := kOk_b h
    refine k_ild G (dc d_Tw_repaint 38 rfl) (okL_lt hu (o := 8) 8 rfl) (okL_k hu (o := 8) 8 rfl) (okL_n hu (o := 8) 8 rfl) e17 ?_
    refine k_iconst G (dc d_Tw_repaint 39 rfl) cI_1 ?_
    refine k_iadd G (dc d_Tw_repaint 40 rfl) ?_
    obtain ⟨M20, e19, h⟩ := kOk_b h
    refine k_ist G (dc d_Tw_repaint 41 rfl) (okL_lt hu (o := 8) 8 rfl) (okL_k hu (o := 8) 8 rfl) (okL_n hu (o := 8) 8 rfl) e19 ?_
    refine k_iload_n G (dc d_Tw_repaint 42 rfl) 0 rfl rfl ?_
    exact (kOk_s h) _ _ _ _ rfl rfl rfl (dc d_Tw_repaint 43 rfl)
  · replace h := kOk_p c3 h
    refine k_iconst G (dc d_Tw_repaint 4 rfl) cI_m1 ?_
    exact (kOk_s h) _ _ _ _ rfl rfl rfl (dc d_Tw_repaint 5 rfl)
theorem c_Tw_repaint {l : Launch} {B : KB} {L : KLay} {M : KMem} {u : Nat} {p0 : Int32} (hst : l.stackTraces = false) (hu : okL L u twT) {r : Int32} {M' : KMem} (e : m_Tw_repaint u p0 M = some (r, M')) : CtrN l B yX8_repaint cX8_repaint 3 (some .int) rm_Tw_repaint [.ref (B.1 + u), .int p0] L M (some (.int r)) L M' :=
  mk_I rfl hst rfl (fun X hl G _ R => b_Tw_repaint G hu ⟨_, e, R⟩)
def I_Tw_sum : List (Nat × Instr × Nat) := [(0, .iconst 0, 1), (1, .istore_n 1, 1), (2, .aload_n 0, 1), (3, .astore_n 2, 1), (4, .aload_n 2, 1), (5, .arraylength, 1), (6, .istore_n 3, 1), (7, .iconst 0, 1), (8, .istore 4, 2), (10, .iload 4, 2), (12, .iload_n 3, 1), (13, .if_icmp .ge 20, 3), (16, .aload_n 2, 1), (17, .iload 4, 2), (19, .iaload, 1), (20, .istore 5, 2), (22, .iload_n 1, 1), (23, .iload 5, 2), (25, .iadd, 1), (26, .istore_n 1, 1), (27, .iinc 4 1, 3), (30, .goto (-20), 3), (33, .iload_n 1, 1), (34, .ireturn, 1)]
set_option maxRecDepth 100000 in
theorem d_Tw_sum : decA cX8_sum I_Tw_sum = true := by decide +kernel
abbrev rm_Tw_sum : Room := ({ frames := 0, cells := 0, slots := 0, locals := 0 } : Room)
def m_Tw_sum_l10 (p0 : Nat) (p0n : Nat) (M : KMem) : (Int32 × Int32) → Option ((Int32 × Int32) ⊕ Int32) := fun (v1_1, v4_2) =>
 if (Int32.ofNat p0n) ≤ v4_2 then
 (some (.inr v1_1))
 else
 (Option.bind (rdI M p0 p0n v4_2) fun x5 =>
 some (.inl (v1_1 + x5, v4_2 + 1)))
def m_Tw_sum (p0 : Nat) (p0n : Nat) (M : KMem) : Option Int32 :=
 Option.bind (α := Int32) (kLp (m_Tw_sum_l10 p0 p0n M) kFU (0, 0)) fun v1_6 =>
 some v1_6
set_option maxHeartbeats 4000000 in
set_option maxRecDepth 100000 in
theorem b_Tw_sum {X : KX} {B : KB} {L : KLay} {M : KMem} {p0 : Nat} {p0n : Nat} (G : Good X B RX8 cX8_sum 6 rm_Tw_sum) (hp0 : arL L p0 9 p0n) (h : kOk (m_Tw_sum p0 p0n M) (fun r => RI X B L 6 cX8_sum .int rm_Tw_sum r M)) : KK X B L 6 0 0 M 0 [(0, .ref (B.1 + p0))] [] := by
  unfold m_Tw_sum at h
  refine k_iconst G (dc d_Tw_sum 0 rfl) cI_0 ?_
  refine k_istore_n G (dc d_Tw_sum 1 rfl) (ls' := [(1, .int 0), (0, .ref (B.1 + p0))]) rfl rfl rfl ?_
  refine k_aload_n G (dc d_Tw_sum 2 rfl) 1 rfl rfl ?_
  refine k_astore_n G (dc d_Tw_sum 3 rfl) (ls' := [(2, .ref (B.1 + p0)), (1, .int 0), (0, .ref (B.1 + p0))]) rfl rfl rfl ?_
  refine k_aload_n G (dc d_Tw_sum 4 rfl) 0 rfl rfl ?_
  refine k_len G (dc d_Tw_sum 5 rfl) hp0.1 hp0.2.1 (v := Int32.ofNat p0n) (by rw [hp0.2.2]) ?_
  refine k_istore_n G (dc d_Tw_sum 6 rfl) (ls' := [(3, .int (Int32.ofNat p0n)), (2, .ref (B.1 + p0)), (1, .int 0), (0, .ref (B.1 + p0))]) rfl rfl rfl ?_
  refine k_iconst G (dc d_Tw_sum 7 rfl) cI_0 ?_
  refine k_istore G (dc d_Tw_sum 8 rfl) (ls' := [(4, .int 0), (3, .int (Int32.ofNat p0n)), (2, .ref (B.1 + p0)), (1, .int 0), (0, .ref (B.1 + p0))]) rfl rfl ?_
  refine kJ h (fun r7 => KK X B L 6 0 0 M 33 [(1, .int r7)] []) (fun r7 h => ?_) (fun h => ?_)
  · obtain ⟨v1_6, rfl⟩ : ∃ z, z = r7 := ⟨_, rfl⟩
    show KK X B L 6 0 0 M 33 [(1, .int v1_6)] []
    refine k_iload_n G (dc d_Tw_sum 22 rfl) 0 rfl rfl ?_
    exact (kOk_s h) _ _ _ _ rfl rfl rfl (dc d_Tw_sum 23 rfl)
  · refine k_sub [3, 2, 1, 0] rfl ?_
    refine kLp_ok (P := fun s8 => KK X B L 6 0 0 M 10 [(1, .int s8.1), (2, .ref (B.1 + p0)), (3, .int (Int32.ofNat p0n)), (4, .int s8.2)] []) (fun s8 h => ?_) kFU _ h
    obtain ⟨v1_1, v4_2⟩ := s8
    unfold m_Tw_sum_l10 at h
    show KK X B L 6 0 0 M 10 [(1, .int v1_1), (2, .ref (B.1 + p0)), (3, .int (Int32.ofNat p0n)), (4, .int v4_2)] []
    refine k_iload G (dc d_Tw_sum 9 rfl) 3 rfl ?_
    refine k_iload_n G (dc d_Tw_sum 10 rfl) 2 rfl rfl ?_
    refine k_icmp_ge G (dc d_Tw_sum 11 rfl) (tgt := 33) rfl (fun c3 => ?_) (fun c3 => ?_)
    · replace h := kOk_p c3 h
      refine k_sub [0] rfl ?_
      have h9 := kOk_s h
      exact h9
    · replace h := kOk_n c3 h
      refine k_aload_n G (dc d_Tw_sum 12 rfl) 1 rfl rfl ?_
      refine k_iload G (dc d_Tw_sum 13 rfl) 3 rfl ?_
      obtain ⟨x5, e4, h⟩ := kOk_b h
      refine k_ild G (dc d_Tw_sum 14 rfl) hp0.1 hp0.2.1 hp0.2.2 e4 ?_
      refine k_istore G (dc d_Tw_sum 15 rfl) (ls' := [(5, .int x5), (1, .int v1_1), (2, .ref (B.1 + p0)), (3, .int (Int32.ofNat p0n)), (4, .int v4_2)]) rfl rfl ?_
      refine k_iload_n G (dc d_Tw_sum 16 rfl) 1 rfl rfl ?_
      refine k_iload G (dc d_Tw_sum 17 rfl) 0 rfl ?_
      refine k_iadd G (dc d_Tw_sum 18 rfl) ?_
      refine k_istore_n G (dc d_Tw_sum 19 rfl) (ls' := [(1, .int (v1_1 + x5)), (5, .int x5), (2, .ref (B.1 + p0)), (3, .int (Int32.ofNat p0n)), (4, .int v4_2)]) rfl rfl rfl ?_
      refine k_iinc G (dc d_Tw_sum 20 rfl) (ls' := [(4, .int (v4_2 + 1)), (1, .int (v1_1 + x5)), (5, .int x5), (2, .ref (B.1 + p0)), (3, .int (Int32.ofNat p0n))]) 4 rfl cI_1 rfl rfl ?_
      refine k_goto G (dc d_Tw_sum 21 rfl) (tgt := 10) rfl ?_
      refine k_sub [1, 3, 4, 0] rfl ?_
      have h9 := kOk_s h
      exact h9
theorem c_Tw_sum {l : Launch} {B : KB} {L : KLay} {M : KMem} {p0 : Nat} {p0n : Nat} (hst : l.stackTraces = false) (hp0 : arL L p0 9 p0n) {r : Int32} (e : m_Tw_sum p0 p0n M = some r) : CtrN l B yX8_sum cX8_sum 6 (some .int) rm_Tw_sum [.ref (B.1 + p0)] L M (some (.int r)) L M :=
  mk_I rfl hst rfl (fun X hl G _ R => b_Tw_sum G hp0 ⟨_, e, R⟩)
def I_Tw_allFines : List (Nat × Instr × Nat) := [(0, .aload_n 0, 1), (1, .getfield 12, 3), (4, .getfield 150, 3), (7, .invokestatic 162, 3), (10, .ireturn, 1)]
set_option maxRecDepth 100000 in
theorem d_Tw_allFines : decA cX8_allFines I_Tw_allFines = true := by decide +kernel
abbrev rm_Tw_allFines : Room := ({ frames := 1, cells := 0, slots := 0, locals := 25 } : Room)
def m_Tw_allFines (u : Nat) (M : KMem) : Option Int32 :=
 Option.bind (m_Tw_sum (u + 10) 4 M) fun x2 =>
 some x2
set_option maxHeartbeats 4000000 in
set_option maxRecDepth 100000 in
theorem b_Tw_allFines {X : KX} {B : KB} {L : KLay} {M : KMem} {u : Nat} (G : Good X B RX8 cX8_allFines 1 rm_Tw_allFines) (hu : okL L u twT) (h : kOk (m_Tw_allFines u M) (fun r => RI X B L 1 cX8_allFines .int rm_Tw_allFines r M)) : KK X B L 1 0 0 M 0 [(0, .ref (B.1 + u))] [] := by
  unfold m_Tw_allFines at h
  refine k_aload_n G (dc d_Tw_allFines 0 rfl) 0 rfl rfl ?_
  refine k_getR G kc6 (dc d_Tw_allFines 1 rfl) (okL_lt hu (o := 0) 0 rfl) (okL_k hu (o := 0) 0 rfl) 0 (by decide) rfl fl_RX8_12 (u + 1) (okL_r hu (o := 0) (c := 1) 0 rfl 0 rfl) ?_
  refine k_getR G kc5 (dc d_Tw_allFines 2 rfl) (okL_lt hu (o := 1) 1 rfl) (okL_k hu (o := 1) 1 rfl) 8 (by decide) rfl fl_RX8_150 (u + 10) (okL_r hu (o := 1) (c := 10) 1 rfl 7 rfl) ?_
  obtain ⟨x2, e1, h⟩ := kOk_b h
  refine k_cSI G (dc d_Tw_allFines 3 rfl) mi_Tw_sum ms_Tw_sum ml_RX8_162 (c_Tw_sum (gst G) (okL_a hu (o := 10) 10 rfl) e1) rfl rfl ⟨rfl, rfl⟩ rfl ⟨rfl, rfl⟩ ⟨rfl, rfl⟩ ?_
  exact (kOk_s h) _ _ _ _ rfl rfl rfl (dc d_Tw_allFines 4 rfl)
theorem c_Tw_allFines {l : Launch} {B : KB} {L : KLay} {M : KMem} {u : Nat} (hst : l.stackTraces = false) (hu : okL L u twT) {r : Int32} (e : m_Tw_allFines u M = some r) : CtrN l B yX8_allFines cX8_allFines 1 (some .int) rm_Tw_allFines [.ref (B.1 + u)] L M (some (.int r)) L M :=
  mk_I rfl hst rfl (fun X hl G _ R => b_Tw_allFines G hu ⟨_, e, R⟩)
def I_Tw_isWrong : List (Nat × Instr × Nat) := [(0, .aload_n 0, 1), (1, .getfield 12, 3), (4, .getfield 40, 3), (7, .iload_n 1, 1), (8, .iaload, 1), (9, .aload_n 0, 1), (10, .getfield 12, 3), (13, .getfield 43, 3), (16, .iload_n 1, 1), (17, .iaload, 1), (18, .if_icmp .eq 7, 3), (21, .iconst 1, 1), (22, .goto 4, 3), (25, .iconst 0, 1), (26, .ireturn, 1)]
set_option maxRecDepth 100000 in
theorem d_Tw_isWrong : decA cX8_isWrong I_Tw_isWrong = true := by decide +kernel
abbrev rm_Tw_isWrong : Room := ({ frames := 0, cells := 0, slots := 0, locals := 0 } : Room)
def m_Tw_isWrong (u : Nat) (p0 : Int32) (M : KMem) : Option Int32 :=
 Option.bind (rdI M (u + 6) 8 p0) fun x2 =>
 Option.bind (rdI M (u + 7) 8 p0) fun x4 =>
 Option.bind (α := Int32) (if x2 = x4 then
 (some 0)
 else
 (some 1)) fun t5 =>
 Option.bind (kz t5) fun z7 =>
 some z7
set_option maxHeartbeats 4000000 in
set_option maxRecDepth 100000 in
theorem b_Tw_isWrong {X : KX} {B : KB} {L : KLay} {M : KMem} {u : Nat} {p0 : Int32} (G : Good X B RX8 cX8_isWrong 2 rm_Tw_isWrong) (hu : okL L u twT) (h : kOk (m_Tw_isWrong u p0 M) (fun r => RI X B L 2 cX8_isWrong .boolean rm_Tw_isWrong r M)) : KK X B L 2 0 0 M 0 [(0, .ref (B.1 + u)), (1, .int p0)] [] := by
  unfold m_Tw_isWrong at h
  refine k_aload_n G (dc d_Tw_isWrong 0 rfl) 0 rfl rfl ?_
  refine k_getR G kc6 (dc d_Tw_isWrong 1 rfl) (okL_lt hu (o := 0) 0 rfl) (okL_k hu (o := 0) 0 rfl) 0 (by decide) rfl fl_RX8_12 (u + 1) (okL_r hu (o := 0) (c := 1) 0 rfl 0 rfl) ?_
  refine k_getR G kc5 (dc d_Tw_isWrong 2 rfl) (okL_lt hu (o := 1) 1 rfl) (okL_k hu (o := 1) 1 rfl) 4 (by decide) rfl fl_RX8_40 (u + 6) (okL_r hu (o := 1) (c := 6) 1 rfl 3 rfl) ?_
  refine k_iload_n G (dc d_Tw_isWrong 3 rfl) 1 rfl rfl ?_
  obtain ⟨x2, e1, h⟩ := kOk_b h
  refine k_ild G (dc d_Tw_isWrong 4 rfl) (okL_lt hu (o := 6) 6 rfl) (okL_k hu (o := 6) 6 rfl) (okL_n hu (o := 6) 6 rfl) e1 ?_
  refine k_aload_n G (dc d_Tw_isWrong 5 rfl) 0 rfl rfl ?_
  refine k_getR G kc6 (dc d_Tw_isWrong 6 rfl) (okL_lt hu (o := 0) 0 rfl) (okL_k hu (o := 0) 0 rfl) 0 (by decide) rfl fl_RX8_12 (u + 1) (okL_r hu (o := 0) (c := 1) 0 rfl 0 rfl) ?_
  refine k_getR G kc5 (dc d_Tw_isWrong 7 rfl) (okL_lt hu (o := 1) 1 rfl) (okL_k hu (o := 1) 1 rfl) 5 (by decide) rfl fl_RX8_43 (u + 7) (okL_r hu (o := 1) (c := 7) 1 rfl 4 rfl) ?_
  refine k_iload_n G (dc d_Tw_isWrong 8 rfl) 1 rfl rfl ?_
  obtain ⟨x4, e3, h⟩ := kOk_b h
  refine k_ild G (dc d_Tw_isWrong 9 rfl) (okL_lt hu (o := 7) 7 rfl) (okL_k hu (o := 7) 7 rfl) (okL_n hu (o := 7) 7 rfl) e3 ?_
  refine kJ h (fun r6 => KK X B L 2 0 0 M 26 [] [.int r6]) (fun r6 h => ?_) (fun h => ?_)
  · obtain ⟨t5, rfl⟩ : ∃ z, z = r6 := ⟨_, rfl⟩
    show KK X B L 2 0 0 M 26 [] [.int t5]
    obtain ⟨z7, e8, h⟩ := kOk_b h
    obtain ⟨e8, nz7⟩ := kz_ok e8
    rw [e8]
    exact (kOk_s h) _ _ _ _ rfl rfl nz7 (dc d_Tw_isWrong 14 rfl)
  · refine k_icmp_eq G (dc d_Tw_isWrong 10 rfl) (tgt := 25) rfl (fun c9 => ?_) (fun c9 => ?_)
    · replace h := kOk_p c9 h
      refine k_iconst G (dc d_Tw_isWrong 13 rfl) cI_0 ?_
      refine k_sub [] rfl ?_
      have h9 := kOk_s h
      exact h9
    · replace h := kOk_n c9 h
      refine k_iconst G (dc d_Tw_isWrong 11 rfl) cI_1 ?_
      refine k_goto G (dc d_Tw_isWrong 12 rfl) (tgt := 26) rfl ?_
      refine k_sub [] rfl ?_
      have h9 := kOk_s h
      exact h9
theorem c_Tw_isWrong {l : Launch} {B : KB} {L : KLay} {M : KMem} {u : Nat} {p0 : Int32} (hst : l.stackTraces = false) (hu : okL L u twT) {r : Int32} (e : m_Tw_isWrong u p0 M = some r) : CtrN l B yX8_isWrong cX8_isWrong 2 (some .boolean) rm_Tw_isWrong [.ref (B.1 + u), .int p0] L M (some (.int r)) L M :=
  mk_I rfl hst rfl (fun X hl G _ R => b_Tw_isWrong G hu ⟨_, e, R⟩)
def I_Tw_fineWrongSigns : List (Nat × Instr × Nat) := [(0, .aload_n 0, 1), (1, .getfield 12, 3), (4, .getfield 54, 3), (7, .iconst 1, 1), (8, .iaload, 1), (9, .istore_n 1, 1), (10, .iconst 0, 1), (11, .istore_n 2, 1), (12, .iload_n 2, 1), (13, .bipush 8, 2), (15, .if_icmp .ge 59, 3), (18, .aload_n 0, 1), (19, .iload_n 2, 1), (20, .invokevirtual 57, 3), (23, .ifCond .eq 51, 3), (26, .aload_n 0, 1), (27, .iload_n 2, 1), (28, .invokevirtual 147, 3), (31, .ifCond .eq 37, 3), (34, .aload_n 0, 1), (35, .getfield 12, 3), (38, .getfield 85, 3), (41, .iload_n 2, 1), (42, .dup2, 1), (43, .iaload, 1), (44, .iload_n 1, 1), (45, .iadd, 1), (46, .iastore, 1), (47, .aload_n 0, 1), (48, .getfield 12, 3), (51, .getfield 150, 3), (54, .aload_n 0, 1), (55, .getfield 12, 3), (58, .getfield 79, 3), (61, .iload_n 2, 1), (62, .iaload, 1), (63, .dup2, 1), (64, .iaload, 1), (65, .iload_n 1, 1), (66, .iadd, 1), (67, .iastore, 1), (68, .iinc 2 1, 3), (71, .goto (-59), 3), (74, .return_, 1)]
set_option maxRecDepth 100000 in
theorem d_Tw_fineWrongSigns : decA cX8_fineWrongSigns I_Tw_fineWrongSigns = true := by decide +kernel
abbrev rm_Tw_fineWrongSigns : Room := ({ frames := 1, cells := 0, slots := 0, locals := 21 } : Room)
def m_Tw_fineWrongSigns_l12 (u : Nat) (x2 : Int32) : (Int32 × KMem) → Option ((Int32 × KMem) ⊕ KMem) := fun (v2_3, M4) =>
 if 8 ≤ v2_3 then
 (some (.inr M4))
 else
 (Option.bind (m_Tw_hasSign u v2_3 M4) fun x7 =>
 if x7 = 0 then
 (some (.inr M4))
 else
 (Option.bind (m_Tw_isWrong u v2_3 M4) fun x10 =>
 Option.bind (α := KMem) (if x10 = 0 then
 (some M4)
 else
 (Option.bind (rdI M4 (u + 9) 8 v2_3) fun x15 =>
 Option.bind (wrI M4 (u + 9) 8 v2_3 (x15 + x2)) fun M17 =>
 Option.bind (rdI M17 (u + 4) 8 v2_3) fun x19 =>
 Option.bind (rdI M17 (u + 10) 4 x19) fun x21 =>
 Option.bind (wrI M17 (u + 10) 4 x19 (x21 + x2)) fun M23 =>
 some M23)) fun M11 =>
 some (.inl (v2_3 + 1, M11))))
def m_Tw_fineWrongSigns (u : Nat) (M : KMem) : Option KMem :=
 Option.bind (rdI M (u + 12) 2 1) fun x2 =>
 Option.bind (α := KMem) (kLp (m_Tw_fineWrongSigns_l12 u x2) kFU (0, M)) fun M24 =>
 some M24
set_option maxHeartbeats 4000000 in
set_option maxRecDepth 100000 in
theorem b_Tw_fineWrongSigns {X : KX} {B : KB} {L : KLay} {M : KMem} {u : Nat} (G : Good X B RX8 cX8_fineWrongSigns 3 rm_Tw_fineWrongSigns) (hu : okL L u twT) (h : kOk (m_Tw_fineWrongSigns u M) (fun r => RV X B L 3 cX8_fineWrongSigns rm_Tw_fineWrongSigns r)) : KK X B L 3 0 0 M 0 [(0, .ref (B.1 + u))] [] := by
  unfold m_Tw_fineWrongSigns at h
  refine k_aload_n G (dc d_Tw_fineWrongSigns 0 rfl) 0 rfl rfl ?_
  refine k_getR G kc6 (dc d_Tw_fineWrongSigns 1 rfl) (okL_lt hu (o := 0) 0 rfl) (okL_k hu (o := 0) 0 rfl) 0 (by decide) rfl fl_RX8_12 (u + 1) (okL_r hu (o := 0) (c := 1) 0 rfl 0 rfl) ?_
  refine k_getR G kc5 (dc d_Tw_fineWrongSigns 2 rfl) (okL_lt hu (o := 1) 1 rfl) (okL_k hu (o := 1) 1 rfl) 10 (by decide) rfl fl_RX8_54 (u + 12) (okL_r hu (o := 1) (c := 12) 1 rfl 9 rfl) ?_
  refine k_iconst G (dc d_Tw_fineWrongSigns 3 rfl) cI_1 ?_
  obtain ⟨x2, e1, h⟩ := kOk_b h
  refine k_ild G (dc d_Tw_fineWrongSigns 4 rfl) (okL_lt hu (o := 12) 12 rfl) (okL_k hu (o := 12) 12 rfl) (okL_n hu (o := 12) 12 rfl) e1 ?_
  refine k_istore_n G (dc d_Tw_fineWrongSigns 5 rfl) (ls' := [(1, .int x2), (0, .ref (B.1 + u))]) rfl rfl rfl ?_
  refine k_iconst G (dc d_Tw_fineWrongSigns 6 rfl) cI_0 ?_
  refine k_istore_n G (dc d_Tw_fineWrongSigns 7 rfl) (ls' := [(2, .int 0), (1, .int x2), (0, .ref (B.1 + u))]) rfl rfl rfl ?_
  refine kJ h (fun r25 => KK X B L 3 0 0 r25 74 [] []) (fun r25 h => ?_) (fun h => ?_)
  · obtain ⟨M24, rfl⟩ : ∃ z, z = r25 := ⟨_, rfl⟩
    show KK X B L 3 0 0 M24 74 [] []
    exact (kOk_s h) _ _ _ _ rfl rfl (dc d_Tw_fineWrongSigns 43 rfl)
  · refine k_sub [2, 1, 0] rfl ?_
    refine kLp_ok (P := fun s26 => KK X B L 3 0 0 s26.2 12 [(0, .ref (B.1 + u)), (1, .int x2), (2, .int s26.1)] []) (fun s26 h => ?_) kFU _ h
    obtain ⟨v2_3, M4⟩ := s26
    unfold m_Tw_fineWrongSigns_l12 at h
    show KK X B L 3 0 0 M4 12 [(0, .ref (B.1 + u)), (1, .int x2), (2, .int v2_3)] []
    refine k_iload_n G (dc d_Tw_fineWrongSigns 8 rfl) 2 rfl rfl ?_
    refine k_bipush G (dc d_Tw_fineWrongSigns 9 rfl) cB_8 ?_
    refine k_icmp_ge G (dc d_Tw_fineWrongSigns 10 rfl) (tgt := 74) rfl (fun c5 => ?_) (fun c5 => ?_)
    · replace h := kOk_p c5 h
      refine k_sub [] rfl ?_
      have h9 := kOk_s h
      exact h9
    · replace h := kOk_n c5 h
      refine k_aload_n G (dc d_Tw_fineWrongSigns 11 rfl) 0 rfl rfl ?_
      refine k_iload_n G (dc d_Tw_fineWrongSigns 12 rfl) 2 rfl rfl ?_
      obtain ⟨x7, e6, h⟩ := kOk_b h
      refine k_cVI G (dc d_Tw_fineWrongSigns 13 rfl) kc6 (okL_lt hu (o := 0) 0 rfl) (okL_k hu (o := 0) 0 rfl) mi_Tw_hasSign mv_Tw_hasSign rfl ml_RX8_57 (c_Tw_hasSign (gst G) hu e6) rfl rfl ⟨rfl, rfl⟩ rfl ⟨rfl, rfl⟩ ⟨rfl, rfl⟩ ?_
      refine k_if_eq G (dc d_Tw_fineWrongSigns 14 rfl) (tgt := 74) rfl (fun c8 => ?_) (fun c8 => ?_)
      · replace h := kOk_p c8 h
        refine k_sub [] rfl ?_
        have h9 := kOk_s h
        exact h9
      · replace h := kOk_n c8 h
        refine k_aload_n G (dc d_Tw_fineWrongSigns 15 rfl) 0 rfl rfl ?_
        refine k_iload_n G (dc d_Tw_fineWrongSigns 16 rfl) 2 rfl rfl ?_
        obtain ⟨x10, e9, h⟩ := kOk_b h
        refine k_cVI G (dc d_Tw_fineWrongSigns 17 rfl) kc6 (okL_lt hu (o := 0) 0 rfl) (okL_k hu (o := 0) 0 rfl) mi_Tw_isWrong mv_Tw_isWrong rfl ml_RX8_147 (c_Tw_isWrong (gst G) hu e9) rfl rfl ⟨rfl, rfl⟩ rfl ⟨rfl, rfl⟩ ⟨rfl, rfl⟩ ?_
        refine kJ h (fun r12 => KK X B L 3 0 0 r12 68 [(0, .ref (B.1 + u)), (1, .int x2), (2, .int v2_3)] []) (fun r12 h => ?_) (fun h => ?_)
        · obtain ⟨M11, rfl⟩ : ∃ z, z = r12 := ⟨_, rfl⟩
          show KK X B L 3 0 0 M11 68 [(0, .ref (B.1 + u)), (1, .int x2), (2, .int v2_3)] []
          refine k_iinc G (dc d_Tw_fineWrongSigns 41 rfl) (ls' := [(2, .int (v2_3 + 1)), (0, .ref (B.1 + u)), (1, .int x2)]) 2 rfl cI_1 rfl rfl ?_
          refine k_goto G (dc d_Tw_fineWrongSigns 42 rfl) (tgt := 12) rfl ?_
          refine k_sub [1, 2, 0] rfl ?_
          have h9 := kOk_s h
          exact h9
        · refine k_if_eq G (dc d_Tw_fineWrongSigns 18 rfl) (tgt := 68) rfl (fun c13 => ?_) (fun c13 => ?_)
          · replace h := kOk_p c13 h
            have h9 := kOk_s h
            exact h9
          · replace h := kOk_n c13 h
            refine k_aload_n G (dc d_Tw_fineWrongSigns 19 rfl) 0 rfl rfl ?_
            refine k_getR G kc6 (dc d_Tw_fineWrongSigns 20 rfl) (okL_lt hu (o := 0) 0 rfl) (okL_k hu (o := 0) 0 rfl) 0 (by decide) rfl fl_RX8_12 (u + 1) (okL_r hu (o := 0) (c := 1) 0 rfl 0 rfl) ?_
            refine k_getR G kc5 (dc d_Tw_fineWrongSigns 21 rfl) (okL_lt hu (o := 1) 1 rfl) (okL_k hu (o := 1) 1 rfl) 7 (by decide) rfl fl_RX8_85 (u + 9) (okL_r hu (o := 1) (c := 9) 1 rfl 6 rfl) ?_
            refine k_iload_n G (dc d_Tw_fineWrongSigns 22 rfl) 2 rfl rfl ?_
            refine k_dup2 G (dc d_Tw_fineWrongSigns 23 rfl) rfl rfl ?_
            obtain ⟨x15, e14, h⟩ := kOk_b h
            refine k_ild G (dc d_Tw_fineWrongSigns 24 rfl) (okL_lt hu (o := 9) 9 rfl) (okL_k hu (o := 9) 9 rfl) (okL_n hu (o := 9) 9 rfl) e14 ?_
            refine k_iload_n G (dc d_Tw_fineWrongSigns 25 rfl) 1 rfl rfl ?_
            refine k_iadd G (dc d_Tw_fineWrongSigns 26 rfl) ?_
            obtain ⟨M17, e16, h⟩ := kOk_b h
            refine k_ist G (dc d_Tw_fineWrongSigns 27 rfl) (okL_lt hu (o := 9) 9 rfl) (okL_k hu (o := 9) 9 rfl) (okL_n hu (o := 9) 9 rfl) e16 ?_
            refine k_aload_n G (dc d_Tw_fineWrongSigns 28 rfl) 0 rfl rfl ?_
            refine k_getR G kc6 (dc d_Tw_fineWrongSigns 29 rfl) (okL_lt hu (o := 0) 0 rfl) (okL_k hu (o := 0) 0 rfl) 0 (by decide) rfl fl_RX8_12 (u + 1) (okL_r hu (o := 0) (c := 1) 0 rfl 0 rfl) ?_
            refine k_getR G kc5 (dc d_Tw_fineWrongSigns 30 rfl) (okL_lt hu (o := 1) 1 rfl) (okL_k hu (o := 1) 1 rfl) 8 (by decide) rfl fl_RX8_150 (u + 10) (okL_r hu (o := 1) (c := 10) 1 rfl 7 rfl) ?_
            refine k_aload_n G (dc d_Tw_fineWrongSigns 31 rfl) 0 rfl rfl ?_
            refine k_getR G kc6 (dc d_Tw_fineWrongSigns 32 rfl) (okL_lt hu (o := 0) 0 rfl) (okL_k hu (o := 0) 0 rfl) 0 (by decide) rfl fl_RX8_12 (u + 1) (okL_r hu (o := 0) (c := 1) 0 rfl 0 rfl) ?_
            refine k_getR G kc5 (dc d_Tw_fineWrongSigns 33 rfl) (okL_lt hu (o := 1) 1 rfl) (okL_k hu (o := 1) 1 rfl) 2 (by decide) rfl fl_RX8_79 (u + 4) (okL_r hu (o := 1) (c := 4) 1 rfl 1 rfl) ?_
            refine k_iload_n G (dc d_Tw_fineWrongSigns 34 rfl) 2 rfl rfl ?_
            obtain ⟨x19, e18, h⟩ := kOk_b h
            refine k_ild G (dc d_Tw_fineWrongSigns 35 rfl) (okL_lt hu (o := 4) 4 rfl) (okL_k hu (o := 4) 4 rfl) (okL_n hu (o := 4) 4 rfl) e18 ?_
            refine k_dup2 G (dc d_Tw_fineWrongSigns 36 rfl) rfl rfl ?_
            obtain ⟨x21, e20, h⟩ := kOk_b h
            refine k_ild G (dc d_Tw_fineWrongSigns 37 rfl) (okL_lt hu (o := 10) 10 rfl) (okL_k hu (o := 10) 10 rfl) (okL_n hu (o := 10) 10 rfl) e20 ?_
            refine k_iload_n G (dc d_Tw_fineWrongSigns 38 rfl) 1 rfl rfl ?_
            refine k_iadd G (dc d_Tw_fineWrongSigns 39 rfl) ?_
            obtain ⟨M23, e22, h⟩ := kOk_b h
            refine k_ist G (dc d_Tw_fineWrongSigns 40 rfl) (okL_lt hu (o := 10) 10 rfl) (okL_k hu (o := 10) 10 rfl) (okL_n hu (o := 10) 10 rfl) e22 ?_
            have h9 := kOk_s h
            exact h9
theorem c_Tw_fineWrongSigns {l : Launch} {B : KB} {L : KLay} {M : KMem} {u : Nat} (hst : l.stackTraces = false) (hu : okL L u twT) {M' : KMem} (e : m_Tw_fineWrongSigns u M = some M') : CtrN l B yX8_fineWrongSigns cX8_fineWrongSigns 3 none rm_Tw_fineWrongSigns [.ref (B.1 + u)] L M none L M' :=
  mk_V rfl hst rfl (fun X hl G _ R => b_Tw_fineWrongSigns G hu ⟨_, e, R⟩)
def I_Tw_passMonths : List (Nat × Instr × Nat) := [(0, .aload_n 0, 1), (1, .invokevirtual 138, 3), (4, .istore_n 2, 1), (5, .iconst 0, 1), (6, .istore_n 3, 1), (7, .iload_n 3, 1), (8, .iload_n 1, 1), (9, .if_icmp .ge 52, 3), (12, .aload_n 0, 1), (13, .getfield 12, 3), (16, .dup, 1), (17, .getfield 96, 3), (20, .iconst 1, 1), (21, .iadd, 1), (22, .putfield 96, 3), (25, .aload_n 0, 1), (26, .getfield 12, 3), (29, .getfield 141, 3), (32, .ifCond .le 19, 3), (35, .aload_n 0, 1), (36, .getfield 12, 3), (39, .dup, 1), (40, .getfield 141, 3), (43, .iconst 1, 1), (44, .isub, 1), (45, .putfield 141, 3), (48, .goto 7, 3), (51, .aload_n 0, 1), (52, .invokevirtual 144, 3), (55, .iinc 3 1, 3), (58, .goto (-51), 3), (61, .aload_n 0, 1), (62, .invokevirtual 138, 3), (65, .iload_n 2, 1), (66, .isub, 1), (67, .ireturn, 1)]
set_option maxRecDepth 100000 in
theorem d_Tw_passMonths : decA cX8_passMonths I_Tw_passMonths = true := by decide +kernel
abbrev rm_Tw_passMonths : Room := ({ frames := 2, cells := 0, slots := 0, locals := 45 } : Room)
def m_Tw_passMonths_l7 (u : Nat) (p0 : Int32) : (Int32 × KMem) → Option ((Int32 × KMem) ⊕ KMem) := fun (v3_3, M4) =>
 if p0 ≤ v3_3 then
 (some (.inr M4))
 else
 (Option.bind (some (kup M4 (u + 1) 11 ((M4 (u + 1) 11) + 1))) fun M7 =>
 Option.bind (α := KMem) (if (M7 (u + 1) 12) ≤ 0 then
 (Option.bind (m_Tw_fineWrongSigns u M7) fun M12 =>
 some M12)
 else
 (Option.bind (some (kup M7 (u + 1) 12 ((M7 (u + 1) 12) - 1))) fun M14 =>
 some M14)) fun M8 =>
 some (.inl (v3_3 + 1, M8)))
def m_Tw_passMonths (u : Nat) (p0 : Int32) (M : KMem) : Option (Int32 × KMem) :=
 Option.bind (m_Tw_allFines u M) fun x2 =>
 Option.bind (α := KMem) (kLp (m_Tw_passMonths_l7 u p0) kFU (0, M)) fun M15 =>
 Option.bind (m_Tw_allFines u M15) fun x17 =>
 some (x17 - x2, M15)
set_option maxHeartbeats 4000000 in
set_option maxRecDepth 100000 in
theorem b_Tw_passMonths {X : KX} {B : KB} {L : KLay} {M : KMem} {u : Nat} {p0 : Int32} (G : Good X B RX8 cX8_passMonths 4 rm_Tw_passMonths) (hu : okL L u twT) (h : kOk (m_Tw_passMonths u p0 M) (fun r => RI X B L 4 cX8_passMonths .int rm_Tw_passMonths r.1 r.2)) : KK X B L 4 0 0 M 0 [(0, .ref (B.1 + u)), (1, .int p0)] [] := by
  unfold m_Tw_passMonths at h
  refine k_aload_n G (dc d_Tw_passMonths 0 rfl) 0 rfl rfl ?_
  obtain ⟨x2, e1, h⟩ := kOk_b h
  refine k_cVI G (dc d_Tw_passMonths 1 rfl) kc6 (okL_lt hu (o := 0) 0 rfl) (okL_k hu (o := 0) 0 rfl) mi_Tw_allFines mv_Tw_allFines rfl ml_RX8_138 (c_Tw_allFines (gst G) hu e1) rfl rfl ⟨rfl, rfl⟩ rfl ⟨rfl, rfl⟩ ⟨rfl, rfl⟩ ?_
  refine k_istore_n G (dc d_Tw_passMonths 2 rfl) (ls' := [(2, .int x2), (0, .ref (B.1 + u)), (1, .int p0)]) rfl rfl rfl ?_
  refine k_iconst G (dc d_Tw_passMonths 3 rfl) cI_0 ?_
  refine k_istore_n G (dc d_Tw_passMonths 4 rfl) (ls' := [(3, .int 0), (2, .int x2), (0, .ref (B.1 + u)), (1, .int p0)]) rfl rfl rfl ?_
  refine kJ h (fun r18 => KK X B L 4 0 0 r18 61 [(0, .ref (B.1 + u)), (2, .int x2)] []) (fun r18 h => ?_) (fun h => ?_)
  · obtain ⟨M15, rfl⟩ : ∃ z, z = r18 := ⟨_, rfl⟩
    show KK X B L 4 0 0 M15 61 [(0, .ref (B.1 + u)), (2, .int x2)] []
    refine k_aload_n G (dc d_Tw_passMonths 31 rfl) 0 rfl rfl ?_
    obtain ⟨x17, e16, h⟩ := kOk_b h
    refine k_cVI G (dc d_Tw_passMonths 32 rfl) kc6 (okL_lt hu (o := 0) 0 rfl) (okL_k hu (o := 0) 0 rfl) mi_Tw_allFines mv_Tw_allFines rfl ml_RX8_138 (c_Tw_allFines (gst G) hu e16) rfl rfl ⟨rfl, rfl⟩ rfl ⟨rfl, rfl⟩ ⟨rfl, rfl⟩ ?_
    refine k_iload_n G (dc d_Tw_passMonths 33 rfl) 1 rfl rfl ?_
    refine k_isub G (dc d_Tw_passMonths 34 rfl) ?_
    exact (kOk_s h) _ _ _ _ rfl rfl rfl (dc d_Tw_passMonths 35 rfl)
  · refine k_sub [2, 3, 1, 0] rfl ?_
    refine kLp_ok (P := fun s19 => KK X B L 4 0 0 s19.2 7 [(0, .ref (B.1 + u)), (1, .int p0), (2, .int x2), (3, .int s19.1)] []) (fun s19 h => ?_) kFU _ h
    obtain ⟨v3_3, M4⟩ := s19
    unfold m_Tw_passMonths_l7 at h
    show KK X B L 4 0 0 M4 7 [(0, .ref (B.1 + u)), (1, .int p0), (2, .int x2), (3, .int v3_3)] []
    refine k_iload_n G (dc d_Tw_passMonths 5 rfl) 3 rfl rfl ?_
    refine k_iload_n G (dc d_Tw_passMonths 6 rfl) 1 rfl rfl ?_
    refine k_icmp_ge G (dc d_Tw_passMonths 7 rfl) (tgt := 61) rfl (fun c5 => ?_) (fun c5 => ?_)
    · replace h := kOk_p c5 h
      refine k_sub [0, 2] rfl ?_
      have h9 := kOk_s h
      exact h9
    · replace h := kOk_n c5 h
      refine k_aload_n G (dc d_Tw_passMonths 8 rfl) 0 rfl rfl ?_
      refine k_getR G kc6 (dc d_Tw_passMonths 9 rfl) (okL_lt hu (o := 0) 0 rfl) (okL_k hu (o := 0) 0 rfl) 0 (by decide) rfl fl_RX8_12 (u + 1) (okL_r hu (o := 0) (c := 1) 0 rfl 0 rfl) ?_
      refine k_dup G (dc d_Tw_passMonths 10 rfl) rfl ?_
      refine k_getI G kc5 (dc d_Tw_passMonths 11 rfl) (okL_lt hu (o := 1) 1 rfl) (okL_k hu (o := 1) 1 rfl) 11 (by decide) rfl fl_RX8_96 ?_
      refine k_iconst G (dc d_Tw_passMonths 12 rfl) cI_1 ?_
      refine k_iadd G (dc d_Tw_passMonths 13 rfl) ?_
      obtain ⟨M7, e6, h⟩ := kOk_b h
      refine k_putI G kc5 (dc d_Tw_passMonths 14 rfl) (okL_lt hu (o := 1) 1 rfl) (okL_k hu (o := 1) 1 rfl) 11 (by decide) rfl rfl fl_RX8_96 rfl rfl e6 ?_
      refine k_aload_n G (dc d_Tw_passMonths 15 rfl) 0 rfl rfl ?_
      refine k_getR G kc6 (dc d_Tw_passMonths 16 rfl) (okL_lt hu (o := 0) 0 rfl) (okL_k hu (o := 0) 0 rfl) 0 (by decide) rfl fl_RX8_12 (u + 1) (okL_r hu (o := 0) (c := 1) 0 rfl 0 rfl) ?_
      refine k_getI G kc5 (dc d_Tw_passMonths 17 rfl) (okL_lt hu (o := 1) 1 rfl) (okL_k hu (o := 1) 1 rfl) 12 (by decide) rfl fl_RX8_141 ?_
      refine kJ h (fun r9 => KK X B L 4 0 0 r9 55 [(0, .ref (B.1 + u)), (1, .int p0), (2, .int x2), (3, .int v3_3)] []) (fun r9 h => ?_) (fun h => ?_)
      · obtain ⟨M8, rfl⟩ : ∃ z, z = r9 := ⟨_, rfl⟩
        show KK X B L 4 0 0 M8 55 [(0, .ref (B.1 + u)), (1, .int p0), (2, .int x2), (3, .int v3_3)] []
        refine k_iinc G (dc d_Tw_passMonths 29 rfl) (ls' := [(3, .int (v3_3 + 1)), (0, .ref (B.1 + u)), (1, .int p0), (2, .int x2)]) 3 rfl cI_1 rfl rfl ?_
        refine k_goto G (dc d_Tw_passMonths 30 rfl) (tgt := 7) rfl ?_
        refine k_sub [1, 2, 3, 0] rfl ?_
        have h9 := kOk_s h
        exact h9
      · refine k_if_le G (dc d_Tw_passMonths 18 rfl) (tgt := 51) rfl (fun c10 => ?_) (fun c10 => ?_)
        · replace h := kOk_p c10 h
          refine k_aload_n G (dc d_Tw_passMonths 27 rfl) 0 rfl rfl ?_
          obtain ⟨M12, e11, h⟩ := kOk_b h
          refine k_cVV G (dc d_Tw_passMonths 28 rfl) kc6 (okL_lt hu (o := 0) 0 rfl) (okL_k hu (o := 0) 0 rfl) mi_Tw_fineWrongSigns mv_Tw_fineWrongSigns rfl ml_RX8_144 (c_Tw_fineWrongSigns (gst G) hu e11) rfl rfl ⟨rfl, rfl⟩ rfl ⟨rfl, rfl⟩ ⟨rfl, rfl⟩ ?_
          have h9 := kOk_s h
          exact h9
        · replace h := kOk_n c10 h
          refine k_aload_n G (dc d_Tw_passMonths 19 rfl) 0 rfl rfl ?_
          refine k_getR G kc6 (dc d_Tw_passMonths 20 rfl) (okL_lt hu (o := 0) 0 rfl) (okL_k hu (o := 0) 0 rfl) 0 (by decide) rfl fl_RX8_12 (u + 1) (okL_r hu (o := 0) (c := 1) 0 rfl 0 rfl) ?_
          refine k_dup G (dc d_Tw_passMonths 21 rfl) rfl ?_
          refine k_getI G kc5 (dc d_Tw_passMonths 22 rfl) (okL_lt hu (o := 1) 1 rfl) (okL_k hu (o := 1) 1 rfl) 12 (by decide) rfl fl_RX8_141 ?_
          refine k_iconst G (dc d_Tw_passMonths 23 rfl) cI_1 ?_
          refine k_isub G (dc d_Tw_passMonths 24 rfl) ?_
          obtain ⟨M14, e13, h⟩ := kOk_b h
          refine k_putI G kc5 (dc d_Tw_passMonths 25 rfl) (okL_lt hu (o := 1) 1 rfl) (okL_k hu (o := 1) 1 rfl) 12 (by decide) rfl rfl fl_RX8_141 rfl rfl e13 ?_
          refine k_goto G (dc d_Tw_passMonths 26 rfl) (tgt := 55) rfl ?_
          have h9 := kOk_s h
          exact h9
theorem c_Tw_passMonths {l : Launch} {B : KB} {L : KLay} {M : KMem} {u : Nat} {p0 : Int32} (hst : l.stackTraces = false) (hu : okL L u twT) {r : Int32} {M' : KMem} (e : m_Tw_passMonths u p0 M = some (r, M')) : CtrN l B yX8_passMonths cX8_passMonths 4 (some .int) rm_Tw_passMonths [.ref (B.1 + u), .int p0] L M (some (.int r)) L M' :=
  mk_I rfl hst rfl (fun X hl G _ R => b_Tw_passMonths G hu ⟨_, e, R⟩)
end
section
/-! laid by wip/whole/lay.py: Tw_canForgive, Tw_wrongSigns, Tw_forgive, Tw_reasonAgainstSign, Tw_bringSign, Tw_spelled, Tw_spellingsApart, Tw_counted, Tw_signsPaidBy, Tw_monthsTillFinesAreMore, Tw_lettersOf, Tw_lettersOfRights, Tw_costOfAll -/
def I_Tw_canForgive : List (Nat × Instr × Nat) := [(0, .aload_n 0, 1), (1, .getfield 12, 3), (4, .getfield 141, 3), (7, .ifCond .le 5, 3), (10, .iconst 0, 1), (11, .ireturn, 1), (12, .aload_n 0, 1), (13, .getfield 12, 3), (16, .getfield 153, 3), (19, .iconst (-1), 1), (20, .if_icmp .eq 23, 3), (23, .aload_n 0, 1), (24, .getfield 12, 3), (27, .getfield 96, 3), (30, .aload_n 0, 1), (31, .getfield 12, 3), (34, .getfield 153, 3), (37, .isub, 1), (38, .bipush 12, 2), (40, .if_icmp .lt 7, 3), (43, .iconst 1, 1), (44, .goto 4, 3), (47, .iconst 0, 1), (48, .ireturn, 1)]
set_option maxRecDepth 100000 in
theorem d_Tw_canForgive : decA cX8_canForgive I_Tw_canForgive = true := by decide +kernel
abbrev rm_Tw_canForgive : Room := ({ frames := 0, cells := 0, slots := 0, locals := 0 } : Room)
def m_Tw_canForgive (u : Nat) (M : KMem) : Option Int32 :=
 if (M (u + 1) 12) ≤ 0 then
 (Option.bind (α := Int32) (if (M (u + 1) 13) = (-1) then
 (some 1)
 else
 (if ((M (u + 1) 11) - (M (u + 1) 13)) < 12 then
 (some 0)
 else
 (some 1))) fun t2 =>
 Option.bind (kz t2) fun z4 =>
 some z4)
 else
 (Option.bind (kz 0) fun z8 =>
 some z8)
set_option maxHeartbeats 4000000 in
set_option maxRecDepth 100000 in
theorem b_Tw_canForgive {X : KX} {B : KB} {L : KLay} {M : KMem} {u : Nat} (G : Good X B RX8 cX8_canForgive 1 rm_Tw_canForgive) (hu : okL L u twT) (h : kOk (m_Tw_canForgive u M) (fun r => RI X B L 1 cX8_canForgive .boolean rm_Tw_canForgive r M)) : KK X B L 1 0 0 M 0 [(0, .ref (B.1 + u))] [] := by
  unfold m_Tw_canForgive at h
  refine k_aload_n G (dc d_Tw_canForgive 0 rfl) 0 rfl rfl ?_
  refine k_getR G kc6 (dc d_Tw_canForgive 1 rfl) (okL_lt hu (o := 0) 0 rfl) (okL_k hu (o := 0) 0 rfl) 0 (by decide) rfl fl_RX8_12 (u + 1) (okL_r hu (o := 0) (c := 1) 0 rfl 0 rfl) ?_
  refine k_getI G kc5 (dc d_Tw_canForgive 2 rfl) (okL_lt hu (o := 1) 1 rfl) (okL_k hu (o := 1) 1 rfl) 12 (by decide) rfl fl_RX8_141 ?_
  refine k_if_le G (dc d_Tw_canForgive 3 rfl) (tgt := 12) rfl (fun c1 => ?_) (fun c1 => ?_)
  · replace h := kOk_p c1 h
    refine k_aload_n G (dc d_Tw_canForgive 6 rfl) 0 rfl rfl ?_
    refine k_getR G kc6 (dc d_Tw_canForgive 7 rfl) (okL_lt hu (o := 0) 0 rfl) (okL_k hu (o := 0) 0 rfl) 0 (by decide) rfl fl_RX8_12 (u + 1) (okL_r hu (o := 0) (c := 1) 0 rfl 0 rfl) ?_
    refine k_getI G kc5 (dc d_Tw_canForgive 8 rfl) (okL_lt hu (o := 1) 1 rfl) (okL_k hu (o := 1) 1 rfl) 13 (by decide) rfl fl_RX8_153 ?_
    refine k_iconst G (dc d_Tw_canForgive 9 rfl) cI_m1 ?_
    refine kJ h (fun r3 => KK X B L 1 0 0 M 48 [] [.int r3]) (fun r3 h => ?_) (fun h => ?_)
    · obtain ⟨t2, rfl⟩ : ∃ z, z = r3 := ⟨_, rfl⟩
      show KK X B L 1 0 0 M 48 [] [.int t2]
      obtain ⟨z4, e5, h⟩ := kOk_b h
      obtain ⟨e5, nz4⟩ := kz_ok e5
      rw [e5]
      exact (kOk_s h) _ _ _ _ rfl rfl nz4 (dc d_Tw_canForgive 23 rfl)
    · refine k_icmp_eq G (dc d_Tw_canForgive 10 rfl) (tgt := 43) rfl (fun c6 => ?_) (fun c6 => ?_)
      · replace h := kOk_p c6 h
        refine k_iconst G (dc d_Tw_canForgive 20 rfl) cI_1 ?_
        refine k_goto G (dc d_Tw_canForgive 21 rfl) (tgt := 48) rfl ?_
        refine k_sub [] rfl ?_
        have h9 := kOk_s h
        exact h9
      · replace h := kOk_n c6 h
        refine k_aload_n G (dc d_Tw_canForgive 11 rfl) 0 rfl rfl ?_
        refine k_getR G kc6 (dc d_Tw_canForgive 12 rfl) (okL_lt hu (o := 0) 0 rfl) (okL_k hu (o := 0) 0 rfl) 0 (by decide) rfl fl_RX8_12 (u + 1) (okL_r hu (o := 0) (c := 1) 0 rfl 0 rfl) ?_
        refine k_getI G kc5 (dc d_Tw_canForgive 13 rfl) (okL_lt hu (o := 1) 1 rfl) (okL_k hu (o := 1) 1 rfl) 11 (by decide) rfl fl_RX8_96 ?_
        refine k_aload_n G (dc d_Tw_canForgive 14 rfl) 0 rfl rfl ?_
        refine k_getR G kc6 (dc d_Tw_canForgive 15 rfl) (okL_lt hu (o := 0) 0 rfl) (okL_k hu (o := 0) 0 rfl) 0 (by decide) rfl fl_RX8_12 (u + 1) (okL_r hu (o := 0) (c := 1) 0 rfl 0 rfl) ?_
        refine k_getI G kc5 (dc d_Tw_canForgive 16 rfl) (okL_lt hu (o := 1) 1 rfl) (okL_k hu (o := 1) 1 rfl) 13 (by decide) rfl fl_RX8_153 ?_
        refine k_isub G (dc d_Tw_canForgive 17 rfl) ?_
        refine k_bipush G (dc d_Tw_canForgive 18 rfl) cB_12 ?_
        refine k_icmp_lt G (dc d_Tw_canForgive 19 rfl) (tgt := 47) rfl (fun c7 => ?_) (fun c7 => ?_)
        · replace h := kOk_p c7 h
          refine k_iconst G (dc d_Tw_canForgive 22 rfl) cI_0 ?_
          refine k_sub [] rfl ?_
          have h9 := kOk_s h
          exact h9
        · replace h := kOk_n c7 h
          refine k_iconst G (dc d_Tw_canForgive 20 rfl) cI_1 ?_
          refine k_goto G (dc d_Tw_canForgive 21 rfl) (tgt := 48) rfl ?_
          refine k_sub [] rfl ?_
          have h9 := kOk_s h
          exact h9
  · replace h := kOk_n c1 h
    refine k_iconst G (dc d_Tw_canForgive 4 rfl) cI_0 ?_
    obtain ⟨z8, e9, h⟩ := kOk_b h
    obtain ⟨e9, nz8⟩ := kz_ok e9
    rw [e9]
    exact (kOk_s h) _ _ _ _ rfl rfl nz8 (dc d_Tw_canForgive 5 rfl)
theorem c_Tw_canForgive {l : Launch} {B : KB} {L : KLay} {M : KMem} {u : Nat} (hst : l.stackTraces = false) (hu : okL L u twT) {r : Int32} (e : m_Tw_canForgive u M = some r) : CtrN l B yX8_canForgive cX8_canForgive 1 (some .boolean) rm_Tw_canForgive [.ref (B.1 + u)] L M (some (.int r)) L M :=
  mk_I rfl hst rfl (fun X hl G _ R => b_Tw_canForgive G hu ⟨_, e, R⟩)
def I_Tw_wrongSigns : List (Nat × Instr × Nat) := [(0, .iconst 0, 1), (1, .istore_n 1, 1), (2, .iconst 0, 1), (3, .istore_n 2, 1), (4, .iload_n 2, 1), (5, .bipush 8, 2), (7, .if_icmp .ge 33, 3), (10, .aload_n 0, 1), (11, .iload_n 2, 1), (12, .invokevirtual 57, 3), (15, .ifCond .eq 25, 3), (18, .iload_n 1, 1), (19, .aload_n 0, 1), (20, .iload_n 2, 1), (21, .invokevirtual 147, 3), (24, .ifCond .eq 7, 3), (27, .iconst 1, 1), (28, .goto 4, 3), (31, .iconst 0, 1), (32, .iadd, 1), (33, .istore_n 1, 1), (34, .iinc 2 1, 3), (37, .goto (-33), 3), (40, .iload_n 1, 1), (41, .ireturn, 1)]
set_option maxRecDepth 100000 in
theorem d_Tw_wrongSigns : decA cX8_wrongSigns I_Tw_wrongSigns = true := by decide +kernel
abbrev rm_Tw_wrongSigns : Room := ({ frames := 1, cells := 0, slots := 0, locals := 21 } : Room)
def m_Tw_wrongSigns_l4 (u : Nat) (M : KMem) : (Int32 × Int32) → Option ((Int32 × Int32) ⊕ Int32) := fun (v1_1, v2_2) =>
 if 8 ≤ v2_2 then
 (some (.inr v1_1))
 else
 (Option.bind (m_Tw_hasSign u v2_2 M) fun x5 =>
 if x5 = 0 then
 (some (.inr v1_1))
 else
 (Option.bind (m_Tw_isWrong u v2_2 M) fun x8 =>
 Option.bind (α := Int32) (if x8 = 0 then
 (some 0)
 else
 (some 1)) fun t9 =>
 some (.inl (v1_1 + t9, v2_2 + 1))))
def m_Tw_wrongSigns (u : Nat) (M : KMem) : Option Int32 :=
 Option.bind (α := Int32) (kLp (m_Tw_wrongSigns_l4 u M) kFU (0, 0)) fun v1_12 =>
 some v1_12
set_option maxHeartbeats 4000000 in
set_option maxRecDepth 100000 in
theorem b_Tw_wrongSigns {X : KX} {B : KB} {L : KLay} {M : KMem} {u : Nat} (G : Good X B RX8 cX8_wrongSigns 3 rm_Tw_wrongSigns) (hu : okL L u twT) (h : kOk (m_Tw_wrongSigns u M) (fun r => RI X B L 3 cX8_wrongSigns .int rm_Tw_wrongSigns r M)) : KK X B L 3 0 0 M 0 [(0, .ref (B.1 + u))] [] := by
  unfold m_Tw_wrongSigns at h
  refine k_iconst G (dc d_Tw_wrongSigns 0 rfl) cI_0 ?_
  refine k_istore_n G (dc d_Tw_wrongSigns 1 rfl) (ls' := [(1, .int 0), (0, .ref (B.1 + u))]) rfl rfl rfl ?_
  refine k_iconst G (dc d_Tw_wrongSigns 2 rfl) cI_0 ?_
  refine k_istore_n G (dc d_Tw_wrongSigns 3 rfl) (ls' := [(2, .int 0), (1, .int 0), (0, .ref (B.1 + u))]) rfl rfl rfl ?_
  refine kJ h (fun r13 => KK X B L 3 0 0 M 40 [(1, .int r13)] []) (fun r13 h => ?_) (fun h => ?_)
  · obtain ⟨v1_12, rfl⟩ : ∃ z, z = r13 := ⟨_, rfl⟩
    show KK X B L 3 0 0 M 40 [(1, .int v1_12)] []
    refine k_iload_n G (dc d_Tw_wrongSigns 23 rfl) 0 rfl rfl ?_
    exact (kOk_s h) _ _ _ _ rfl rfl rfl (dc d_Tw_wrongSigns 24 rfl)
  · refine k_sub [2, 1, 0] rfl ?_
    refine kLp_ok (P := fun s14 => KK X B L 3 0 0 M 4 [(0, .ref (B.1 + u)), (1, .int s14.1), (2, .int s14.2)] []) (fun s14 h => ?_) kFU _ h
    obtain ⟨v1_1, v2_2⟩ := s14
    unfold m_Tw_wrongSigns_l4 at h
    show KK X B L 3 0 0 M 4 [(0, .ref (B.1 + u)), (1, .int v1_1), (2, .int v2_2)] []
    refine k_iload_n G (dc d_Tw_wrongSigns 4 rfl) 2 rfl rfl ?_
    refine k_bipush G (dc d_Tw_wrongSigns 5 rfl) cB_8 ?_
    refine k_icmp_ge G (dc d_Tw_wrongSigns 6 rfl) (tgt := 40) rfl (fun c3 => ?_) (fun c3 => ?_)
    · replace h := kOk_p c3 h
      refine k_sub [1] rfl ?_
      have h9 := kOk_s h
      exact h9
    · replace h := kOk_n c3 h
      refine k_aload_n G (dc d_Tw_wrongSigns 7 rfl) 0 rfl rfl ?_
      refine k_iload_n G (dc d_Tw_wrongSigns 8 rfl) 2 rfl rfl ?_
      obtain ⟨x5, e4, h⟩ := kOk_b h
      refine k_cVI G (dc d_Tw_wrongSigns 9 rfl) kc6 (okL_lt hu (o := 0) 0 rfl) (okL_k hu (o := 0) 0 rfl) mi_Tw_hasSign mv_Tw_hasSign rfl ml_RX8_57 (c_Tw_hasSign (gst G) hu e4) rfl rfl ⟨rfl, rfl⟩ rfl ⟨rfl, rfl⟩ ⟨rfl, rfl⟩ ?_
      refine k_if_eq G (dc d_Tw_wrongSigns 10 rfl) (tgt := 40) rfl (fun c6 => ?_) (fun c6 => ?_)
      · replace h := kOk_p c6 h
        refine k_sub [1] rfl ?_
        have h9 := kOk_s h
        exact h9
      · replace h := kOk_n c6 h
        refine k_iload_n G (dc d_Tw_wrongSigns 11 rfl) 1 rfl rfl ?_
        refine k_aload_n G (dc d_Tw_wrongSigns 12 rfl) 0 rfl rfl ?_
        refine k_iload_n G (dc d_Tw_wrongSigns 13 rfl) 2 rfl rfl ?_
        obtain ⟨x8, e7, h⟩ := kOk_b h
        refine k_cVI G (dc d_Tw_wrongSigns 14 rfl) kc6 (okL_lt hu (o := 0) 0 rfl) (okL_k hu (o := 0) 0 rfl) mi_Tw_isWrong mv_Tw_isWrong rfl ml_RX8_147 (c_Tw_isWrong (gst G) hu e7) rfl rfl ⟨rfl, rfl⟩ rfl ⟨rfl, rfl⟩ ⟨rfl, rfl⟩ ?_
        refine kJ h (fun r10 => KK X B L 3 0 0 M 32 [(0, .ref (B.1 + u)), (2, .int v2_2)] [.int r10, .int v1_1]) (fun r10 h => ?_) (fun h => ?_)
        · obtain ⟨t9, rfl⟩ : ∃ z, z = r10 := ⟨_, rfl⟩
          show KK X B L 3 0 0 M 32 [(0, .ref (B.1 + u)), (2, .int v2_2)] [.int t9, .int v1_1]
          refine k_iadd G (dc d_Tw_wrongSigns 19 rfl) ?_
          refine k_istore_n G (dc d_Tw_wrongSigns 20 rfl) (ls' := [(1, .int (v1_1 + t9)), (0, .ref (B.1 + u)), (2, .int v2_2)]) rfl rfl rfl ?_
          refine k_iinc G (dc d_Tw_wrongSigns 21 rfl) (ls' := [(2, .int (v2_2 + 1)), (1, .int (v1_1 + t9)), (0, .ref (B.1 + u))]) 2 rfl cI_1 rfl rfl ?_
          refine k_goto G (dc d_Tw_wrongSigns 22 rfl) (tgt := 4) rfl ?_
          refine k_sub [2, 1, 0] rfl ?_
          have h9 := kOk_s h
          exact h9
        · refine k_if_eq G (dc d_Tw_wrongSigns 15 rfl) (tgt := 31) rfl (fun c11 => ?_) (fun c11 => ?_)
          · replace h := kOk_p c11 h
            refine k_iconst G (dc d_Tw_wrongSigns 18 rfl) cI_0 ?_
            refine k_sub [0, 2] rfl ?_
            have h9 := kOk_s h
            exact h9
          · replace h := kOk_n c11 h
            refine k_iconst G (dc d_Tw_wrongSigns 16 rfl) cI_1 ?_
            refine k_goto G (dc d_Tw_wrongSigns 17 rfl) (tgt := 32) rfl ?_
            refine k_sub [0, 2] rfl ?_
            have h9 := kOk_s h
            exact h9
theorem c_Tw_wrongSigns {l : Launch} {B : KB} {L : KLay} {M : KMem} {u : Nat} (hst : l.stackTraces = false) (hu : okL L u twT) {r : Int32} (e : m_Tw_wrongSigns u M = some r) : CtrN l B yX8_wrongSigns cX8_wrongSigns 3 (some .int) rm_Tw_wrongSigns [.ref (B.1 + u)] L M (some (.int r)) L M :=
  mk_I rfl hst rfl (fun X hl G _ R => b_Tw_wrongSigns G hu ⟨_, e, R⟩)
def I_Tw_forgive : List (Nat × Instr × Nat) := [(0, .aload_n 0, 1), (1, .invokevirtual 156, 3), (4, .ifCond .ne 5, 3), (7, .iconst (-1), 1), (8, .ireturn, 1), (9, .aload_n 0, 1), (10, .getfield 12, 3), (13, .iload_n 1, 1), (14, .putfield 141, 3), (17, .aload_n 0, 1), (18, .getfield 12, 3), (21, .aload_n 0, 1), (22, .getfield 12, 3), (25, .getfield 96, 3), (28, .putfield 153, 3), (31, .aload_n 0, 1), (32, .invokevirtual 159, 3), (35, .ireturn, 1)]
set_option maxRecDepth 100000 in
theorem d_Tw_forgive : decA cX8_forgive I_Tw_forgive = true := by decide +kernel
abbrev rm_Tw_forgive : Room := ({ frames := 2, cells := 0, slots := 0, locals := 43 } : Room)
def m_Tw_forgive (u : Nat) (p0 : Int32) (M : KMem) : Option (Int32 × KMem) :=
 Option.bind (m_Tw_canForgive u M) fun x2 =>
 if x2 = 0 then
 (some ((-1), M))
 else
 (Option.bind (some (kup M (u + 1) 12 p0)) fun M5 =>
 Option.bind (some (kup M5 (u + 1) 13 (M5 (u + 1) 11))) fun M7 =>
 Option.bind (m_Tw_wrongSigns u M7) fun x9 =>
 some (x9, M7))
set_option maxHeartbeats 4000000 in
set_option maxRecDepth 100000 in
theorem b_Tw_forgive {X : KX} {B : KB} {L : KLay} {M : KMem} {u : Nat} {p0 : Int32} (G : Good X B RX8 cX8_forgive 2 rm_Tw_forgive) (hu : okL L u twT) (h : kOk (m_Tw_forgive u p0 M) (fun r => RI X B L 2 cX8_forgive .int rm_Tw_forgive r.1 r.2)) : KK X B L 2 0 0 M 0 [(0, .ref (B.1 + u)), (1, .int p0)] [] := by
  unfold m_Tw_forgive at h
  refine k_aload_n G (dc d_Tw_forgive 0 rfl) 0 rfl rfl ?_
  obtain ⟨x2, e1, h⟩ := kOk_b h
  refine k_cVI G (dc d_Tw_forgive 1 rfl) kc6 (okL_lt hu (o := 0) 0 rfl) (okL_k hu (o := 0) 0 rfl) mi_Tw_canForgive mv_Tw_canForgive rfl ml_RX8_156 (c_Tw_canForgive (gst G) hu e1) rfl rfl ⟨rfl, rfl⟩ rfl ⟨rfl, rfl⟩ ⟨rfl, rfl⟩ ?_
  refine k_if_ne G (dc d_Tw_forgive 2 rfl) (tgt := 9) rfl (fun c3 => ?_) (fun c3 => ?_)
  · replace h := kOk_n c3 h
    refine k_aload_n G (dc d_Tw_forgive 5 rfl) 0 rfl rfl ?_
    refine k_getR G kc6 (dc d_Tw_forgive 6 rfl) (okL_lt hu (o := 0) 0 rfl) (okL_k hu (o := 0) 0 rfl) 0 (by decide) rfl fl_RX8_12 (u + 1) (okL_r hu (o := 0) (c := 1) 0 rfl 0 rfl) ?_
    refine k_iload_n G (dc d_Tw_forgive 7 rfl) 1 rfl rfl ?_
    obtain ⟨M5, e4, h⟩ := kOk_b h
    refine k_putI G kc5 (dc d_Tw_forgive 8 rfl) (okL_lt hu (o := 1) 1 rfl) (okL_k hu (o := 1) 1 rfl) 12 (by decide) rfl rfl fl_RX8_141 rfl rfl e4 ?_
    refine k_aload_n G (dc d_Tw_forgive 9 rfl) 0 rfl rfl ?_
    refine k_getR G kc6 (dc d_Tw_forgive 10 rfl) (okL_lt hu (o := 0) 0 rfl) (okL_k hu (o := 0) 0 rfl) 0 (by decide) rfl fl_RX8_12 (u + 1) (okL_r hu (o := 0) (c := 1) 0 rfl 0 rfl) ?_
    refine k_aload_n G (dc d_Tw_forgive 11 rfl) 0 rfl rfl ?_
    refine k_getR G kc6 (dc d_Tw_forgive 12 rfl) (okL_lt hu (o := 0) 0 rfl) (okL_k hu (o := 0) 0 rfl) 0 (by decide) rfl fl_RX8_12 (u + 1) (okL_r hu (o := 0) (c := 1) 0 rfl 0 rfl) ?_
    refine k_getI G kc5 (dc d_Tw_forgive 13 rfl) (okL_lt hu (o := 1) 1 rfl) (okL_k hu (o := 1) 1 rfl) 11 (by decide) rfl fl_RX8_96 ?_
    obtain ⟨M7, e6, h⟩ := kOk_b h
    refine k_putI G kc5 (dc d_Tw_forgive 14 rfl) (okL_lt hu (o := 1) 1 rfl) (okL_k hu (o := 1) 1 rfl) 13 (by decide) rfl rfl fl_RX8_153 rfl rfl e6 ?_
    refine k_aload_n G (dc d_Tw_forgive 15 rfl) 0 rfl rfl ?_
    obtain ⟨x9, e8, h⟩ := kOk_b h
    refine k_cVI G (dc d_Tw_forgive 16 rfl) kc6 (okL_lt hu (o := 0) 0 rfl) (okL_k hu (o := 0) 0 rfl) mi_Tw_wrongSigns mv_Tw_wrongSigns rfl ml_RX8_159 (c_Tw_wrongSigns (gst G) hu e8) rfl rfl ⟨rfl, rfl⟩ rfl ⟨rfl, rfl⟩ ⟨rfl, rfl⟩ ?_
    exact (kOk_s h) _ _ _ _ rfl rfl rfl (dc d_Tw_forgive 17 rfl)
  · replace h := kOk_p c3 h
    refine k_iconst G (dc d_Tw_forgive 3 rfl) cI_m1 ?_
    exact (kOk_s h) _ _ _ _ rfl rfl rfl (dc d_Tw_forgive 4 rfl)
theorem c_Tw_forgive {l : Launch} {B : KB} {L : KLay} {M : KMem} {u : Nat} {p0 : Int32} (hst : l.stackTraces = false) (hu : okL L u twT) {r : Int32} {M' : KMem} (e : m_Tw_forgive u p0 M = some (r, M')) : CtrN l B yX8_forgive cX8_forgive 2 (some .int) rm_Tw_forgive [.ref (B.1 + u), .int p0] L M (some (.int r)) L M' :=
  mk_I rfl hst rfl (fun X hl G _ R => b_Tw_forgive G hu ⟨_, e, R⟩)
def I_Tw_reasonAgainstSign : List (Nat × Instr × Nat) := [(0, .iload_n 2, 1), (1, .ifCond .ne 5, 3), (4, .iconst 1, 1), (5, .ireturn, 1), (6, .iconst 0, 1), (7, .istore_n 3, 1), (8, .iload_n 3, 1), (9, .bipush 8, 2), (11, .if_icmp .ge 45, 3), (14, .aload_n 0, 1), (15, .iload_n 3, 1), (16, .invokevirtual 57, 3), (19, .ifCond .eq 37, 3), (22, .aload_n 0, 1), (23, .getfield 12, 3), (26, .getfield 79, 3), (29, .iload_n 3, 1), (30, .iaload, 1), (31, .iload_n 1, 1), (32, .if_icmp .ne 18, 3), (35, .aload_n 0, 1), (36, .getfield 12, 3), (39, .getfield 43, 3), (42, .iload_n 3, 1), (43, .iaload, 1), (44, .iload_n 2, 1), (45, .if_icmp .ne 5, 3), (48, .iconst 2, 1), (49, .ireturn, 1), (50, .iinc 3 1, 3), (53, .goto (-45), 3), (56, .iconst 0, 1), (57, .ireturn, 1)]
set_option maxRecDepth 100000 in
theorem d_Tw_reasonAgainstSign : decA cX8_reasonAgainstSign I_Tw_reasonAgainstSign = true := by decide +kernel
abbrev rm_Tw_reasonAgainstSign : Room := ({ frames := 1, cells := 0, slots := 0, locals := 21 } : Room)
def m_Tw_reasonAgainstSign_l8 (u : Nat) (p0 : Int32) (p1 : Int32) (M : KMem) : Int32 → Option (Int32 ⊕ (Int32 ⊕ Unit)) := fun v3_2 =>
 if 8 ≤ v3_2 then
 (some (.inr (.inr ())))
 else
 (Option.bind (m_Tw_hasSign u v3_2 M) fun x5 =>
 if x5 = 0 then
 (some (.inr (.inr ())))
 else
 (Option.bind (rdI M (u + 4) 8 v3_2) fun x8 =>
 if x8 = p0 then
 (Option.bind (rdI M (u + 7) 8 v3_2) fun x11 =>
 if x11 = p1 then
 (some (.inr (.inl 2)))
 else
 (some (.inl (v3_2 + 1))))
 else
 (some (.inl (v3_2 + 1)))))
def m_Tw_reasonAgainstSign (u : Nat) (p0 : Int32) (p1 : Int32) (M : KMem) : Option Int32 :=
 if p1 = 0 then
 (some 1)
 else
 (Option.bind (α := Int32 ⊕ Unit) (kLp (m_Tw_reasonAgainstSign_l8 u p0 p1 M) kFU 0) fun r => match r with
 | .inl q => some q
 | .inr _ =>
 (some 0))
set_option maxHeartbeats 4000000 in
set_option maxRecDepth 100000 in
theorem b_Tw_reasonAgainstSign {X : KX} {B : KB} {L : KLay} {M : KMem} {u : Nat} {p0 : Int32} {p1 : Int32} (G : Good X B RX8 cX8_reasonAgainstSign 4 rm_Tw_reasonAgainstSign) (hu : okL L u twT) (h : kOk (m_Tw_reasonAgainstSign u p0 p1 M) (fun r => RI X B L 4 cX8_reasonAgainstSign .int rm_Tw_reasonAgainstSign r M)) : KK X B L 4 0 0 M 0 [(0, .ref (B.1 + u)), (1, .int p0), (2, .int p1)] [] := by
  unfold m_Tw_reasonAgainstSign at h
  refine k_iload_n G (dc d_Tw_reasonAgainstSign 0 rfl) 2 rfl rfl ?_
  refine k_if_ne G (dc d_Tw_reasonAgainstSign 1 rfl) (tgt := 6) rfl (fun c1 => ?_) (fun c1 => ?_)
  · replace h := kOk_n c1 h
    refine k_iconst G (dc d_Tw_reasonAgainstSign 4 rfl) cI_0 ?_
    refine k_istore_n G (dc d_Tw_reasonAgainstSign 5 rfl) (ls' := [(3, .int 0), (0, .ref (B.1 + u)), (1, .int p0), (2, .int p1)]) rfl rfl rfl ?_
    refine kJ h (fun r13 => match r13 with | .inl q => RI X B L 4 cX8_reasonAgainstSign .int rm_Tw_reasonAgainstSign q M | .inr r13 => KK X B L 4 0 0 M 56 [] []) (fun r13 h => ?_) (fun h => ?_)
    · rcases r13 with q | r13
      · have h9 := kOk_s h
        exact h9
      · show KK X B L 4 0 0 M 56 [] []
        refine k_iconst G (dc d_Tw_reasonAgainstSign 31 rfl) cI_0 ?_
        exact (kOk_s h) _ _ _ _ rfl rfl rfl (dc d_Tw_reasonAgainstSign 32 rfl)
    · refine k_sub [1, 2, 3, 0] rfl ?_
      refine kLp_ok (P := fun s14 => KK X B L 4 0 0 M 8 [(0, .ref (B.1 + u)), (1, .int p0), (2, .int p1), (3, .int s14)] []) (fun s14 h => ?_) kFU _ h
      obtain ⟨v3_2, rfl⟩ : ∃ z, z = s14 := ⟨_, rfl⟩
      unfold m_Tw_reasonAgainstSign_l8 at h
      show KK X B L 4 0 0 M 8 [(0, .ref (B.1 + u)), (1, .int p0), (2, .int p1), (3, .int v3_2)] []
      refine k_iload_n G (dc d_Tw_reasonAgainstSign 6 rfl) 3 rfl rfl ?_
      refine k_bipush G (dc d_Tw_reasonAgainstSign 7 rfl) cB_8 ?_
      refine k_icmp_ge G (dc d_Tw_reasonAgainstSign 8 rfl) (tgt := 56) rfl (fun c3 => ?_) (fun c3 => ?_)
      · replace h := kOk_p c3 h
        refine k_sub [] rfl ?_
        have h9 := kOk_s h
        exact h9
      · replace h := kOk_n c3 h
        refine k_aload_n G (dc d_Tw_reasonAgainstSign 9 rfl) 0 rfl rfl ?_
        refine k_iload_n G (dc d_Tw_reasonAgainstSign 10 rfl) 3 rfl rfl ?_
        obtain ⟨x5, e4, h⟩ := kOk_b h
        refine k_cVI G (dc d_Tw_reasonAgainstSign 11 rfl) kc6 (okL_lt hu (o := 0) 0 rfl) (okL_k hu (o := 0) 0 rfl) mi_Tw_hasSign mv_Tw_hasSign rfl ml_RX8_57 (c_Tw_hasSign (gst G) hu e4) rfl rfl ⟨rfl, rfl⟩ rfl ⟨rfl, rfl⟩ ⟨rfl, rfl⟩ ?_
        refine k_if_eq G (dc d_Tw_reasonAgainstSign 12 rfl) (tgt := 56) rfl (fun c6 => ?_) (fun c6 => ?_)
        · replace h := kOk_p c6 h
          refine k_sub [] rfl ?_
          have h9 := kOk_s h
          exact h9
        · replace h := kOk_n c6 h
          refine k_aload_n G (dc d_Tw_reasonAgainstSign 13 rfl) 0 rfl rfl ?_
          refine k_getR G kc6 (dc d_Tw_reasonAgainstSign 14 rfl) (okL_lt hu (o := 0) 0 rfl) (okL_k hu (o := 0) 0 rfl) 0 (by decide) rfl fl_RX8_12 (u + 1) (okL_r hu (o := 0) (c := 1) 0 rfl 0 rfl) ?_
          refine k_getR G kc5 (dc d_Tw_reasonAgainstSign 15 rfl) (okL_lt hu (o := 1) 1 rfl) (okL_k hu (o := 1) 1 rfl) 2 (by decide) rfl fl_RX8_79 (u + 4) (okL_r hu (o := 1) (c := 4) 1 rfl 1 rfl) ?_
          refine k_iload_n G (dc d_Tw_reasonAgainstSign 16 rfl) 3 rfl rfl ?_
          obtain ⟨x8, e7, h⟩ := kOk_b h
          refine k_ild G (dc d_Tw_reasonAgainstSign 17 rfl) (okL_lt hu (o := 4) 4 rfl) (okL_k hu (o := 4) 4 rfl) (okL_n hu (o := 4) 4 rfl) e7 ?_
          refine k_iload_n G (dc d_Tw_reasonAgainstSign 18 rfl) 1 rfl rfl ?_
          refine k_icmp_ne G (dc d_Tw_reasonAgainstSign 19 rfl) (tgt := 50) rfl (fun c9 => ?_) (fun c9 => ?_)
          · replace h := kOk_n c9 h
            refine k_iinc G (dc d_Tw_reasonAgainstSign 29 rfl) (ls' := [(3, .int (v3_2 + 1)), (0, .ref (B.1 + u)), (1, .int p0), (2, .int p1)]) 3 rfl cI_1 rfl rfl ?_
            refine k_goto G (dc d_Tw_reasonAgainstSign 30 rfl) (tgt := 8) rfl ?_
            refine k_sub [1, 2, 3, 0] rfl ?_
            have h9 := kOk_s h
            exact h9
          · replace h := kOk_p c9 h
            refine k_aload_n G (dc d_Tw_reasonAgainstSign 20 rfl) 0 rfl rfl ?_
            refine k_getR G kc6 (dc d_Tw_reasonAgainstSign 21 rfl) (okL_lt hu (o := 0) 0 rfl) (okL_k hu (o := 0) 0 rfl) 0 (by decide) rfl fl_RX8_12 (u + 1) (okL_r hu (o := 0) (c := 1) 0 rfl 0 rfl) ?_
            refine k_getR G kc5 (dc d_Tw_reasonAgainstSign 22 rfl) (okL_lt hu (o := 1) 1 rfl) (okL_k hu (o := 1) 1 rfl) 5 (by decide) rfl fl_RX8_43 (u + 7) (okL_r hu (o := 1) (c := 7) 1 rfl 4 rfl) ?_
            refine k_iload_n G (dc d_Tw_reasonAgainstSign 23 rfl) 3 rfl rfl ?_
            obtain ⟨x11, e10, h⟩ := kOk_b h
            refine k_ild G (dc d_Tw_reasonAgainstSign 24 rfl) (okL_lt hu (o := 7) 7 rfl) (okL_k hu (o := 7) 7 rfl) (okL_n hu (o := 7) 7 rfl) e10 ?_
            refine k_iload_n G (dc d_Tw_reasonAgainstSign 25 rfl) 2 rfl rfl ?_
            refine k_icmp_ne G (dc d_Tw_reasonAgainstSign 26 rfl) (tgt := 50) rfl (fun c12 => ?_) (fun c12 => ?_)
            · replace h := kOk_n c12 h
              refine k_iinc G (dc d_Tw_reasonAgainstSign 29 rfl) (ls' := [(3, .int (v3_2 + 1)), (0, .ref (B.1 + u)), (1, .int p0), (2, .int p1)]) 3 rfl cI_1 rfl rfl ?_
              refine k_goto G (dc d_Tw_reasonAgainstSign 30 rfl) (tgt := 8) rfl ?_
              refine k_sub [1, 2, 3, 0] rfl ?_
              have h9 := kOk_s h
              exact h9
            · replace h := kOk_p c12 h
              refine k_iconst G (dc d_Tw_reasonAgainstSign 27 rfl) cI_2 ?_
              exact (kOk_s h) _ _ _ _ rfl rfl rfl (dc d_Tw_reasonAgainstSign 28 rfl)
  · replace h := kOk_p c1 h
    refine k_iconst G (dc d_Tw_reasonAgainstSign 2 rfl) cI_1 ?_
    exact (kOk_s h) _ _ _ _ rfl rfl rfl (dc d_Tw_reasonAgainstSign 3 rfl)
theorem c_Tw_reasonAgainstSign {l : Launch} {B : KB} {L : KLay} {M : KMem} {u : Nat} {p0 : Int32} {p1 : Int32} (hst : l.stackTraces = false) (hu : okL L u twT) {r : Int32} (e : m_Tw_reasonAgainstSign u p0 p1 M = some r) : CtrN l B yX8_reasonAgainstSign cX8_reasonAgainstSign 4 (some .int) rm_Tw_reasonAgainstSign [.ref (B.1 + u), .int p0, .int p1] L M (some (.int r)) L M :=
  mk_I rfl hst rfl (fun X hl G _ R => b_Tw_reasonAgainstSign G hu ⟨_, e, R⟩)
def I_Tw_bringSign : List (Nat × Instr × Nat) := [(0, .aload_n 0, 1), (1, .getfield 12, 3), (4, .getfield 36, 3), (7, .istore_n 3, 1), (8, .iload_n 3, 1), (9, .bipush 8, 2), (11, .if_icmp .ge 12, 3), (14, .iload_n 1, 1), (15, .ifCond .lt 8, 3), (18, .iload_n 1, 1), (19, .iconst 4, 1), (20, .if_icmp .lt 5, 3), (23, .iconst 3, 1), (24, .ireturn, 1), (25, .aload_n 0, 1), (26, .getfield 12, 3), (29, .getfield 64, 3), (32, .iload_n 2, 1), (33, .invokevirtual 72, 3), (36, .istore 4, 2), (38, .aload_n 0, 1), (39, .iload_n 1, 1), (40, .iload 4, 2), (42, .invokevirtual 76, 3), (45, .istore 5, 2), (47, .iload 5, 2), (49, .ifCond .eq 6, 3), (52, .iload 5, 2), (54, .ireturn, 1), (55, .aload_n 0, 1), (56, .getfield 12, 3), (59, .getfield 79, 3), (62, .iload_n 3, 1), (63, .iload_n 1, 1), (64, .iastore, 1), (65, .aload_n 0, 1), (66, .getfield 12, 3), (69, .getfield 61, 3), (72, .iload_n 3, 1), (73, .iload_n 2, 1), (74, .iastore, 1), (75, .aload_n 0, 1), (76, .getfield 12, 3), (79, .getfield 40, 3), (82, .iload_n 3, 1), (83, .iload 4, 2), (85, .iastore, 1), (86, .aload_n 0, 1), (87, .getfield 12, 3), (90, .getfield 43, 3), (93, .iload_n 3, 1), (94, .iload 4, 2), (96, .iastore, 1), (97, .aload_n 0, 1), (98, .getfield 12, 3), (101, .getfield 82, 3), (104, .iload_n 3, 1), (105, .iconst 0, 1), (106, .iastore, 1), (107, .aload_n 0, 1), (108, .getfield 12, 3), (111, .getfield 85, 3), (114, .iload_n 3, 1), (115, .iconst 0, 1), (116, .iastore, 1), (117, .aload_n 0, 1), (118, .getfield 12, 3), (121, .dup, 1), (122, .getfield 36, 3), (125, .iconst 1, 1), (126, .iadd, 1), (127, .putfield 36, 3), (130, .iconst 0, 1), (131, .ireturn, 1)]
set_option maxRecDepth 100000 in
theorem d_Tw_bringSign : decA cX8_bringSign I_Tw_bringSign = true := by decide +kernel
abbrev rm_Tw_bringSign : Room := ({ frames := 4, cells := 0, slots := 0, locals := 98 } : Room)
def m_Tw_bringSign (u : Nat) (p0 : Int32) (p1 : Int32) (M : KMem) : Option (Int32 × KMem) :=
 if 8 ≤ (M (u + 1) 1) then
 (some (3, M))
 else
 (if p0 < 0 then
 (some (3, M))
 else
 (if p0 < 4 then
 (Option.bind (m_De_spellingOf (u + 2) p1 M) fun x5 =>
 Option.bind (m_Tw_reasonAgainstSign u p0 x5 M) fun x7 =>
 if x7 = 0 then
 (Option.bind (wrI M (u + 4) 8 (M (u + 1) 1) p0) fun M10 =>
 Option.bind (wrI M10 (u + 5) 8 (M (u + 1) 1) p1) fun M12 =>
 Option.bind (wrI M12 (u + 6) 8 (M (u + 1) 1) x5) fun M14 =>
 Option.bind (wrI M14 (u + 7) 8 (M (u + 1) 1) x5) fun M16 =>
 Option.bind (wrI M16 (u + 8) 8 (M (u + 1) 1) 0) fun M18 =>
 Option.bind (wrI M18 (u + 9) 8 (M (u + 1) 1) 0) fun M20 =>
 Option.bind (some (kup M20 (u + 1) 1 ((M20 (u + 1) 1) + 1))) fun M22 =>
 some (0, M22))
 else
 (some (x7, M)))
 else
 (some (3, M))))
set_option maxHeartbeats 4000000 in
set_option maxRecDepth 100000 in
theorem b_Tw_bringSign {X : KX} {B : KB} {L : KLay} {M : KMem} {u : Nat} {p0 : Int32} {p1 : Int32} (G : Good X B RX8 cX8_bringSign 6 rm_Tw_bringSign) (hu : okL L u twT) (h : kOk (m_Tw_bringSign u p0 p1 M) (fun r => RI X B L 6 cX8_bringSign .int rm_Tw_bringSign r.1 r.2)) : KK X B L 6 0 0 M 0 [(0, .ref (B.1 + u)), (1, .int p0), (2, .int p1)] [] := by
  unfold m_Tw_bringSign at h
  refine k_aload_n G (dc d_Tw_bringSign 0 rfl) 0 rfl rfl ?_
  refine k_getR G kc6 (dc d_Tw_bringSign 1 rfl) (okL_lt hu (o := 0) 0 rfl) (okL_k hu (o := 0) 0 rfl) 0 (by decide) rfl fl_RX8_12 (u + 1) (okL_r hu (o := 0) (c := 1) 0 rfl 0 rfl) ?_
  refine k_getI G kc5 (dc d_Tw_bringSign 2 rfl) (okL_lt hu (o := 1) 1 rfl) (okL_k hu (o := 1) 1 rfl) 1 (by decide) rfl fl_RX8_36 ?_
  refine k_istore_n G (dc d_Tw_bringSign 3 rfl) (ls' := [(3, .int (M (u + 1) 1)), (0, .ref (B.1 + u)), (1, .int p0), (2, .int p1)]) rfl rfl rfl ?_
  refine k_iload_n G (dc d_Tw_bringSign 4 rfl) 0 rfl rfl ?_
  refine k_bipush G (dc d_Tw_bringSign 5 rfl) cB_8 ?_
  refine k_icmp_ge G (dc d_Tw_bringSign 6 rfl) (tgt := 23) rfl (fun c1 => ?_) (fun c1 => ?_)
  · replace h := kOk_p c1 h
    refine k_iconst G (dc d_Tw_bringSign 12 rfl) cI_3 ?_
    exact (kOk_s h) _ _ _ _ rfl rfl rfl (dc d_Tw_bringSign 13 rfl)
  · replace h := kOk_n c1 h
    refine k_iload_n G (dc d_Tw_bringSign 7 rfl) 2 rfl rfl ?_
    refine k_if_lt G (dc d_Tw_bringSign 8 rfl) (tgt := 23) rfl (fun c2 => ?_) (fun c2 => ?_)
    · replace h := kOk_p c2 h
      refine k_iconst G (dc d_Tw_bringSign 12 rfl) cI_3 ?_
      exact (kOk_s h) _ _ _ _ rfl rfl rfl (dc d_Tw_bringSign 13 rfl)
    · replace h := kOk_n c2 h
      refine k_iload_n G (dc d_Tw_bringSign 9 rfl) 2 rfl rfl ?_
      refine k_iconst G (dc d_Tw_bringSign 10 rfl) cI_4 ?_
      refine k_icmp_lt G (dc d_Tw_bringSign 11 rfl) (tgt := 25) rfl (fun c3 => ?_) (fun c3 => ?_)
      · replace h := kOk_p c3 h
        refine k_aload_n G (dc d_Tw_bringSign 14 rfl) 1 rfl rfl ?_
        refine k_getR G kc6 (dc d_Tw_bringSign 15 rfl) (okL_lt hu (o := 0) 0 rfl) (okL_k hu (o := 0) 0 rfl) 0 (by decide) rfl fl_RX8_12 (u + 1) (okL_r hu (o := 0) (c := 1) 0 rfl 0 rfl) ?_
        refine k_getR G kc5 (dc d_Tw_bringSign 16 rfl) (okL_lt hu (o := 1) 1 rfl) (okL_k hu (o := 1) 1 rfl) 0 (by decide) rfl fl_RX8_64 (u + 2) (okL_r hu (o := 1) (c := 2) 1 rfl 0 rfl) ?_
        refine k_iload_n G (dc d_Tw_bringSign 17 rfl) 3 rfl rfl ?_
        obtain ⟨x5, e4, h⟩ := kOk_b h
        refine k_cVI G (dc d_Tw_bringSign 18 rfl) kc0 (okL_lt hu (o := 2) 2 rfl) (okL_k hu (o := 2) 2 rfl) mi_De_spellingOf mv_De_spellingOf rfl ml_RX8_72 (c_De_spellingOf (gst G) (okL_sub hu 2 (by decide +kernel)) e4) rfl rfl ⟨rfl, rfl⟩ rfl ⟨rfl, rfl⟩ ⟨rfl, rfl⟩ ?_
        refine k_istore G (dc d_Tw_bringSign 19 rfl) (ls' := [(4, .int x5), (3, .int (M (u + 1) 1)), (0, .ref (B.1 + u)), (1, .int p0), (2, .int p1)]) rfl rfl ?_
        refine k_aload_n G (dc d_Tw_bringSign 20 rfl) 2 rfl rfl ?_
        refine k_iload_n G (dc d_Tw_bringSign 21 rfl) 3 rfl rfl ?_
        refine k_iload G (dc d_Tw_bringSign 22 rfl) 0 rfl ?_
        obtain ⟨x7, e6, h⟩ := kOk_b h
        refine k_cVI G (dc d_Tw_bringSign 23 rfl) kc6 (okL_lt hu (o := 0) 0 rfl) (okL_k hu (o := 0) 0 rfl) mi_Tw_reasonAgainstSign mv_Tw_reasonAgainstSign rfl ml_RX8_76 (c_Tw_reasonAgainstSign (gst G) hu e6) rfl rfl ⟨rfl, rfl⟩ rfl ⟨rfl, rfl⟩ ⟨rfl, rfl⟩ ?_
        refine k_istore G (dc d_Tw_bringSign 24 rfl) (ls' := [(5, .int x7), (4, .int x5), (3, .int (M (u + 1) 1)), (0, .ref (B.1 + u)), (1, .int p0), (2, .int p1)]) rfl rfl ?_
        refine k_iload G (dc d_Tw_bringSign 25 rfl) 0 rfl ?_
        refine k_if_eq G (dc d_Tw_bringSign 26 rfl) (tgt := 55) rfl (fun c8 => ?_) (fun c8 => ?_)
        · replace h := kOk_p c8 h
          refine k_aload_n G (dc d_Tw_bringSign 29 rfl) 3 rfl rfl ?_
          refine k_getR G kc6 (dc d_Tw_bringSign 30 rfl) (okL_lt hu (o := 0) 0 rfl) (okL_k hu (o := 0) 0 rfl) 0 (by decide) rfl fl_RX8_12 (u + 1) (okL_r hu (o := 0) (c := 1) 0 rfl 0 rfl) ?_
          refine k_getR G kc5 (dc d_Tw_bringSign 31 rfl) (okL_lt hu (o := 1) 1 rfl) (okL_k hu (o := 1) 1 rfl) 2 (by decide) rfl fl_RX8_79 (u + 4) (okL_r hu (o := 1) (c := 4) 1 rfl 1 rfl) ?_
          refine k_iload_n G (dc d_Tw_bringSign 32 rfl) 2 rfl rfl ?_
          refine k_iload_n G (dc d_Tw_bringSign 33 rfl) 4 rfl rfl ?_
          obtain ⟨M10, e9, h⟩ := kOk_b h
          refine k_ist G (dc d_Tw_bringSign 34 rfl) (okL_lt hu (o := 4) 4 rfl) (okL_k hu (o := 4) 4 rfl) (okL_n hu (o := 4) 4 rfl) e9 ?_
          refine k_aload_n G (dc d_Tw_bringSign 35 rfl) 3 rfl rfl ?_
          refine k_getR G kc6 (dc d_Tw_bringSign 36 rfl) (okL_lt hu (o := 0) 0 rfl) (okL_k hu (o := 0) 0 rfl) 0 (by decide) rfl fl_RX8_12 (u + 1) (okL_r hu (o := 0) (c := 1) 0 rfl 0 rfl) ?_
          refine k_getR G kc5 (dc d_Tw_bringSign 37 rfl) (okL_lt hu (o := 1) 1 rfl) (okL_k hu (o := 1) 1 rfl) 3 (by decide) rfl fl_RX8_61 (u + 5) (okL_r hu (o := 1) (c := 5) 1 rfl 2 rfl) ?_
          refine k_iload_n G (dc d_Tw_bringSign 38 rfl) 2 rfl rfl ?_
          refine k_iload_n G (dc d_Tw_bringSign 39 rfl) 5 rfl rfl ?_
          obtain ⟨M12, e11, h⟩ := kOk_b h
          refine k_ist G (dc d_Tw_bringSign 40 rfl) (okL_lt hu (o := 5) 5 rfl) (okL_k hu (o := 5) 5 rfl) (okL_n hu (o := 5) 5 rfl) e11 ?_
          refine k_aload_n G (dc d_Tw_bringSign 41 rfl) 3 rfl rfl ?_
          refine k_getR G kc6 (dc d_Tw_bringSign 42 rfl) (okL_lt hu (o := 0) 0 rfl) (okL_k hu (o := 0) 0 rfl) 0 (by decide) rfl fl_RX8_12 (u + 1) (okL_r hu (o := 0) (c := 1) 0 rfl 0 rfl) ?_
          refine k_getR G kc5 (dc d_Tw_bringSign 43 rfl) (okL_lt hu (o := 1) 1 rfl) (okL_k hu (o := 1) 1 rfl) 4 (by decide) rfl fl_RX8_40 (u + 6) (okL_r hu (o := 1) (c := 6) 1 rfl 3 rfl) ?_
          refine k_iload_n G (dc d_Tw_bringSign 44 rfl) 2 rfl rfl ?_
          refine k_iload G (dc d_Tw_bringSign 45 rfl) 1 rfl ?_
          obtain ⟨M14, e13, h⟩ := kOk_b h
          refine k_ist G (dc d_Tw_bringSign 46 rfl) (okL_lt hu (o := 6) 6 rfl) (okL_k hu (o := 6) 6 rfl) (okL_n hu (o := 6) 6 rfl) e13 ?_
          refine k_aload_n G (dc d_Tw_bringSign 47 rfl) 3 rfl rfl ?_
          refine k_getR G kc6 (dc d_Tw_bringSign 48 rfl) (okL_lt hu (o := 0) 0 rfl) (okL_k hu (o := 0) 0 rfl) 0 (by decide) rfl fl_RX8_12 (u + 1) (okL_r hu (o := 0) (c := 1) 0 rfl 0 rfl) ?_
          refine k_getR G kc5 (dc d_Tw_bringSign 49 rfl) (okL_lt hu (o := 1) 1 rfl) (okL_k hu (o := 1) 1 rfl) 5 (by decide) rfl fl_RX8_43 (u + 7) (okL_r hu (o := 1) (c := 7) 1 rfl 4 rfl) ?_
          refine k_iload_n G (dc d_Tw_bringSign 50 rfl) 2 rfl rfl ?_
          refine k_iload G (dc d_Tw_bringSign 51 rfl) 1 rfl ?_
          obtain ⟨M16, e15, h⟩ := kOk_b h
          refine k_ist G (dc d_Tw_bringSign 52 rfl) (okL_lt hu (o := 7) 7 rfl) (okL_k hu (o := 7) 7 rfl) (okL_n hu (o := 7) 7 rfl) e15 ?_
          refine k_aload_n G (dc d_Tw_bringSign 53 rfl) 3 rfl rfl ?_
          refine k_getR G kc6 (dc d_Tw_bringSign 54 rfl) (okL_lt hu (o := 0) 0 rfl) (okL_k hu (o := 0) 0 rfl) 0 (by decide) rfl fl_RX8_12 (u + 1) (okL_r hu (o := 0) (c := 1) 0 rfl 0 rfl) ?_
          refine k_getR G kc5 (dc d_Tw_bringSign 55 rfl) (okL_lt hu (o := 1) 1 rfl) (okL_k hu (o := 1) 1 rfl) 6 (by decide) rfl fl_RX8_82 (u + 8) (okL_r hu (o := 1) (c := 8) 1 rfl 5 rfl) ?_
          refine k_iload_n G (dc d_Tw_bringSign 56 rfl) 2 rfl rfl ?_
          refine k_iconst G (dc d_Tw_bringSign 57 rfl) cI_0 ?_
          obtain ⟨M18, e17, h⟩ := kOk_b h
          refine k_ist G (dc d_Tw_bringSign 58 rfl) (okL_lt hu (o := 8) 8 rfl) (okL_k hu (o := 8) 8 rfl) (okL_n hu (o := 8) 8 rfl) e17 ?_
          refine k_aload_n G (dc d_Tw_bringSign 59 rfl) 3 rfl rfl ?_
          refine k_getR G kc6 (dc d_Tw_bringSign 60 rfl) (okL_lt hu (o := 0) 0 rfl) (okL_k hu (o := 0) 0 rfl) 0 (by decide) rfl fl_RX8_12 (u + 1) (okL_r hu (o := 0) (c := 1) 0 rfl 0 rfl) ?_
          refine k_getR G kc5 (dc d_Tw_bringSign 61 rfl) (okL_lt hu (o := 1) 1 rfl) (okL_k hu (o := 1) 1 rfl) 7 (by decide) rfl fl_RX8_85 (u + 9) (okL_r hu (o := 1) (c := 9) 1 rfl 6 rfl) ?_
          refine k_iload_n G (dc d_Tw_bringSign 62 rfl) 2 rfl rfl ?_
          refine k_iconst G (dc d_Tw_bringSign 63 rfl) cI_0 ?_
          obtain ⟨M20, e19, h⟩ := kOk_b h
          refine k_ist G (dc d_Tw_bringSign 64 rfl) (okL_lt hu (o := 9) 9 rfl) (okL_k hu (o := 9) 9 rfl) (okL_n hu (o := 9) 9 rfl) e19 ?_
          refine k_aload_n G (dc d_Tw_bringSign 65 rfl) 3 rfl rfl ?_
          refine k_getR G kc6 (dc d_Tw_bringSign 66 rfl) (okL_lt hu (o := 0) 0 rfl) (okL_k hu (o := 0) 0 rfl) 0 (by decide) rfl fl_RX8_12 (u + 1) (okL_r hu (o := 0) (c := 1) 0 rfl 0 rfl) ?_
          refine k_dup G (dc d_Tw_bringSign 67 rfl) rfl ?_
          refine k_getI G kc5 (dc d_Tw_bringSign 68 rfl) (okL_lt hu (o := 1) 1 rfl) (okL_k hu (o := 1) 1 rfl) 1 (by decide) rfl fl_RX8_36 ?_
          refine k_iconst G (dc d_Tw_bringSign 69 rfl) cI_1 ?_
          refine k_iadd G (dc d_Tw_bringSign 70 rfl) ?_
          obtain ⟨M22, e21, h⟩ := kOk_b h
          refine k_putI G kc5 (dc d_Tw_bringSign 71 rfl) (okL_lt hu (o := 1) 1 rfl) (okL_k hu (o := 1) 1 rfl) 1 (by decide) rfl rfl fl_RX8_36 rfl rfl e21 ?_
          refine k_iconst G (dc d_Tw_bringSign 72 rfl) cI_0 ?_
          exact (kOk_s h) _ _ _ _ rfl rfl rfl (dc d_Tw_bringSign 73 rfl)
        · replace h := kOk_n c8 h
          refine k_iload G (dc d_Tw_bringSign 27 rfl) 0 rfl ?_
          exact (kOk_s h) _ _ _ _ rfl rfl rfl (dc d_Tw_bringSign 28 rfl)
      · replace h := kOk_n c3 h
        refine k_iconst G (dc d_Tw_bringSign 12 rfl) cI_3 ?_
        exact (kOk_s h) _ _ _ _ rfl rfl rfl (dc d_Tw_bringSign 13 rfl)
theorem c_Tw_bringSign {l : Launch} {B : KB} {L : KLay} {M : KMem} {u : Nat} {p0 : Int32} {p1 : Int32} (hst : l.stackTraces = false) (hu : okL L u twT) {r : Int32} {M' : KMem} (e : m_Tw_bringSign u p0 p1 M = some (r, M')) : CtrN l B yX8_bringSign cX8_bringSign 6 (some .int) rm_Tw_bringSign [.ref (B.1 + u), .int p0, .int p1] L M (some (.int r)) L M' :=
  mk_I rfl hst rfl (fun X hl G _ R => b_Tw_bringSign G hu ⟨_, e, R⟩)
def I_Tw_spelled : List (Nat × Instr × Nat) := [(0, .aload_n 0, 1), (1, .iload_n 1, 1), (2, .invokevirtual 57, 3), (5, .ifCond .ne 5, 3), (8, .iconst 0, 1), (9, .ireturn, 1), (10, .aload_n 0, 1), (11, .getfield 12, 3), (14, .getfield 61, 3), (17, .iload_n 1, 1), (18, .iaload, 1), (19, .istore_n 3, 1), (20, .iload_n 2, 1), (21, .ifCond .eq 21, 3), (24, .aload_n 0, 1), (25, .getfield 28, 3), (28, .aload_n 0, 1), (29, .getfield 12, 3), (32, .getfield 64, 3), (35, .iload_n 3, 1), (36, .invokevirtual 68, 3), (39, .goto 14, 3), (42, .aload_n 0, 1), (43, .getfield 12, 3), (46, .getfield 64, 3), (49, .iload_n 3, 1), (50, .invokevirtual 72, 3), (53, .ireturn, 1)]
set_option maxRecDepth 100000 in
theorem d_Tw_spelled : decA cX8_spelled I_Tw_spelled = true := by decide +kernel
abbrev rm_Tw_spelled : Room := ({ frames := 6, cells := 0, slots := 0, locals := 145 } : Room)
def m_Tw_spelled (u : Nat) (p0 : Int32) (p1 : Int32) (M : KMem) : Option (Int32 × KMem) :=
 Option.bind (m_Tw_hasSign u p0 M) fun x2 =>
 if x2 = 0 then
 (some (0, M))
 else
 (Option.bind (rdI M (u + 5) 8 p0) fun x5 =>
 Option.bind (α := Int32 × KMem) (if p1 = 0 then
 (Option.bind (m_De_spellingOf (u + 2) x5 M) fun x11 =>
 some (x11, M))
 else
 (Option.bind (m_Fl_spellingOf (u + 15) (u + 2) x5 M) fun (x13, M14) =>
 some (x13, M14))) fun (t6, M7) =>
 some (t6, M7))
set_option maxHeartbeats 4000000 in
set_option maxRecDepth 100000 in
theorem b_Tw_spelled {X : KX} {B : KB} {L : KLay} {M : KMem} {u : Nat} {p0 : Int32} {p1 : Int32} (G : Good X B RX8 cX8_spelled 4 rm_Tw_spelled) (hu : okL L u twT) (h : kOk (m_Tw_spelled u p0 p1 M) (fun r => RI X B L 4 cX8_spelled .int rm_Tw_spelled r.1 r.2)) : KK X B L 4 0 0 M 0 [(0, .ref (B.1 + u)), (1, .int p0), (2, .int p1)] [] := by
  unfold m_Tw_spelled at h
  refine k_aload_n G (dc d_Tw_spelled 0 rfl) 0 rfl rfl ?_
  refine k_iload_n G (dc d_Tw_spelled 1 rfl) 1 rfl rfl ?_
  obtain ⟨x2, e1, h⟩ := kOk_b h
  refine k_cVI G (dc d_Tw_spelled 2 rfl) kc6 (okL_lt hu (o := 0) 0 rfl) (okL_k hu (o := 0) 0 rfl) mi_Tw_hasSign mv_Tw_hasSign rfl ml_RX8_57 (c_Tw_hasSign (gst G) hu e1) rfl rfl ⟨rfl, rfl⟩ rfl ⟨rfl, rfl⟩ ⟨rfl, rfl⟩ ?_
  refine k_if_ne G (dc d_Tw_spelled 3 rfl) (tgt := 10) rfl (fun c3 => ?_) (fun c3 => ?_)
  · replace h := kOk_n c3 h
    refine k_aload_n G (dc d_Tw_spelled 6 rfl) 0 rfl rfl ?_
    refine k_getR G kc6 (dc d_Tw_spelled 7 rfl) (okL_lt hu (o := 0) 0 rfl) (okL_k hu (o := 0) 0 rfl) 0 (by decide) rfl fl_RX8_12 (u + 1) (okL_r hu (o := 0) (c := 1) 0 rfl 0 rfl) ?_
    refine k_getR G kc5 (dc d_Tw_spelled 8 rfl) (okL_lt hu (o := 1) 1 rfl) (okL_k hu (o := 1) 1 rfl) 3 (by decide) rfl fl_RX8_61 (u + 5) (okL_r hu (o := 1) (c := 5) 1 rfl 2 rfl) ?_
    refine k_iload_n G (dc d_Tw_spelled 9 rfl) 1 rfl rfl ?_
    obtain ⟨x5, e4, h⟩ := kOk_b h
    refine k_ild G (dc d_Tw_spelled 10 rfl) (okL_lt hu (o := 5) 5 rfl) (okL_k hu (o := 5) 5 rfl) (okL_n hu (o := 5) 5 rfl) e4 ?_
    refine k_istore_n G (dc d_Tw_spelled 11 rfl) (ls' := [(3, .int x5), (0, .ref (B.1 + u)), (1, .int p0), (2, .int p1)]) rfl rfl rfl ?_
    refine k_iload_n G (dc d_Tw_spelled 12 rfl) 3 rfl rfl ?_
    refine kJ h (fun r8 => KK X B L 4 0 0 r8.2 53 [] [.int r8.1]) (fun r8 h => ?_) (fun h => ?_)
    · obtain ⟨t6, M7⟩ := r8
      show KK X B L 4 0 0 M7 53 [] [.int t6]
      exact (kOk_s h) _ _ _ _ rfl rfl rfl (dc d_Tw_spelled 27 rfl)
    · refine k_if_eq G (dc d_Tw_spelled 13 rfl) (tgt := 42) rfl (fun c9 => ?_) (fun c9 => ?_)
      · replace h := kOk_p c9 h
        refine k_aload_n G (dc d_Tw_spelled 22 rfl) 1 rfl rfl ?_
        refine k_getR G kc6 (dc d_Tw_spelled 23 rfl) (okL_lt hu (o := 0) 0 rfl) (okL_k hu (o := 0) 0 rfl) 0 (by decide) rfl fl_RX8_12 (u + 1) (okL_r hu (o := 0) (c := 1) 0 rfl 0 rfl) ?_
        refine k_getR G kc5 (dc d_Tw_spelled 24 rfl) (okL_lt hu (o := 1) 1 rfl) (okL_k hu (o := 1) 1 rfl) 0 (by decide) rfl fl_RX8_64 (u + 2) (okL_r hu (o := 1) (c := 2) 1 rfl 0 rfl) ?_
        refine k_iload_n G (dc d_Tw_spelled 25 rfl) 0 rfl rfl ?_
        obtain ⟨x11, e10, h⟩ := kOk_b h
        refine k_cVI G (dc d_Tw_spelled 26 rfl) kc0 (okL_lt hu (o := 2) 2 rfl) (okL_k hu (o := 2) 2 rfl) mi_De_spellingOf mv_De_spellingOf rfl ml_RX8_72 (c_De_spellingOf (gst G) (okL_sub hu 2 (by decide +kernel)) e10) rfl rfl ⟨rfl, rfl⟩ rfl ⟨rfl, rfl⟩ ⟨rfl, rfl⟩ ?_
        refine k_sub [] rfl ?_
        have h9 := kOk_s h
        exact h9
      · replace h := kOk_n c9 h
        refine k_aload_n G (dc d_Tw_spelled 14 rfl) 1 rfl rfl ?_
        refine k_getR G kc6 (dc d_Tw_spelled 15 rfl) (okL_lt hu (o := 0) 0 rfl) (okL_k hu (o := 0) 0 rfl) 2 (by decide) rfl fl_RX8_28 (u + 15) (okL_r hu (o := 0) (c := 15) 0 rfl 2 rfl) ?_
        refine k_aload_n G (dc d_Tw_spelled 16 rfl) 1 rfl rfl ?_
        refine k_getR G kc6 (dc d_Tw_spelled 17 rfl) (okL_lt hu (o := 0) 0 rfl) (okL_k hu (o := 0) 0 rfl) 0 (by decide) rfl fl_RX8_12 (u + 1) (okL_r hu (o := 0) (c := 1) 0 rfl 0 rfl) ?_
        refine k_getR G kc5 (dc d_Tw_spelled 18 rfl) (okL_lt hu (o := 1) 1 rfl) (okL_k hu (o := 1) 1 rfl) 0 (by decide) rfl fl_RX8_64 (u + 2) (okL_r hu (o := 1) (c := 2) 1 rfl 0 rfl) ?_
        refine k_iload_n G (dc d_Tw_spelled 19 rfl) 0 rfl rfl ?_
        obtain ⟨⟨x13, M14⟩, e12, h⟩ := kOk_b h
        refine k_cVI G (dc d_Tw_spelled 20 rfl) kc1 (okL_lt hu (o := 15) 15 rfl) (okL_k hu (o := 15) 15 rfl) mi_Fl_spellingOf mv_Fl_spellingOf rfl ml_RX8_68 (c_Fl_spellingOf (gst G) (okL_sub hu 15 (by decide +kernel)) (okL_sub hu 2 (by decide +kernel)) e12) rfl rfl ⟨rfl, rfl⟩ rfl ⟨rfl, rfl⟩ ⟨rfl, rfl⟩ ?_
        refine k_goto G (dc d_Tw_spelled 21 rfl) (tgt := 53) rfl ?_
        refine k_sub [] rfl ?_
        have h9 := kOk_s h
        exact h9
  · replace h := kOk_p c3 h
    refine k_iconst G (dc d_Tw_spelled 4 rfl) cI_0 ?_
    exact (kOk_s h) _ _ _ _ rfl rfl rfl (dc d_Tw_spelled 5 rfl)
theorem c_Tw_spelled {l : Launch} {B : KB} {L : KLay} {M : KMem} {u : Nat} {p0 : Int32} {p1 : Int32} (hst : l.stackTraces = false) (hu : okL L u twT) {r : Int32} {M' : KMem} (e : m_Tw_spelled u p0 p1 M = some (r, M')) : CtrN l B yX8_spelled cX8_spelled 4 (some .int) rm_Tw_spelled [.ref (B.1 + u), .int p0, .int p1] L M (some (.int r)) L M' :=
  mk_I rfl hst rfl (fun X hl G _ R => b_Tw_spelled G hu ⟨_, e, R⟩)
def I_Tw_spellingsApart : List (Nat × Instr × Nat) := [(0, .aload_n 0, 1), (1, .iload_n 1, 1), (2, .invokevirtual 57, 3), (5, .ifCond .eq 11, 3), (8, .aload_n 0, 1), (9, .iload_n 2, 1), (10, .invokevirtual 57, 3), (13, .ifCond .ne 5, 3), (16, .iconst 0, 1), (17, .ireturn, 1), (18, .aload_n 0, 1), (19, .getfield 21, 3), (22, .aload_n 0, 1), (23, .getfield 12, 3), (26, .getfield 43, 3), (29, .iload_n 1, 1), (30, .iaload, 1), (31, .aload_n 0, 1), (32, .getfield 12, 3), (35, .getfield 43, 3), (38, .iload_n 2, 1), (39, .iaload, 1), (40, .invokevirtual 46, 3), (43, .ireturn, 1)]
set_option maxRecDepth 100000 in
theorem d_Tw_spellingsApart : decA cX8_spellingsApart I_Tw_spellingsApart = true := by decide +kernel
abbrev rm_Tw_spellingsApart : Room := ({ frames := 3, cells := 0, slots := 0, locals := 71 } : Room)
def m_Tw_spellingsApart (u : Nat) (p0 : Int32) (p1 : Int32) (M : KMem) : Option (Int32 × KMem) :=
 Option.bind (m_Tw_hasSign u p0 M) fun x2 =>
 if x2 = 0 then
 (some (0, M))
 else
 (Option.bind (m_Tw_hasSign u p1 M) fun x5 =>
 if x5 = 0 then
 (some (0, M))
 else
 (Option.bind (rdI M (u + 7) 8 p0) fun x8 =>
 Option.bind (rdI M (u + 7) 8 p1) fun x10 =>
 Option.bind (m_Ru_measured (u + 13) x8 x10 M) fun (x12, M13) =>
 some (x12, M13)))
set_option maxHeartbeats 4000000 in
set_option maxRecDepth 100000 in
theorem b_Tw_spellingsApart {X : KX} {B : KB} {L : KLay} {M : KMem} {u : Nat} {p0 : Int32} {p1 : Int32} (G : Good X B RX8 cX8_spellingsApart 3 rm_Tw_spellingsApart) (hu : okL L u twT) (h : kOk (m_Tw_spellingsApart u p0 p1 M) (fun r => RI X B L 3 cX8_spellingsApart .int rm_Tw_spellingsApart r.1 r.2)) : KK X B L 3 0 0 M 0 [(0, .ref (B.1 + u)), (1, .int p0), (2, .int p1)] [] := by
  unfold m_Tw_spellingsApart at h
  refine k_aload_n G (dc d_Tw_spellingsApart 0 rfl) 0 rfl rfl ?_
  refine k_iload_n G (dc d_Tw_spellingsApart 1 rfl) 1 rfl rfl ?_
  obtain ⟨x2, e1, h⟩ := kOk_b h
  refine k_cVI G (dc d_Tw_spellingsApart 2 rfl) kc6 (okL_lt hu (o := 0) 0 rfl) (okL_k hu (o := 0) 0 rfl) mi_Tw_hasSign mv_Tw_hasSign rfl ml_RX8_57 (c_Tw_hasSign (gst G) hu e1) rfl rfl ⟨rfl, rfl⟩ rfl ⟨rfl, rfl⟩ ⟨rfl, rfl⟩ ?_
  refine k_if_eq G (dc d_Tw_spellingsApart 3 rfl) (tgt := 16) rfl (fun c3 => ?_) (fun c3 => ?_)
  · replace h := kOk_p c3 h
    refine k_iconst G (dc d_Tw_spellingsApart 8 rfl) cI_0 ?_
    exact (kOk_s h) _ _ _ _ rfl rfl rfl (dc d_Tw_spellingsApart 9 rfl)
  · replace h := kOk_n c3 h
    refine k_aload_n G (dc d_Tw_spellingsApart 4 rfl) 0 rfl rfl ?_
    refine k_iload_n G (dc d_Tw_spellingsApart 5 rfl) 2 rfl rfl ?_
    obtain ⟨x5, e4, h⟩ := kOk_b h
    refine k_cVI G (dc d_Tw_spellingsApart 6 rfl) kc6 (okL_lt hu (o := 0) 0 rfl) (okL_k hu (o := 0) 0 rfl) mi_Tw_hasSign mv_Tw_hasSign rfl ml_RX8_57 (c_Tw_hasSign (gst G) hu e4) rfl rfl ⟨rfl, rfl⟩ rfl ⟨rfl, rfl⟩ ⟨rfl, rfl⟩ ?_
    refine k_if_ne G (dc d_Tw_spellingsApart 7 rfl) (tgt := 18) rfl (fun c6 => ?_) (fun c6 => ?_)
    · replace h := kOk_n c6 h
      refine k_aload_n G (dc d_Tw_spellingsApart 10 rfl) 0 rfl rfl ?_
      refine k_getR G kc6 (dc d_Tw_spellingsApart 11 rfl) (okL_lt hu (o := 0) 0 rfl) (okL_k hu (o := 0) 0 rfl) 1 (by decide) rfl fl_RX8_21 (u + 13) (okL_r hu (o := 0) (c := 13) 0 rfl 1 rfl) ?_
      refine k_aload_n G (dc d_Tw_spellingsApart 12 rfl) 0 rfl rfl ?_
      refine k_getR G kc6 (dc d_Tw_spellingsApart 13 rfl) (okL_lt hu (o := 0) 0 rfl) (okL_k hu (o := 0) 0 rfl) 0 (by decide) rfl fl_RX8_12 (u + 1) (okL_r hu (o := 0) (c := 1) 0 rfl 0 rfl) ?_
      refine k_getR G kc5 (dc d_Tw_spellingsApart 14 rfl) (okL_lt hu (o := 1) 1 rfl) (okL_k hu (o := 1) 1 rfl) 5 (by decide) rfl fl_RX8_43 (u + 7) (okL_r hu (o := 1) (c := 7) 1 rfl 4 rfl) ?_
      refine k_iload_n G (dc d_Tw_spellingsApart 15 rfl) 1 rfl rfl ?_
      obtain ⟨x8, e7, h⟩ := kOk_b h
      refine k_ild G (dc d_Tw_spellingsApart 16 rfl) (okL_lt hu (o := 7) 7 rfl) (okL_k hu (o := 7) 7 rfl) (okL_n hu (o := 7) 7 rfl) e7 ?_
      refine k_aload_n G (dc d_Tw_spellingsApart 17 rfl) 0 rfl rfl ?_
      refine k_getR G kc6 (dc d_Tw_spellingsApart 18 rfl) (okL_lt hu (o := 0) 0 rfl) (okL_k hu (o := 0) 0 rfl) 0 (by decide) rfl fl_RX8_12 (u + 1) (okL_r hu (o := 0) (c := 1) 0 rfl 0 rfl) ?_
      refine k_getR G kc5 (dc d_Tw_spellingsApart 19 rfl) (okL_lt hu (o := 1) 1 rfl) (okL_k hu (o := 1) 1 rfl) 5 (by decide) rfl fl_RX8_43 (u + 7) (okL_r hu (o := 1) (c := 7) 1 rfl 4 rfl) ?_
      refine k_iload_n G (dc d_Tw_spellingsApart 20 rfl) 2 rfl rfl ?_
      obtain ⟨x10, e9, h⟩ := kOk_b h
      refine k_ild G (dc d_Tw_spellingsApart 21 rfl) (okL_lt hu (o := 7) 7 rfl) (okL_k hu (o := 7) 7 rfl) (okL_n hu (o := 7) 7 rfl) e9 ?_
      obtain ⟨⟨x12, M13⟩, e11, h⟩ := kOk_b h
      refine k_cVI G (dc d_Tw_spellingsApart 22 rfl) kc4 (okL_lt hu (o := 13) 13 rfl) (okL_k hu (o := 13) 13 rfl) mi_Ru_measured mv_Ru_measured rfl ml_RX8_46 (c_Ru_measured (gst G) (okL_sub hu 13 (by decide +kernel)) e11) rfl rfl ⟨rfl, rfl⟩ rfl ⟨rfl, rfl⟩ ⟨rfl, rfl⟩ ?_
      exact (kOk_s h) _ _ _ _ rfl rfl rfl (dc d_Tw_spellingsApart 23 rfl)
    · replace h := kOk_p c6 h
      refine k_iconst G (dc d_Tw_spellingsApart 8 rfl) cI_0 ?_
      exact (kOk_s h) _ _ _ _ rfl rfl rfl (dc d_Tw_spellingsApart 9 rfl)
theorem c_Tw_spellingsApart {l : Launch} {B : KB} {L : KLay} {M : KMem} {u : Nat} {p0 : Int32} {p1 : Int32} (hst : l.stackTraces = false) (hu : okL L u twT) {r : Int32} {M' : KMem} (e : m_Tw_spellingsApart u p0 p1 M = some (r, M')) : CtrN l B yX8_spellingsApart cX8_spellingsApart 3 (some .int) rm_Tw_spellingsApart [.ref (B.1 + u), .int p0, .int p1] L M (some (.int r)) L M' :=
  mk_I rfl hst rfl (fun X hl G _ R => b_Tw_spellingsApart G hu ⟨_, e, R⟩)
def I_Tw_counted : List (Nat × Instr × Nat) := [(0, .iload_n 1, 1), (1, .ifCond .eq 16, 3), (4, .aload_n 0, 1), (5, .getfield 12, 3), (8, .dup, 1), (9, .getfield 129, 3), (12, .iconst 1, 1), (13, .iadd, 1), (14, .putfield 129, 3), (17, .iload_n 1, 1), (18, .ireturn, 1)]
set_option maxRecDepth 100000 in
theorem d_Tw_counted : decA cX8_counted I_Tw_counted = true := by decide +kernel
abbrev rm_Tw_counted : Room := ({ frames := 0, cells := 0, slots := 0, locals := 0 } : Room)
def m_Tw_counted (u : Nat) (p0 : Int32) (M : KMem) : Option (Int32 × KMem) :=
 Option.bind (α := KMem) (if p0 = 0 then
 (some M)
 else
 (Option.bind (some (kup M (u + 1) 14 ((M (u + 1) 14) + 1))) fun M5 =>
 some M5)) fun M1 =>
 some (p0, M1)
set_option maxHeartbeats 4000000 in
set_option maxRecDepth 100000 in
theorem b_Tw_counted {X : KX} {B : KB} {L : KLay} {M : KMem} {u : Nat} {p0 : Int32} (G : Good X B RX8 cX8_counted 2 rm_Tw_counted) (hu : okL L u twT) (h : kOk (m_Tw_counted u p0 M) (fun r => RI X B L 2 cX8_counted .int rm_Tw_counted r.1 r.2)) : KK X B L 2 0 0 M 0 [(0, .ref (B.1 + u)), (1, .int p0)] [] := by
  unfold m_Tw_counted at h
  refine k_iload_n G (dc d_Tw_counted 0 rfl) 1 rfl rfl ?_
  refine kJ h (fun r2 => KK X B L 2 0 0 r2 17 [(1, .int p0)] []) (fun r2 h => ?_) (fun h => ?_)
  · obtain ⟨M1, rfl⟩ : ∃ z, z = r2 := ⟨_, rfl⟩
    show KK X B L 2 0 0 M1 17 [(1, .int p0)] []
    refine k_iload_n G (dc d_Tw_counted 9 rfl) 0 rfl rfl ?_
    exact (kOk_s h) _ _ _ _ rfl rfl rfl (dc d_Tw_counted 10 rfl)
  · refine k_if_eq G (dc d_Tw_counted 1 rfl) (tgt := 17) rfl (fun c3 => ?_) (fun c3 => ?_)
    · replace h := kOk_p c3 h
      refine k_sub [1] rfl ?_
      have h9 := kOk_s h
      exact h9
    · replace h := kOk_n c3 h
      refine k_aload_n G (dc d_Tw_counted 2 rfl) 0 rfl rfl ?_
      refine k_getR G kc6 (dc d_Tw_counted 3 rfl) (okL_lt hu (o := 0) 0 rfl) (okL_k hu (o := 0) 0 rfl) 0 (by decide) rfl fl_RX8_12 (u + 1) (okL_r hu (o := 0) (c := 1) 0 rfl 0 rfl) ?_
      refine k_dup G (dc d_Tw_counted 4 rfl) rfl ?_
      refine k_getI G kc5 (dc d_Tw_counted 5 rfl) (okL_lt hu (o := 1) 1 rfl) (okL_k hu (o := 1) 1 rfl) 14 (by decide) rfl fl_RX8_129 ?_
      refine k_iconst G (dc d_Tw_counted 6 rfl) cI_1 ?_
      refine k_iadd G (dc d_Tw_counted 7 rfl) ?_
      obtain ⟨M5, e4, h⟩ := kOk_b h
      refine k_putI G kc5 (dc d_Tw_counted 8 rfl) (okL_lt hu (o := 1) 1 rfl) (okL_k hu (o := 1) 1 rfl) 14 (by decide) rfl rfl fl_RX8_129 rfl rfl e4 ?_
      refine k_sub [1] rfl ?_
      have h9 := kOk_s h
      exact h9
theorem c_Tw_counted {l : Launch} {B : KB} {L : KLay} {M : KMem} {u : Nat} {p0 : Int32} (hst : l.stackTraces = false) (hu : okL L u twT) {r : Int32} {M' : KMem} (e : m_Tw_counted u p0 M = some (r, M')) : CtrN l B yX8_counted cX8_counted 2 (some .int) rm_Tw_counted [.ref (B.1 + u), .int p0] L M (some (.int r)) L M' :=
  mk_I rfl hst rfl (fun X hl G _ R => b_Tw_counted G hu ⟨_, e, R⟩)
def I_Tw_signsPaidBy : List (Nat × Instr × Nat) := [(0, .iload_n 1, 1), (1, .istore_n 2, 1), (2, .iconst 0, 1), (3, .istore_n 3, 1), (4, .iconst 1, 1), (5, .istore 4, 2), (7, .iload 4, 2), (9, .bipush 8, 2), (11, .if_icmp .gt 73, 3), (14, .iload 4, 2), (16, .aload_n 0, 1), (17, .getfield 12, 3), (20, .getfield 54, 3), (23, .iconst 0, 1), (24, .iaload, 1), (25, .imul, 1), (26, .istore 5, 2), (28, .iconst 0, 1), (29, .istore 6, 2), (31, .iload 6, 2), (33, .bipush 8, 2), (35, .if_icmp .ge 43, 3), (38, .aload_n 0, 1), (39, .iload 6, 2), (41, .invokevirtual 57, 3), (44, .ifCond .eq 34, 3), (47, .aload_n 0, 1), (48, .iload 6, 2), (50, .invokevirtual 50, 3), (53, .iload 4, 2), (55, .if_icmp .ne 17, 3), (58, .iload 5, 2), (60, .iload_n 2, 1), (61, .if_icmp .gt 11, 3), (64, .iload_n 2, 1), (65, .iload 5, 2), (67, .isub, 1), (68, .istore_n 2, 1), (69, .iinc 3 1, 3), (72, .iinc 6 1, 3), (75, .goto (-44), 3), (78, .iinc 4 1, 3), (81, .goto (-74), 3), (84, .iload_n 3, 1), (85, .ireturn, 1)]
set_option maxRecDepth 100000 in
theorem d_Tw_signsPaidBy : decA cX8_signsPaidBy I_Tw_signsPaidBy = true := by decide +kernel
abbrev rm_Tw_signsPaidBy : Room := ({ frames := 4, cells := 0, slots := 0, locals := 92 } : Room)
def m_Tw_signsPaidBy_l31 (u : Nat) (v4_3 : Int32) (x7 : Int32) : (Int32 × Int32 × Int32 × KMem) → Option ((Int32 × Int32 × Int32 × KMem) ⊕ (Int32 × Int32 × KMem)) := fun (v2_8, v3_9, v6_10, M11) =>
 if 8 ≤ v6_10 then
 (some (.inr (v2_8, v3_9, M11)))
 else
 (Option.bind (m_Tw_hasSign u v6_10 M11) fun x14 =>
 if x14 = 0 then
 (some (.inr (v2_8, v3_9, M11)))
 else
 (Option.bind (m_Tw_lettersWrong u v6_10 M11) fun (x17, M18) =>
 Option.bind (α := Int32 × Int32) (if x17 = v4_3 then
 (if v2_8 < (v4_3 * x7) then
 (some (v2_8, v3_9))
 else
 (some (v2_8 - (v4_3 * x7), v3_9 + 1)))
 else
 (some (v2_8, v3_9))) fun (v2_19, v3_20) =>
 some (.inl (v2_19, v3_20, v6_10 + 1, M18))))
def m_Tw_signsPaidBy_l7 (u : Nat) : (Int32 × Int32 × Int32 × KMem) → Option ((Int32 × Int32 × Int32 × KMem) ⊕ (Int32 × KMem)) := fun (v2_1, v3_2, v4_3, M4) =>
 if 8 < v4_3 then
 (some (.inr (v3_2, M4)))
 else
 (Option.bind (rdI M4 (u + 12) 2 0) fun x7 =>
 Option.bind (α := Int32 × Int32 × KMem) (kLp (m_Tw_signsPaidBy_l31 u v4_3 x7) kFU (v2_1, v3_2, 0, M4)) fun (v2_24, v3_25, M26) =>
 some (.inl (v2_24, v3_25, v4_3 + 1, M26)))
def m_Tw_signsPaidBy (u : Nat) (p0 : Int32) (M : KMem) : Option (Int32 × KMem) :=
 Option.bind (α := Int32 × KMem) (kLp (m_Tw_signsPaidBy_l7 u) kFU (p0, 0, 1, M)) fun (v3_29, M30) =>
 some (v3_29, M30)
set_option maxHeartbeats 4000000 in
set_option maxRecDepth 100000 in
theorem b_Tw_signsPaidBy {X : KX} {B : KB} {L : KLay} {M : KMem} {u : Nat} {p0 : Int32} (G : Good X B RX8 cX8_signsPaidBy 7 rm_Tw_signsPaidBy) (hu : okL L u twT) (h : kOk (m_Tw_signsPaidBy u p0 M) (fun r => RI X B L 7 cX8_signsPaidBy .int rm_Tw_signsPaidBy r.1 r.2)) : KK X B L 7 0 0 M 0 [(0, .ref (B.1 + u)), (1, .int p0)] [] := by
  unfold m_Tw_signsPaidBy at h
  refine k_iload_n G (dc d_Tw_signsPaidBy 0 rfl) 1 rfl rfl ?_
  refine k_istore_n G (dc d_Tw_signsPaidBy 1 rfl) (ls' := [(2, .int p0), (0, .ref (B.1 + u)), (1, .int p0)]) rfl rfl rfl ?_
  refine k_iconst G (dc d_Tw_signsPaidBy 2 rfl) cI_0 ?_
  refine k_istore_n G (dc d_Tw_signsPaidBy 3 rfl) (ls' := [(3, .int 0), (2, .int p0), (0, .ref (B.1 + u)), (1, .int p0)]) rfl rfl rfl ?_
  refine k_iconst G (dc d_Tw_signsPaidBy 4 rfl) cI_1 ?_
  refine k_istore G (dc d_Tw_signsPaidBy 5 rfl) (ls' := [(4, .int 1), (3, .int 0), (2, .int p0), (0, .ref (B.1 + u)), (1, .int p0)]) rfl rfl ?_
  refine kJ h (fun r31 => KK X B L 7 0 0 r31.2 84 [(3, .int r31.1)] []) (fun r31 h => ?_) (fun h => ?_)
  · obtain ⟨v3_29, M30⟩ := r31
    show KK X B L 7 0 0 M30 84 [(3, .int v3_29)] []
    refine k_iload_n G (dc d_Tw_signsPaidBy 43 rfl) 0 rfl rfl ?_
    exact (kOk_s h) _ _ _ _ rfl rfl rfl (dc d_Tw_signsPaidBy 44 rfl)
  · refine k_sub [3, 2, 1, 0] rfl ?_
    refine kLp_ok (P := fun s32 => KK X B L 7 0 0 s32.2.2.2 7 [(0, .ref (B.1 + u)), (2, .int s32.1), (3, .int s32.2.1), (4, .int s32.2.2.1)] []) (fun s32 h => ?_) kFU _ h
    obtain ⟨v2_1, v3_2, v4_3, M4⟩ := s32
    unfold m_Tw_signsPaidBy_l7 at h
    show KK X B L 7 0 0 M4 7 [(0, .ref (B.1 + u)), (2, .int v2_1), (3, .int v3_2), (4, .int v4_3)] []
    refine k_iload G (dc d_Tw_signsPaidBy 6 rfl) 3 rfl ?_
    refine k_bipush G (dc d_Tw_signsPaidBy 7 rfl) cB_8 ?_
    refine k_icmp_gt G (dc d_Tw_signsPaidBy 8 rfl) (tgt := 84) rfl (fun c5 => ?_) (fun c5 => ?_)
    · replace h := kOk_p c5 h
      refine k_sub [2] rfl ?_
      have h9 := kOk_s h
      exact h9
    · replace h := kOk_n c5 h
      refine k_iload G (dc d_Tw_signsPaidBy 9 rfl) 3 rfl ?_
      refine k_aload_n G (dc d_Tw_signsPaidBy 10 rfl) 0 rfl rfl ?_
      refine k_getR G kc6 (dc d_Tw_signsPaidBy 11 rfl) (okL_lt hu (o := 0) 0 rfl) (okL_k hu (o := 0) 0 rfl) 0 (by decide) rfl fl_RX8_12 (u + 1) (okL_r hu (o := 0) (c := 1) 0 rfl 0 rfl) ?_
      refine k_getR G kc5 (dc d_Tw_signsPaidBy 12 rfl) (okL_lt hu (o := 1) 1 rfl) (okL_k hu (o := 1) 1 rfl) 10 (by decide) rfl fl_RX8_54 (u + 12) (okL_r hu (o := 1) (c := 12) 1 rfl 9 rfl) ?_
      refine k_iconst G (dc d_Tw_signsPaidBy 13 rfl) cI_0 ?_
      obtain ⟨x7, e6, h⟩ := kOk_b h
      refine k_ild G (dc d_Tw_signsPaidBy 14 rfl) (okL_lt hu (o := 12) 12 rfl) (okL_k hu (o := 12) 12 rfl) (okL_n hu (o := 12) 12 rfl) e6 ?_
      refine k_imul G (dc d_Tw_signsPaidBy 15 rfl) ?_
      refine k_istore G (dc d_Tw_signsPaidBy 16 rfl) (ls' := [(5, .int (v4_3 * x7)), (0, .ref (B.1 + u)), (2, .int v2_1), (3, .int v3_2), (4, .int v4_3)]) rfl rfl ?_
      refine k_iconst G (dc d_Tw_signsPaidBy 17 rfl) cI_0 ?_
      refine k_istore G (dc d_Tw_signsPaidBy 18 rfl) (ls' := [(6, .int 0), (5, .int (v4_3 * x7)), (0, .ref (B.1 + u)), (2, .int v2_1), (3, .int v3_2), (4, .int v4_3)]) rfl rfl ?_
      refine kJ h (fun r27 => KK X B L 7 0 0 r27.2.2 78 [(0, .ref (B.1 + u)), (2, .int r27.1), (3, .int r27.2.1), (4, .int v4_3)] []) (fun r27 h => ?_) (fun h => ?_)
      · obtain ⟨v2_24, v3_25, M26⟩ := r27
        show KK X B L 7 0 0 M26 78 [(0, .ref (B.1 + u)), (2, .int v2_24), (3, .int v3_25), (4, .int v4_3)] []
        refine k_iinc G (dc d_Tw_signsPaidBy 41 rfl) (ls' := [(4, .int (v4_3 + 1)), (0, .ref (B.1 + u)), (2, .int v2_24), (3, .int v3_25)]) 3 rfl cI_1 rfl rfl ?_
        refine k_goto G (dc d_Tw_signsPaidBy 42 rfl) (tgt := 7) rfl ?_
        refine k_sub [1, 2, 3, 0] rfl ?_
        have h9 := kOk_s h
        exact h9
      · refine k_sub [2, 3, 4, 5, 1, 0] rfl ?_
        refine kLp_ok (P := fun s28 => KK X B L 7 0 0 s28.2.2.2 31 [(0, .ref (B.1 + u)), (2, .int s28.1), (3, .int s28.2.1), (4, .int v4_3), (5, .int (v4_3 * x7)), (6, .int s28.2.2.1)] []) (fun s28 h => ?_) kFU _ h
        obtain ⟨v2_8, v3_9, v6_10, M11⟩ := s28
        unfold m_Tw_signsPaidBy_l31 at h
        show KK X B L 7 0 0 M11 31 [(0, .ref (B.1 + u)), (2, .int v2_8), (3, .int v3_9), (4, .int v4_3), (5, .int (v4_3 * x7)), (6, .int v6_10)] []
        refine k_iload G (dc d_Tw_signsPaidBy 19 rfl) 5 rfl ?_
        refine k_bipush G (dc d_Tw_signsPaidBy 20 rfl) cB_8 ?_
        refine k_icmp_ge G (dc d_Tw_signsPaidBy 21 rfl) (tgt := 78) rfl (fun c12 => ?_) (fun c12 => ?_)
        · replace h := kOk_p c12 h
          refine k_sub [0, 1, 2, 3] rfl ?_
          have h9 := kOk_s h
          exact h9
        · replace h := kOk_n c12 h
          refine k_aload_n G (dc d_Tw_signsPaidBy 22 rfl) 0 rfl rfl ?_
          refine k_iload G (dc d_Tw_signsPaidBy 23 rfl) 5 rfl ?_
          obtain ⟨x14, e13, h⟩ := kOk_b h
          refine k_cVI G (dc d_Tw_signsPaidBy 24 rfl) kc6 (okL_lt hu (o := 0) 0 rfl) (okL_k hu (o := 0) 0 rfl) mi_Tw_hasSign mv_Tw_hasSign rfl ml_RX8_57 (c_Tw_hasSign (gst G) hu e13) rfl rfl ⟨rfl, rfl⟩ rfl ⟨rfl, rfl⟩ ⟨rfl, rfl⟩ ?_
          refine k_if_eq G (dc d_Tw_signsPaidBy 25 rfl) (tgt := 78) rfl (fun c15 => ?_) (fun c15 => ?_)
          · replace h := kOk_p c15 h
            refine k_sub [0, 1, 2, 3] rfl ?_
            have h9 := kOk_s h
            exact h9
          · replace h := kOk_n c15 h
            refine k_aload_n G (dc d_Tw_signsPaidBy 26 rfl) 0 rfl rfl ?_
            refine k_iload G (dc d_Tw_signsPaidBy 27 rfl) 5 rfl ?_
            obtain ⟨⟨x17, M18⟩, e16, h⟩ := kOk_b h
            refine k_cVI G (dc d_Tw_signsPaidBy 28 rfl) kc6 (okL_lt hu (o := 0) 0 rfl) (okL_k hu (o := 0) 0 rfl) mi_Tw_lettersWrong mv_Tw_lettersWrong rfl ml_RX8_50 (c_Tw_lettersWrong (gst G) hu e16) rfl rfl ⟨rfl, rfl⟩ rfl ⟨rfl, rfl⟩ ⟨rfl, rfl⟩ ?_
            refine k_iload G (dc d_Tw_signsPaidBy 29 rfl) 3 rfl ?_
            refine kJ h (fun r21 => KK X B L 7 0 0 M18 72 [(0, .ref (B.1 + u)), (2, .int r21.1), (3, .int r21.2), (4, .int v4_3), (5, .int (v4_3 * x7)), (6, .int v6_10)] []) (fun r21 h => ?_) (fun h => ?_)
            · obtain ⟨v2_19, v3_20⟩ := r21
              show KK X B L 7 0 0 M18 72 [(0, .ref (B.1 + u)), (2, .int v2_19), (3, .int v3_20), (4, .int v4_3), (5, .int (v4_3 * x7)), (6, .int v6_10)] []
              refine k_iinc G (dc d_Tw_signsPaidBy 39 rfl) (ls' := [(6, .int (v6_10 + 1)), (0, .ref (B.1 + u)), (2, .int v2_19), (3, .int v3_20), (4, .int v4_3), (5, .int (v4_3 * x7))]) 5 rfl cI_1 rfl rfl ?_
              refine k_goto G (dc d_Tw_signsPaidBy 40 rfl) (tgt := 31) rfl ?_
              refine k_sub [1, 2, 3, 4, 5, 0] rfl ?_
              have h9 := kOk_s h
              exact h9
            · refine k_icmp_ne G (dc d_Tw_signsPaidBy 30 rfl) (tgt := 72) rfl (fun c22 => ?_) (fun c22 => ?_)
              · replace h := kOk_n c22 h
                have h9 := kOk_s h
                exact h9
              · replace h := kOk_p c22 h
                refine k_iload G (dc d_Tw_signsPaidBy 31 rfl) 4 rfl ?_
                refine k_iload_n G (dc d_Tw_signsPaidBy 32 rfl) 1 rfl rfl ?_
                refine k_icmp_gt G (dc d_Tw_signsPaidBy 33 rfl) (tgt := 72) rfl (fun c23 => ?_) (fun c23 => ?_)
                · replace h := kOk_p c23 h
                  have h9 := kOk_s h
                  exact h9
                · replace h := kOk_n c23 h
                  refine k_iload_n G (dc d_Tw_signsPaidBy 34 rfl) 1 rfl rfl ?_
                  refine k_iload G (dc d_Tw_signsPaidBy 35 rfl) 4 rfl ?_
                  refine k_isub G (dc d_Tw_signsPaidBy 36 rfl) ?_
                  refine k_istore_n G (dc d_Tw_signsPaidBy 37 rfl) (ls' := [(2, .int (v2_8 - (v4_3 * x7))), (0, .ref (B.1 + u)), (3, .int v3_9), (4, .int v4_3), (5, .int (v4_3 * x7)), (6, .int v6_10)]) rfl rfl rfl ?_
                  refine k_iinc G (dc d_Tw_signsPaidBy 38 rfl) (ls' := [(3, .int (v3_9 + 1)), (2, .int (v2_8 - (v4_3 * x7))), (0, .ref (B.1 + u)), (4, .int v4_3), (5, .int (v4_3 * x7)), (6, .int v6_10)]) 2 rfl cI_1 rfl rfl ?_
                  refine k_sub [2, 1, 0, 3, 4, 5] rfl ?_
                  have h9 := kOk_s h
                  exact h9
theorem c_Tw_signsPaidBy {l : Launch} {B : KB} {L : KLay} {M : KMem} {u : Nat} {p0 : Int32} (hst : l.stackTraces = false) (hu : okL L u twT) {r : Int32} {M' : KMem} (e : m_Tw_signsPaidBy u p0 M = some (r, M')) : CtrN l B yX8_signsPaidBy cX8_signsPaidBy 7 (some .int) rm_Tw_signsPaidBy [.ref (B.1 + u), .int p0] L M (some (.int r)) L M' :=
  mk_I rfl hst rfl (fun X hl G _ R => b_Tw_signsPaidBy G hu ⟨_, e, R⟩)
def I_Tw_monthsTillFinesAreMore : List (Nat × Instr × Nat) := [(0, .aload_n 0, 1), (1, .iload_n 1, 1), (2, .invokevirtual 57, 3), (5, .ifCond .eq 11, 3), (8, .aload_n 0, 1), (9, .iload_n 1, 1), (10, .invokevirtual 147, 3), (13, .ifCond .ne 5, 3), (16, .iconst (-1), 1), (17, .ireturn, 1), (18, .aload_n 0, 1), (19, .iload_n 1, 1), (20, .invokevirtual 132, 3), (23, .istore_n 2, 1), (24, .iconst 0, 1), (25, .istore_n 3, 1), (26, .iconst 1, 1), (27, .istore 4, 2), (29, .iload 4, 2), (31, .sipush 200, 3), (34, .if_icmp .gt 41, 3), (37, .iload 4, 2), (39, .aload_n 0, 1), (40, .getfield 12, 3), (43, .getfield 141, 3), (46, .if_icmp .le 15, 3), (49, .iload_n 3, 1), (50, .aload_n 0, 1), (51, .getfield 12, 3), (54, .getfield 54, 3), (57, .iconst 1, 1), (58, .iaload, 1), (59, .iadd, 1), (60, .istore_n 3, 1), (61, .iload_n 3, 1), (62, .iload_n 2, 1), (63, .if_icmp .le 6, 3), (66, .iload 4, 2), (68, .ireturn, 1), (69, .iinc 4 1, 3), (72, .goto (-43), 3), (75, .iconst (-1), 1), (76, .ireturn, 1)]
set_option maxRecDepth 100000 in
theorem d_Tw_monthsTillFinesAreMore : decA cX8_monthsTillFinesAreMore I_Tw_monthsTillFinesAreMore = true := by decide +kernel
abbrev rm_Tw_monthsTillFinesAreMore : Room := ({ frames := 5, cells := 0, slots := 0, locals := 113 } : Room)
def m_Tw_monthsTillFinesAreMore_l29 (u : Nat) (x8 : Int32) (M9 : KMem) : (Int32 × Int32) → Option ((Int32 × Int32) ⊕ ((Int32 × KMem) ⊕ Unit)) := fun (v3_10, v4_11) =>
 if 200 < v4_11 then
 (some (.inr (.inr ())))
 else
 (Option.bind (α := Int32) (if v4_11 ≤ (M9 (u + 1) 12) then
 (some v3_10)
 else
 (Option.bind (rdI M9 (u + 12) 2 1) fun x18 =>
 some (v3_10 + x18))) fun v3_13 =>
 if v3_13 ≤ x8 then
 (some (.inl (v3_13, v4_11 + 1)))
 else
 (some (.inr (.inl (v4_11, M9)))))
def m_Tw_monthsTillFinesAreMore (u : Nat) (p0 : Int32) (M : KMem) : Option (Int32 × KMem) :=
 Option.bind (m_Tw_hasSign u p0 M) fun x2 =>
 if x2 = 0 then
 (some ((-1), M))
 else
 (Option.bind (m_Tw_isWrong u p0 M) fun x5 =>
 if x5 = 0 then
 (some ((-1), M))
 else
 (Option.bind (m_Tw_costOf u p0 M) fun (x8, M9) =>
 Option.bind (α := (Int32 × KMem) ⊕ Unit) (kLp (m_Tw_monthsTillFinesAreMore_l29 u x8 M9) kFU (0, 1)) fun r => match r with
 | .inl q => some q
 | .inr _ =>
 (some ((-1), M9))))
set_option maxHeartbeats 4000000 in
set_option maxRecDepth 100000 in
theorem b_Tw_monthsTillFinesAreMore {X : KX} {B : KB} {L : KLay} {M : KMem} {u : Nat} {p0 : Int32} (G : Good X B RX8 cX8_monthsTillFinesAreMore 5 rm_Tw_monthsTillFinesAreMore) (hu : okL L u twT) (h : kOk (m_Tw_monthsTillFinesAreMore u p0 M) (fun r => RI X B L 5 cX8_monthsTillFinesAreMore .int rm_Tw_monthsTillFinesAreMore r.1 r.2)) : KK X B L 5 0 0 M 0 [(0, .ref (B.1 + u)), (1, .int p0)] [] := by
  unfold m_Tw_monthsTillFinesAreMore at h
  refine k_aload_n G (dc d_Tw_monthsTillFinesAreMore 0 rfl) 0 rfl rfl ?_
  refine k_iload_n G (dc d_Tw_monthsTillFinesAreMore 1 rfl) 1 rfl rfl ?_
  obtain ⟨x2, e1, h⟩ := kOk_b h
  refine k_cVI G (dc d_Tw_monthsTillFinesAreMore 2 rfl) kc6 (okL_lt hu (o := 0) 0 rfl) (okL_k hu (o := 0) 0 rfl) mi_Tw_hasSign mv_Tw_hasSign rfl ml_RX8_57 (c_Tw_hasSign (gst G) hu e1) rfl rfl ⟨rfl, rfl⟩ rfl ⟨rfl, rfl⟩ ⟨rfl, rfl⟩ ?_
  refine k_if_eq G (dc d_Tw_monthsTillFinesAreMore 3 rfl) (tgt := 16) rfl (fun c3 => ?_) (fun c3 => ?_)
  · replace h := kOk_p c3 h
    refine k_iconst G (dc d_Tw_monthsTillFinesAreMore 8 rfl) cI_m1 ?_
    exact (kOk_s h) _ _ _ _ rfl rfl rfl (dc d_Tw_monthsTillFinesAreMore 9 rfl)
  · replace h := kOk_n c3 h
    refine k_aload_n G (dc d_Tw_monthsTillFinesAreMore 4 rfl) 0 rfl rfl ?_
    refine k_iload_n G (dc d_Tw_monthsTillFinesAreMore 5 rfl) 1 rfl rfl ?_
    obtain ⟨x5, e4, h⟩ := kOk_b h
    refine k_cVI G (dc d_Tw_monthsTillFinesAreMore 6 rfl) kc6 (okL_lt hu (o := 0) 0 rfl) (okL_k hu (o := 0) 0 rfl) mi_Tw_isWrong mv_Tw_isWrong rfl ml_RX8_147 (c_Tw_isWrong (gst G) hu e4) rfl rfl ⟨rfl, rfl⟩ rfl ⟨rfl, rfl⟩ ⟨rfl, rfl⟩ ?_
    refine k_if_ne G (dc d_Tw_monthsTillFinesAreMore 7 rfl) (tgt := 18) rfl (fun c6 => ?_) (fun c6 => ?_)
    · replace h := kOk_n c6 h
      refine k_aload_n G (dc d_Tw_monthsTillFinesAreMore 10 rfl) 0 rfl rfl ?_
      refine k_iload_n G (dc d_Tw_monthsTillFinesAreMore 11 rfl) 1 rfl rfl ?_
      obtain ⟨⟨x8, M9⟩, e7, h⟩ := kOk_b h
      refine k_cVI G (dc d_Tw_monthsTillFinesAreMore 12 rfl) kc6 (okL_lt hu (o := 0) 0 rfl) (okL_k hu (o := 0) 0 rfl) mi_Tw_costOf mv_Tw_costOf rfl ml_RX8_132 (c_Tw_costOf (gst G) hu e7) rfl rfl ⟨rfl, rfl⟩ rfl ⟨rfl, rfl⟩ ⟨rfl, rfl⟩ ?_
      refine k_istore_n G (dc d_Tw_monthsTillFinesAreMore 13 rfl) (ls' := [(2, .int x8), (0, .ref (B.1 + u)), (1, .int p0)]) rfl rfl rfl ?_
      refine k_iconst G (dc d_Tw_monthsTillFinesAreMore 14 rfl) cI_0 ?_
      refine k_istore_n G (dc d_Tw_monthsTillFinesAreMore 15 rfl) (ls' := [(3, .int 0), (2, .int x8), (0, .ref (B.1 + u)), (1, .int p0)]) rfl rfl rfl ?_
      refine k_iconst G (dc d_Tw_monthsTillFinesAreMore 16 rfl) cI_1 ?_
      refine k_istore G (dc d_Tw_monthsTillFinesAreMore 17 rfl) (ls' := [(4, .int 1), (3, .int 0), (2, .int x8), (0, .ref (B.1 + u)), (1, .int p0)]) rfl rfl ?_
      refine kJ h (fun r19 => match r19 with | .inl q => RI X B L 5 cX8_monthsTillFinesAreMore .int rm_Tw_monthsTillFinesAreMore q.1 q.2 | .inr r19 => KK X B L 5 0 0 M9 75 [] []) (fun r19 h => ?_) (fun h => ?_)
      · rcases r19 with q | r19
        · have h9 := kOk_s h
          exact h9
        · show KK X B L 5 0 0 M9 75 [] []
          refine k_iconst G (dc d_Tw_monthsTillFinesAreMore 41 rfl) cI_m1 ?_
          exact (kOk_s h) _ _ _ _ rfl rfl rfl (dc d_Tw_monthsTillFinesAreMore 42 rfl)
      · refine k_sub [3, 2, 1, 0] rfl ?_
        refine kLp_ok (P := fun s20 => KK X B L 5 0 0 M9 29 [(0, .ref (B.1 + u)), (2, .int x8), (3, .int s20.1), (4, .int s20.2)] []) (fun s20 h => ?_) kFU _ h
        obtain ⟨v3_10, v4_11⟩ := s20
        unfold m_Tw_monthsTillFinesAreMore_l29 at h
        show KK X B L 5 0 0 M9 29 [(0, .ref (B.1 + u)), (2, .int x8), (3, .int v3_10), (4, .int v4_11)] []
        refine k_iload G (dc d_Tw_monthsTillFinesAreMore 18 rfl) 3 rfl ?_
        refine k_sipush G (dc d_Tw_monthsTillFinesAreMore 19 rfl) cS_200 ?_
        refine k_icmp_gt G (dc d_Tw_monthsTillFinesAreMore 20 rfl) (tgt := 75) rfl (fun c12 => ?_) (fun c12 => ?_)
        · replace h := kOk_p c12 h
          refine k_sub [] rfl ?_
          have h9 := kOk_s h
          exact h9
        · replace h := kOk_n c12 h
          refine k_iload G (dc d_Tw_monthsTillFinesAreMore 21 rfl) 3 rfl ?_
          refine k_aload_n G (dc d_Tw_monthsTillFinesAreMore 22 rfl) 0 rfl rfl ?_
          refine k_getR G kc6 (dc d_Tw_monthsTillFinesAreMore 23 rfl) (okL_lt hu (o := 0) 0 rfl) (okL_k hu (o := 0) 0 rfl) 0 (by decide) rfl fl_RX8_12 (u + 1) (okL_r hu (o := 0) (c := 1) 0 rfl 0 rfl) ?_
          refine k_getI G kc5 (dc d_Tw_monthsTillFinesAreMore 24 rfl) (okL_lt hu (o := 1) 1 rfl) (okL_k hu (o := 1) 1 rfl) 12 (by decide) rfl fl_RX8_141 ?_
          refine kJ h (fun r14 => KK X B L 5 0 0 M9 61 [(0, .ref (B.1 + u)), (2, .int x8), (3, .int r14), (4, .int v4_11)] []) (fun r14 h => ?_) (fun h => ?_)
          · obtain ⟨v3_13, rfl⟩ : ∃ z, z = r14 := ⟨_, rfl⟩
            show KK X B L 5 0 0 M9 61 [(0, .ref (B.1 + u)), (2, .int x8), (3, .int v3_13), (4, .int v4_11)] []
            refine k_iload_n G (dc d_Tw_monthsTillFinesAreMore 34 rfl) 2 rfl rfl ?_
            refine k_iload_n G (dc d_Tw_monthsTillFinesAreMore 35 rfl) 1 rfl rfl ?_
            refine k_icmp_le G (dc d_Tw_monthsTillFinesAreMore 36 rfl) (tgt := 69) rfl (fun c15 => ?_) (fun c15 => ?_)
            · replace h := kOk_p c15 h
              refine k_iinc G (dc d_Tw_monthsTillFinesAreMore 39 rfl) (ls' := [(4, .int (v4_11 + 1)), (0, .ref (B.1 + u)), (2, .int x8), (3, .int v3_13)]) 3 rfl cI_1 rfl rfl ?_
              refine k_goto G (dc d_Tw_monthsTillFinesAreMore 40 rfl) (tgt := 29) rfl ?_
              refine k_sub [1, 2, 3, 0] rfl ?_
              have h9 := kOk_s h
              exact h9
            · replace h := kOk_n c15 h
              refine k_iload G (dc d_Tw_monthsTillFinesAreMore 37 rfl) 3 rfl ?_
              exact (kOk_s h) _ _ _ _ rfl rfl rfl (dc d_Tw_monthsTillFinesAreMore 38 rfl)
          · refine k_icmp_le G (dc d_Tw_monthsTillFinesAreMore 25 rfl) (tgt := 61) rfl (fun c16 => ?_) (fun c16 => ?_)
            · replace h := kOk_p c16 h
              have h9 := kOk_s h
              exact h9
            · replace h := kOk_n c16 h
              refine k_iload_n G (dc d_Tw_monthsTillFinesAreMore 26 rfl) 2 rfl rfl ?_
              refine k_aload_n G (dc d_Tw_monthsTillFinesAreMore 27 rfl) 0 rfl rfl ?_
              refine k_getR G kc6 (dc d_Tw_monthsTillFinesAreMore 28 rfl) (okL_lt hu (o := 0) 0 rfl) (okL_k hu (o := 0) 0 rfl) 0 (by decide) rfl fl_RX8_12 (u + 1) (okL_r hu (o := 0) (c := 1) 0 rfl 0 rfl) ?_
              refine k_getR G kc5 (dc d_Tw_monthsTillFinesAreMore 29 rfl) (okL_lt hu (o := 1) 1 rfl) (okL_k hu (o := 1) 1 rfl) 10 (by decide) rfl fl_RX8_54 (u + 12) (okL_r hu (o := 1) (c := 12) 1 rfl 9 rfl) ?_
              refine k_iconst G (dc d_Tw_monthsTillFinesAreMore 30 rfl) cI_1 ?_
              obtain ⟨x18, e17, h⟩ := kOk_b h
              refine k_ild G (dc d_Tw_monthsTillFinesAreMore 31 rfl) (okL_lt hu (o := 12) 12 rfl) (okL_k hu (o := 12) 12 rfl) (okL_n hu (o := 12) 12 rfl) e17 ?_
              refine k_iadd G (dc d_Tw_monthsTillFinesAreMore 32 rfl) ?_
              refine k_istore_n G (dc d_Tw_monthsTillFinesAreMore 33 rfl) (ls' := [(3, .int (v3_10 + x18)), (0, .ref (B.1 + u)), (2, .int x8), (4, .int v4_11)]) rfl rfl rfl ?_
              refine k_sub [1, 2, 0, 3] rfl ?_
              have h9 := kOk_s h
              exact h9
    · replace h := kOk_p c6 h
      refine k_iconst G (dc d_Tw_monthsTillFinesAreMore 8 rfl) cI_m1 ?_
      exact (kOk_s h) _ _ _ _ rfl rfl rfl (dc d_Tw_monthsTillFinesAreMore 9 rfl)
theorem c_Tw_monthsTillFinesAreMore {l : Launch} {B : KB} {L : KLay} {M : KMem} {u : Nat} {p0 : Int32} (hst : l.stackTraces = false) (hu : okL L u twT) {r : Int32} {M' : KMem} (e : m_Tw_monthsTillFinesAreMore u p0 M = some (r, M')) : CtrN l B yX8_monthsTillFinesAreMore cX8_monthsTillFinesAreMore 5 (some .int) rm_Tw_monthsTillFinesAreMore [.ref (B.1 + u), .int p0] L M (some (.int r)) L M' :=
  mk_I rfl hst rfl (fun X hl G _ R => b_Tw_monthsTillFinesAreMore G hu ⟨_, e, R⟩)
def I_Tw_lettersOf : List (Nat × Instr × Nat) := [(0, .iconst 0, 1), (1, .istore_n 2, 1), (2, .iconst 0, 1), (3, .istore_n 3, 1), (4, .iload_n 3, 1), (5, .aload_n 1, 1), (6, .arraylength, 1), (7, .if_icmp .ge 26, 3), (10, .aload_n 0, 1), (11, .iload_n 3, 1), (12, .invokevirtual 57, 3), (15, .ifCond .eq 18, 3), (18, .iload_n 2, 1), (19, .aload_n 1, 1), (20, .iload_n 3, 1), (21, .iaload, 1), (22, .invokestatic 169, 3), (25, .iadd, 1), (26, .istore_n 2, 1), (27, .iinc 3 1, 3), (30, .goto (-26), 3), (33, .iload_n 2, 1), (34, .ireturn, 1)]
set_option maxRecDepth 100000 in
theorem d_Tw_lettersOf : decA cX8_lettersOf I_Tw_lettersOf = true := by decide +kernel
abbrev rm_Tw_lettersOf : Room := ({ frames := 1, cells := 0, slots := 0, locals := 23 } : Room)
def m_Tw_lettersOf_l4 (u : Nat) (p0 : Nat) (p0n : Nat) (M : KMem) : (Int32 × Int32) → Option ((Int32 × Int32) ⊕ Int32) := fun (v2_1, v3_2) =>
 if (Int32.ofNat p0n) ≤ v3_2 then
 (some (.inr v2_1))
 else
 (Option.bind (m_Tw_hasSign u v3_2 M) fun x5 =>
 if x5 = 0 then
 (some (.inr v2_1))
 else
 (Option.bind (rdI M p0 p0n v3_2) fun x8 =>
 Option.bind (m_Wo_letters x8) fun x10 =>
 some (.inl (v2_1 + x10, v3_2 + 1))))
def m_Tw_lettersOf (u : Nat) (p0 : Nat) (p0n : Nat) (M : KMem) : Option Int32 :=
 Option.bind (α := Int32) (kLp (m_Tw_lettersOf_l4 u p0 p0n M) kFU (0, 0)) fun v2_11 =>
 some v2_11
set_option maxHeartbeats 4000000 in
set_option maxRecDepth 100000 in
theorem b_Tw_lettersOf {X : KX} {B : KB} {L : KLay} {M : KMem} {u : Nat} {p0 : Nat} {p0n : Nat} (G : Good X B RX8 cX8_lettersOf 4 rm_Tw_lettersOf) (hu : okL L u twT) (hp0 : arL L p0 9 p0n) (h : kOk (m_Tw_lettersOf u p0 p0n M) (fun r => RI X B L 4 cX8_lettersOf .int rm_Tw_lettersOf r M)) : KK X B L 4 0 0 M 0 [(0, .ref (B.1 + u)), (1, .ref (B.1 + p0))] [] := by
  unfold m_Tw_lettersOf at h
  refine k_iconst G (dc d_Tw_lettersOf 0 rfl) cI_0 ?_
  refine k_istore_n G (dc d_Tw_lettersOf 1 rfl) (ls' := [(2, .int 0), (0, .ref (B.1 + u)), (1, .ref (B.1 + p0))]) rfl rfl rfl ?_
  refine k_iconst G (dc d_Tw_lettersOf 2 rfl) cI_0 ?_
  refine k_istore_n G (dc d_Tw_lettersOf 3 rfl) (ls' := [(3, .int 0), (2, .int 0), (0, .ref (B.1 + u)), (1, .ref (B.1 + p0))]) rfl rfl rfl ?_
  refine kJ h (fun r12 => KK X B L 4 0 0 M 33 [(2, .int r12)] []) (fun r12 h => ?_) (fun h => ?_)
  · obtain ⟨v2_11, rfl⟩ : ∃ z, z = r12 := ⟨_, rfl⟩
    show KK X B L 4 0 0 M 33 [(2, .int v2_11)] []
    refine k_iload_n G (dc d_Tw_lettersOf 21 rfl) 0 rfl rfl ?_
    exact (kOk_s h) _ _ _ _ rfl rfl rfl (dc d_Tw_lettersOf 22 rfl)
  · refine k_sub [2, 3, 1, 0] rfl ?_
    refine kLp_ok (P := fun s13 => KK X B L 4 0 0 M 4 [(0, .ref (B.1 + u)), (1, .ref (B.1 + p0)), (2, .int s13.1), (3, .int s13.2)] []) (fun s13 h => ?_) kFU _ h
    obtain ⟨v2_1, v3_2⟩ := s13
    unfold m_Tw_lettersOf_l4 at h
    show KK X B L 4 0 0 M 4 [(0, .ref (B.1 + u)), (1, .ref (B.1 + p0)), (2, .int v2_1), (3, .int v3_2)] []
    refine k_iload_n G (dc d_Tw_lettersOf 4 rfl) 3 rfl rfl ?_
    refine k_aload_n G (dc d_Tw_lettersOf 5 rfl) 1 rfl rfl ?_
    refine k_len G (dc d_Tw_lettersOf 6 rfl) hp0.1 hp0.2.1 (v := Int32.ofNat p0n) (by rw [hp0.2.2]) ?_
    refine k_icmp_ge G (dc d_Tw_lettersOf 7 rfl) (tgt := 33) rfl (fun c3 => ?_) (fun c3 => ?_)
    · replace h := kOk_p c3 h
      refine k_sub [2] rfl ?_
      have h9 := kOk_s h
      exact h9
    · replace h := kOk_n c3 h
      refine k_aload_n G (dc d_Tw_lettersOf 8 rfl) 0 rfl rfl ?_
      refine k_iload_n G (dc d_Tw_lettersOf 9 rfl) 3 rfl rfl ?_
      obtain ⟨x5, e4, h⟩ := kOk_b h
      refine k_cVI G (dc d_Tw_lettersOf 10 rfl) kc6 (okL_lt hu (o := 0) 0 rfl) (okL_k hu (o := 0) 0 rfl) mi_Tw_hasSign mv_Tw_hasSign rfl ml_RX8_57 (c_Tw_hasSign (gst G) hu e4) rfl rfl ⟨rfl, rfl⟩ rfl ⟨rfl, rfl⟩ ⟨rfl, rfl⟩ ?_
      refine k_if_eq G (dc d_Tw_lettersOf 11 rfl) (tgt := 33) rfl (fun c6 => ?_) (fun c6 => ?_)
      · replace h := kOk_p c6 h
        refine k_sub [2] rfl ?_
        have h9 := kOk_s h
        exact h9
      · replace h := kOk_n c6 h
        refine k_iload_n G (dc d_Tw_lettersOf 12 rfl) 2 rfl rfl ?_
        refine k_aload_n G (dc d_Tw_lettersOf 13 rfl) 1 rfl rfl ?_
        refine k_iload_n G (dc d_Tw_lettersOf 14 rfl) 3 rfl rfl ?_
        obtain ⟨x8, e7, h⟩ := kOk_b h
        refine k_ild G (dc d_Tw_lettersOf 15 rfl) hp0.1 hp0.2.1 hp0.2.2 e7 ?_
        obtain ⟨x10, e9, h⟩ := kOk_b h
        refine k_cSI G (dc d_Tw_lettersOf 16 rfl) mi_Wo_letters ms_Wo_letters ml_RX8_169 (c_Wo_letters (gst G)  e9) rfl rfl ⟨rfl, rfl⟩ rfl ⟨rfl, rfl⟩ ⟨rfl, rfl⟩ ?_
        refine k_iadd G (dc d_Tw_lettersOf 17 rfl) ?_
        refine k_istore_n G (dc d_Tw_lettersOf 18 rfl) (ls' := [(2, .int (v2_1 + x10)), (0, .ref (B.1 + u)), (1, .ref (B.1 + p0)), (3, .int v3_2)]) rfl rfl rfl ?_
        refine k_iinc G (dc d_Tw_lettersOf 19 rfl) (ls' := [(3, .int (v3_2 + 1)), (2, .int (v2_1 + x10)), (0, .ref (B.1 + u)), (1, .ref (B.1 + p0))]) 3 rfl cI_1 rfl rfl ?_
        refine k_goto G (dc d_Tw_lettersOf 20 rfl) (tgt := 4) rfl ?_
        refine k_sub [2, 3, 1, 0] rfl ?_
        have h9 := kOk_s h
        exact h9
theorem c_Tw_lettersOf {l : Launch} {B : KB} {L : KLay} {M : KMem} {u : Nat} {p0 : Nat} {p0n : Nat} (hst : l.stackTraces = false) (hu : okL L u twT) (hp0 : arL L p0 9 p0n) {r : Int32} (e : m_Tw_lettersOf u p0 p0n M = some r) : CtrN l B yX8_lettersOf cX8_lettersOf 4 (some .int) rm_Tw_lettersOf [.ref (B.1 + u), .ref (B.1 + p0)] L M (some (.int r)) L M :=
  mk_I rfl hst rfl (fun X hl G _ R => b_Tw_lettersOf G hu hp0 ⟨_, e, R⟩)
def I_Tw_lettersOfRights : List (Nat × Instr × Nat) := [(0, .aload_n 0, 1), (1, .aload_n 0, 1), (2, .getfield 12, 3), (5, .getfield 43, 3), (8, .invokevirtual 166, 3), (11, .ireturn, 1)]
set_option maxRecDepth 100000 in
theorem d_Tw_lettersOfRights : decA cX8_lettersOfRights I_Tw_lettersOfRights = true := by decide +kernel
abbrev rm_Tw_lettersOfRights : Room := ({ frames := 2, cells := 0, slots := 0, locals := 46 } : Room)
def m_Tw_lettersOfRights (u : Nat) (M : KMem) : Option Int32 :=
 Option.bind (m_Tw_lettersOf u (u + 7) 8 M) fun x2 =>
 some x2
set_option maxHeartbeats 4000000 in
set_option maxRecDepth 100000 in
theorem b_Tw_lettersOfRights {X : KX} {B : KB} {L : KLay} {M : KMem} {u : Nat} (G : Good X B RX8 cX8_lettersOfRights 1 rm_Tw_lettersOfRights) (hu : okL L u twT) (h : kOk (m_Tw_lettersOfRights u M) (fun r => RI X B L 1 cX8_lettersOfRights .int rm_Tw_lettersOfRights r M)) : KK X B L 1 0 0 M 0 [(0, .ref (B.1 + u))] [] := by
  unfold m_Tw_lettersOfRights at h
  refine k_aload_n G (dc d_Tw_lettersOfRights 0 rfl) 0 rfl rfl ?_
  refine k_aload_n G (dc d_Tw_lettersOfRights 1 rfl) 0 rfl rfl ?_
  refine k_getR G kc6 (dc d_Tw_lettersOfRights 2 rfl) (okL_lt hu (o := 0) 0 rfl) (okL_k hu (o := 0) 0 rfl) 0 (by decide) rfl fl_RX8_12 (u + 1) (okL_r hu (o := 0) (c := 1) 0 rfl 0 rfl) ?_
  refine k_getR G kc5 (dc d_Tw_lettersOfRights 3 rfl) (okL_lt hu (o := 1) 1 rfl) (okL_k hu (o := 1) 1 rfl) 5 (by decide) rfl fl_RX8_43 (u + 7) (okL_r hu (o := 1) (c := 7) 1 rfl 4 rfl) ?_
  obtain ⟨x2, e1, h⟩ := kOk_b h
  refine k_cVI G (dc d_Tw_lettersOfRights 4 rfl) kc6 (okL_lt hu (o := 0) 0 rfl) (okL_k hu (o := 0) 0 rfl) mi_Tw_lettersOf mv_Tw_lettersOf rfl ml_RX8_166 (c_Tw_lettersOf (gst G) hu (okL_a hu (o := 7) 7 rfl) e1) rfl rfl ⟨rfl, rfl⟩ rfl ⟨rfl, rfl⟩ ⟨rfl, rfl⟩ ?_
  exact (kOk_s h) _ _ _ _ rfl rfl rfl (dc d_Tw_lettersOfRights 5 rfl)
theorem c_Tw_lettersOfRights {l : Launch} {B : KB} {L : KLay} {M : KMem} {u : Nat} (hst : l.stackTraces = false) (hu : okL L u twT) {r : Int32} (e : m_Tw_lettersOfRights u M = some r) : CtrN l B yX8_lettersOfRights cX8_lettersOfRights 1 (some .int) rm_Tw_lettersOfRights [.ref (B.1 + u)] L M (some (.int r)) L M :=
  mk_I rfl hst rfl (fun X hl G _ R => b_Tw_lettersOfRights G hu ⟨_, e, R⟩)
def I_Tw_costOfAll : List (Nat × Instr × Nat) := [(0, .iconst 0, 1), (1, .istore_n 1, 1), (2, .iconst 0, 1), (3, .istore_n 2, 1), (4, .iload_n 2, 1), (5, .bipush 8, 2), (7, .if_icmp .ge 25, 3), (10, .aload_n 0, 1), (11, .iload_n 2, 1), (12, .invokevirtual 57, 3), (15, .ifCond .eq 17, 3), (18, .iload_n 1, 1), (19, .aload_n 0, 1), (20, .iload_n 2, 1), (21, .invokevirtual 132, 3), (24, .iadd, 1), (25, .istore_n 1, 1), (26, .iinc 2 1, 3), (29, .goto (-25), 3), (32, .iload_n 1, 1), (33, .ireturn, 1)]
set_option maxRecDepth 100000 in
theorem d_Tw_costOfAll : decA cX8_costOfAll I_Tw_costOfAll = true := by decide +kernel
abbrev rm_Tw_costOfAll : Room := ({ frames := 5, cells := 0, slots := 0, locals := 113 } : Room)
def m_Tw_costOfAll_l4 (u : Nat) : (Int32 × Int32 × KMem) → Option ((Int32 × Int32 × KMem) ⊕ (Int32 × KMem)) := fun (v1_1, v2_2, M3) =>
 if 8 ≤ v2_2 then
 (some (.inr (v1_1, M3)))
 else
 (Option.bind (m_Tw_hasSign u v2_2 M3) fun x6 =>
 if x6 = 0 then
 (some (.inr (v1_1, M3)))
 else
 (Option.bind (m_Tw_costOf u v2_2 M3) fun (x9, M10) =>
 some (.inl (v1_1 + x9, v2_2 + 1, M10))))
def m_Tw_costOfAll (u : Nat) (M : KMem) : Option (Int32 × KMem) :=
 Option.bind (α := Int32 × KMem) (kLp (m_Tw_costOfAll_l4 u) kFU (0, 0, M)) fun (v1_11, M12) =>
 some (v1_11, M12)
set_option maxHeartbeats 4000000 in
set_option maxRecDepth 100000 in
theorem b_Tw_costOfAll {X : KX} {B : KB} {L : KLay} {M : KMem} {u : Nat} (G : Good X B RX8 cX8_costOfAll 3 rm_Tw_costOfAll) (hu : okL L u twT) (h : kOk (m_Tw_costOfAll u M) (fun r => RI X B L 3 cX8_costOfAll .int rm_Tw_costOfAll r.1 r.2)) : KK X B L 3 0 0 M 0 [(0, .ref (B.1 + u))] [] := by
  unfold m_Tw_costOfAll at h
  refine k_iconst G (dc d_Tw_costOfAll 0 rfl) cI_0 ?_
  refine k_istore_n G (dc d_Tw_costOfAll 1 rfl) (ls' := [(1, .int 0), (0, .ref (B.1 + u))]) rfl rfl rfl ?_
  refine k_iconst G (dc d_Tw_costOfAll 2 rfl) cI_0 ?_
  refine k_istore_n G (dc d_Tw_costOfAll 3 rfl) (ls' := [(2, .int 0), (1, .int 0), (0, .ref (B.1 + u))]) rfl rfl rfl ?_
  refine kJ h (fun r13 => KK X B L 3 0 0 r13.2 32 [(1, .int r13.1)] []) (fun r13 h => ?_) (fun h => ?_)
  · obtain ⟨v1_11, M12⟩ := r13
    show KK X B L 3 0 0 M12 32 [(1, .int v1_11)] []
    refine k_iload_n G (dc d_Tw_costOfAll 19 rfl) 0 rfl rfl ?_
    exact (kOk_s h) _ _ _ _ rfl rfl rfl (dc d_Tw_costOfAll 20 rfl)
  · refine k_sub [2, 1, 0] rfl ?_
    refine kLp_ok (P := fun s14 => KK X B L 3 0 0 s14.2.2 4 [(0, .ref (B.1 + u)), (1, .int s14.1), (2, .int s14.2.1)] []) (fun s14 h => ?_) kFU _ h
    obtain ⟨v1_1, v2_2, M3⟩ := s14
    unfold m_Tw_costOfAll_l4 at h
    show KK X B L 3 0 0 M3 4 [(0, .ref (B.1 + u)), (1, .int v1_1), (2, .int v2_2)] []
    refine k_iload_n G (dc d_Tw_costOfAll 4 rfl) 2 rfl rfl ?_
    refine k_bipush G (dc d_Tw_costOfAll 5 rfl) cB_8 ?_
    refine k_icmp_ge G (dc d_Tw_costOfAll 6 rfl) (tgt := 32) rfl (fun c4 => ?_) (fun c4 => ?_)
    · replace h := kOk_p c4 h
      refine k_sub [1] rfl ?_
      have h9 := kOk_s h
      exact h9
    · replace h := kOk_n c4 h
      refine k_aload_n G (dc d_Tw_costOfAll 7 rfl) 0 rfl rfl ?_
      refine k_iload_n G (dc d_Tw_costOfAll 8 rfl) 2 rfl rfl ?_
      obtain ⟨x6, e5, h⟩ := kOk_b h
      refine k_cVI G (dc d_Tw_costOfAll 9 rfl) kc6 (okL_lt hu (o := 0) 0 rfl) (okL_k hu (o := 0) 0 rfl) mi_Tw_hasSign mv_Tw_hasSign rfl ml_RX8_57 (c_Tw_hasSign (gst G) hu e5) rfl rfl ⟨rfl, rfl⟩ rfl ⟨rfl, rfl⟩ ⟨rfl, rfl⟩ ?_
      refine k_if_eq G (dc d_Tw_costOfAll 10 rfl) (tgt := 32) rfl (fun c7 => ?_) (fun c7 => ?_)
      · replace h := kOk_p c7 h
        refine k_sub [1] rfl ?_
        have h9 := kOk_s h
        exact h9
      · replace h := kOk_n c7 h
        refine k_iload_n G (dc d_Tw_costOfAll 11 rfl) 1 rfl rfl ?_
        refine k_aload_n G (dc d_Tw_costOfAll 12 rfl) 0 rfl rfl ?_
        refine k_iload_n G (dc d_Tw_costOfAll 13 rfl) 2 rfl rfl ?_
        obtain ⟨⟨x9, M10⟩, e8, h⟩ := kOk_b h
        refine k_cVI G (dc d_Tw_costOfAll 14 rfl) kc6 (okL_lt hu (o := 0) 0 rfl) (okL_k hu (o := 0) 0 rfl) mi_Tw_costOf mv_Tw_costOf rfl ml_RX8_132 (c_Tw_costOf (gst G) hu e8) rfl rfl ⟨rfl, rfl⟩ rfl ⟨rfl, rfl⟩ ⟨rfl, rfl⟩ ?_
        refine k_iadd G (dc d_Tw_costOfAll 15 rfl) ?_
        refine k_istore_n G (dc d_Tw_costOfAll 16 rfl) (ls' := [(1, .int (v1_1 + x9)), (0, .ref (B.1 + u)), (2, .int v2_2)]) rfl rfl rfl ?_
        refine k_iinc G (dc d_Tw_costOfAll 17 rfl) (ls' := [(2, .int (v2_2 + 1)), (1, .int (v1_1 + x9)), (0, .ref (B.1 + u))]) 2 rfl cI_1 rfl rfl ?_
        refine k_goto G (dc d_Tw_costOfAll 18 rfl) (tgt := 4) rfl ?_
        refine k_sub [2, 1, 0] rfl ?_
        have h9 := kOk_s h
        exact h9
theorem c_Tw_costOfAll {l : Launch} {B : KB} {L : KLay} {M : KMem} {u : Nat} (hst : l.stackTraces = false) (hu : okL L u twT) {r : Int32} {M' : KMem} (e : m_Tw_costOfAll u M = some (r, M')) : CtrN l B yX8_costOfAll cX8_costOfAll 3 (some .int) rm_Tw_costOfAll [.ref (B.1 + u)] L M (some (.int r)) L M' :=
  mk_I rfl hst rfl (fun X hl G _ R => b_Tw_costOfAll G hu ⟨_, e, R⟩)
end
section
/-! laid by wip/whole/lay.py: Tw_signsOfGuild, Tw_numberOfTown, Tw_numberOfSign, Tw_numberOfGuild -/
def I_Tw_signsOfGuild : List (Nat × Instr × Nat) := [(0, .iconst 0, 1), (1, .istore_n 3, 1), (2, .iconst 0, 1), (3, .istore 4, 2), (5, .iload 4, 2), (7, .bipush 8, 2), (9, .if_icmp .ge 48, 3), (12, .aload_n 0, 1), (13, .iload 4, 2), (15, .invokevirtual 57, 3), (18, .ifCond .eq 39, 3), (21, .aload_n 0, 1), (22, .getfield 12, 3), (25, .getfield 79, 3), (28, .iload 4, 2), (30, .iaload, 1), (31, .iload_n 1, 1), (32, .if_icmp .ne 19, 3), (35, .iload_n 2, 1), (36, .ifCond .eq 12, 3), (39, .aload_n 0, 1), (40, .iload 4, 2), (42, .invokevirtual 147, 3), (45, .ifCond .eq 6, 3), (48, .iinc 3 1, 3), (51, .iinc 4 1, 3), (54, .goto (-49), 3), (57, .iload_n 3, 1), (58, .ireturn, 1)]
set_option maxRecDepth 100000 in
theorem d_Tw_signsOfGuild : decA cX8_signsOfGuild I_Tw_signsOfGuild = true := by decide +kernel
abbrev rm_Tw_signsOfGuild : Room := ({ frames := 1, cells := 0, slots := 0, locals := 21 } : Room)
def m_Tw_signsOfGuild_l5 (u : Nat) (p0 : Int32) (p1 : Int32) (M : KMem) : (Int32 × Int32) → Option ((Int32 × Int32) ⊕ Int32) := fun (v3_1, v4_2) =>
 if 8 ≤ v4_2 then
 (some (.inr v3_1))
 else
 (Option.bind (m_Tw_hasSign u v4_2 M) fun x5 =>
 if x5 = 0 then
 (some (.inr v3_1))
 else
 (Option.bind (rdI M (u + 4) 8 v4_2) fun x8 =>
 Option.bind (α := Int32) (if x8 = p0 then
 (if p1 = 0 then
 (some (v3_1 + 1))
 else
 (Option.bind (m_Tw_isWrong u v4_2 M) fun x14 =>
 if x14 = 0 then
 (some v3_1)
 else
 (some (v3_1 + 1))))
 else
 (some v3_1)) fun v3_9 =>
 some (.inl (v3_9, v4_2 + 1))))
def m_Tw_signsOfGuild (u : Nat) (p0 : Int32) (p1 : Int32) (M : KMem) : Option Int32 :=
 Option.bind (α := Int32) (kLp (m_Tw_signsOfGuild_l5 u p0 p1 M) kFU (0, 0)) fun v3_16 =>
 some v3_16
set_option maxHeartbeats 4000000 in
set_option maxRecDepth 100000 in
theorem b_Tw_signsOfGuild {X : KX} {B : KB} {L : KLay} {M : KMem} {u : Nat} {p0 : Int32} {p1 : Int32} (G : Good X B RX8 cX8_signsOfGuild 5 rm_Tw_signsOfGuild) (hu : okL L u twT) (h : kOk (m_Tw_signsOfGuild u p0 p1 M) (fun r => RI X B L 5 cX8_signsOfGuild .int rm_Tw_signsOfGuild r M)) : KK X B L 5 0 0 M 0 [(0, .ref (B.1 + u)), (1, .int p0), (2, .int p1)] [] := by
  unfold m_Tw_signsOfGuild at h
  refine k_iconst G (dc d_Tw_signsOfGuild 0 rfl) cI_0 ?_
  refine k_istore_n G (dc d_Tw_signsOfGuild 1 rfl) (ls' := [(3, .int 0), (0, .ref (B.1 + u)), (1, .int p0), (2, .int p1)]) rfl rfl rfl ?_
  refine k_iconst G (dc d_Tw_signsOfGuild 2 rfl) cI_0 ?_
  refine k_istore G (dc d_Tw_signsOfGuild 3 rfl) (ls' := [(4, .int 0), (3, .int 0), (0, .ref (B.1 + u)), (1, .int p0), (2, .int p1)]) rfl rfl ?_
  refine kJ h (fun r17 => KK X B L 5 0 0 M 57 [(3, .int r17)] []) (fun r17 h => ?_) (fun h => ?_)
  · obtain ⟨v3_16, rfl⟩ : ∃ z, z = r17 := ⟨_, rfl⟩
    show KK X B L 5 0 0 M 57 [(3, .int v3_16)] []
    refine k_iload_n G (dc d_Tw_signsOfGuild 27 rfl) 0 rfl rfl ?_
    exact (kOk_s h) _ _ _ _ rfl rfl rfl (dc d_Tw_signsOfGuild 28 rfl)
  · refine k_sub [2, 3, 4, 1, 0] rfl ?_
    refine kLp_ok (P := fun s18 => KK X B L 5 0 0 M 5 [(0, .ref (B.1 + u)), (1, .int p0), (2, .int p1), (3, .int s18.1), (4, .int s18.2)] []) (fun s18 h => ?_) kFU _ h
    obtain ⟨v3_1, v4_2⟩ := s18
    unfold m_Tw_signsOfGuild_l5 at h
    show KK X B L 5 0 0 M 5 [(0, .ref (B.1 + u)), (1, .int p0), (2, .int p1), (3, .int v3_1), (4, .int v4_2)] []
    refine k_iload G (dc d_Tw_signsOfGuild 4 rfl) 4 rfl ?_
    refine k_bipush G (dc d_Tw_signsOfGuild 5 rfl) cB_8 ?_
    refine k_icmp_ge G (dc d_Tw_signsOfGuild 6 rfl) (tgt := 57) rfl (fun c3 => ?_) (fun c3 => ?_)
    · replace h := kOk_p c3 h
      refine k_sub [3] rfl ?_
      have h9 := kOk_s h
      exact h9
    · replace h := kOk_n c3 h
      refine k_aload_n G (dc d_Tw_signsOfGuild 7 rfl) 0 rfl rfl ?_
      refine k_iload G (dc d_Tw_signsOfGuild 8 rfl) 4 rfl ?_
      obtain ⟨x5, e4, h⟩ := kOk_b h
      refine k_cVI G (dc d_Tw_signsOfGuild 9 rfl) kc6 (okL_lt hu (o := 0) 0 rfl) (okL_k hu (o := 0) 0 rfl) mi_Tw_hasSign mv_Tw_hasSign rfl ml_RX8_57 (c_Tw_hasSign (gst G) hu e4) rfl rfl ⟨rfl, rfl⟩ rfl ⟨rfl, rfl⟩ ⟨rfl, rfl⟩ ?_
      refine k_if_eq G (dc d_Tw_signsOfGuild 10 rfl) (tgt := 57) rfl (fun c6 => ?_) (fun c6 => ?_)
      · replace h := kOk_p c6 h
        refine k_sub [3] rfl ?_
        have h9 := kOk_s h
        exact h9
      · replace h := kOk_n c6 h
        refine k_aload_n G (dc d_Tw_signsOfGuild 11 rfl) 0 rfl rfl ?_
        refine k_getR G kc6 (dc d_Tw_signsOfGuild 12 rfl) (okL_lt hu (o := 0) 0 rfl) (okL_k hu (o := 0) 0 rfl) 0 (by decide) rfl fl_RX8_12 (u + 1) (okL_r hu (o := 0) (c := 1) 0 rfl 0 rfl) ?_
        refine k_getR G kc5 (dc d_Tw_signsOfGuild 13 rfl) (okL_lt hu (o := 1) 1 rfl) (okL_k hu (o := 1) 1 rfl) 2 (by decide) rfl fl_RX8_79 (u + 4) (okL_r hu (o := 1) (c := 4) 1 rfl 1 rfl) ?_
        refine k_iload G (dc d_Tw_signsOfGuild 14 rfl) 4 rfl ?_
        obtain ⟨x8, e7, h⟩ := kOk_b h
        refine k_ild G (dc d_Tw_signsOfGuild 15 rfl) (okL_lt hu (o := 4) 4 rfl) (okL_k hu (o := 4) 4 rfl) (okL_n hu (o := 4) 4 rfl) e7 ?_
        refine k_iload_n G (dc d_Tw_signsOfGuild 16 rfl) 1 rfl rfl ?_
        refine kJ h (fun r10 => KK X B L 5 0 0 M 51 [(0, .ref (B.1 + u)), (1, .int p0), (2, .int p1), (3, .int r10), (4, .int v4_2)] []) (fun r10 h => ?_) (fun h => ?_)
        · obtain ⟨v3_9, rfl⟩ : ∃ z, z = r10 := ⟨_, rfl⟩
          show KK X B L 5 0 0 M 51 [(0, .ref (B.1 + u)), (1, .int p0), (2, .int p1), (3, .int v3_9), (4, .int v4_2)] []
          refine k_iinc G (dc d_Tw_signsOfGuild 25 rfl) (ls' := [(4, .int (v4_2 + 1)), (0, .ref (B.1 + u)), (1, .int p0), (2, .int p1), (3, .int v3_9)]) 4 rfl cI_1 rfl rfl ?_
          refine k_goto G (dc d_Tw_signsOfGuild 26 rfl) (tgt := 5) rfl ?_
          refine k_sub [1, 2, 3, 4, 0] rfl ?_
          have h9 := kOk_s h
          exact h9
        · refine k_icmp_ne G (dc d_Tw_signsOfGuild 17 rfl) (tgt := 51) rfl (fun c11 => ?_) (fun c11 => ?_)
          · replace h := kOk_n c11 h
            have h9 := kOk_s h
            exact h9
          · replace h := kOk_p c11 h
            refine k_iload_n G (dc d_Tw_signsOfGuild 18 rfl) 2 rfl rfl ?_
            refine k_if_eq G (dc d_Tw_signsOfGuild 19 rfl) (tgt := 48) rfl (fun c12 => ?_) (fun c12 => ?_)
            · replace h := kOk_p c12 h
              refine k_iinc G (dc d_Tw_signsOfGuild 24 rfl) (ls' := [(3, .int (v3_1 + 1)), (0, .ref (B.1 + u)), (1, .int p0), (2, .int p1), (4, .int v4_2)]) 3 rfl cI_1 rfl rfl ?_
              refine k_sub [1, 2, 3, 0, 4] rfl ?_
              have h9 := kOk_s h
              exact h9
            · replace h := kOk_n c12 h
              refine k_aload_n G (dc d_Tw_signsOfGuild 20 rfl) 0 rfl rfl ?_
              refine k_iload G (dc d_Tw_signsOfGuild 21 rfl) 4 rfl ?_
              obtain ⟨x14, e13, h⟩ := kOk_b h
              refine k_cVI G (dc d_Tw_signsOfGuild 22 rfl) kc6 (okL_lt hu (o := 0) 0 rfl) (okL_k hu (o := 0) 0 rfl) mi_Tw_isWrong mv_Tw_isWrong rfl ml_RX8_147 (c_Tw_isWrong (gst G) hu e13) rfl rfl ⟨rfl, rfl⟩ rfl ⟨rfl, rfl⟩ ⟨rfl, rfl⟩ ?_
              refine k_if_eq G (dc d_Tw_signsOfGuild 23 rfl) (tgt := 51) rfl (fun c15 => ?_) (fun c15 => ?_)
              · replace h := kOk_p c15 h
                have h9 := kOk_s h
                exact h9
              · replace h := kOk_n c15 h
                refine k_iinc G (dc d_Tw_signsOfGuild 24 rfl) (ls' := [(3, .int (v3_1 + 1)), (0, .ref (B.1 + u)), (1, .int p0), (2, .int p1), (4, .int v4_2)]) 3 rfl cI_1 rfl rfl ?_
                refine k_sub [1, 2, 3, 0, 4] rfl ?_
                have h9 := kOk_s h
                exact h9
theorem c_Tw_signsOfGuild {l : Launch} {B : KB} {L : KLay} {M : KMem} {u : Nat} {p0 : Int32} {p1 : Int32} (hst : l.stackTraces = false) (hu : okL L u twT) {r : Int32} (e : m_Tw_signsOfGuild u p0 p1 M = some r) : CtrN l B yX8_signsOfGuild cX8_signsOfGuild 5 (some .int) rm_Tw_signsOfGuild [.ref (B.1 + u), .int p0, .int p1] L M (some (.int r)) L M :=
  mk_I rfl hst rfl (fun X hl G _ R => b_Tw_signsOfGuild G hu ⟨_, e, R⟩)
def I_Tw_numberOfTown : List (Nat × Instr × Nat) := [(0, .iload_n 1, 1), (1, .tableswitch 148 0 10 #[59, 67, 78, 83, 91, 99, 107, 112, 123, 131, 143], 59), (60, .aload_n 0, 1), (61, .getfield 12, 3), (64, .getfield 36, 3), (67, .ireturn, 1), (68, .aload_n 0, 1), (69, .getfield 12, 3), (72, .getfield 64, 3), (75, .getfield 172, 3), (78, .ireturn, 1), (79, .aload_n 0, 1), (80, .invokevirtual 159, 3), (83, .ireturn, 1), (84, .aload_n 0, 1), (85, .getfield 12, 3), (88, .getfield 96, 3), (91, .ireturn, 1), (92, .aload_n 0, 1), (93, .getfield 12, 3), (96, .getfield 141, 3), (99, .ireturn, 1), (100, .aload_n 0, 1), (101, .getfield 12, 3), (104, .getfield 153, 3), (107, .ireturn, 1), (108, .aload_n 0, 1), (109, .invokevirtual 138, 3), (112, .ireturn, 1), (113, .aload_n 0, 1), (114, .getfield 12, 3), (117, .getfield 135, 3), (120, .invokestatic 162, 3), (123, .ireturn, 1), (124, .aload_n 0, 1), (125, .getfield 12, 3), (128, .getfield 129, 3), (131, .ireturn, 1), (132, .aload_n 0, 1), (133, .aload_n 0, 1), (134, .getfield 12, 3), (137, .getfield 61, 3), (140, .invokevirtual 166, 3), (143, .ireturn, 1), (144, .aload_n 0, 1), (145, .invokevirtual 175, 3), (148, .ireturn, 1), (149, .aload_n 0, 1), (150, .invokevirtual 178, 3), (153, .ireturn, 1)]
set_option maxRecDepth 100000 in
theorem d_Tw_numberOfTown : decA cX8_numberOfTown I_Tw_numberOfTown = true := by decide +kernel
abbrev rm_Tw_numberOfTown : Room := ({ frames := 6, cells := 0, slots := 0, locals := 135 } : Room)
def m_Tw_numberOfTown (u : Nat) (p0 : Int32) (M : KMem) : Option (Int32 × KMem) :=
 if p0 = 0 then
 (some (M (u + 1) 1, M))
 else
 (if p0 = 1 then
 (some (M (u + 2) 0, M))
 else
 (if p0 = 2 then
 (Option.bind (m_Tw_wrongSigns u M) fun x15 =>
 some (x15, M))
 else
 (if p0 = 3 then
 (some (M (u + 1) 11, M))
 else
 (if p0 = 4 then
 (some (M (u + 1) 12, M))
 else
 (if p0 = 5 then
 (some (M (u + 1) 13, M))
 else
 (if p0 = 6 then
 (Option.bind (m_Tw_allFines u M) fun x21 =>
 some (x21, M))
 else
 (if p0 = 7 then
 (Option.bind (m_Tw_sum (u + 11) 4 M) fun x24 =>
 some (x24, M))
 else
 (if p0 = 8 then
 (some (M (u + 1) 14, M))
 else
 (if p0 = 9 then
 (Option.bind (m_Tw_lettersOf u (u + 5) 8 M) fun x28 =>
 some (x28, M))
 else
 (if p0 = 10 then
 (Option.bind (m_Tw_lettersOfRights u M) fun x31 =>
 some (x31, M))
 else
 (Option.bind (m_Tw_costOfAll u M) fun (x34, M35) =>
 some (x34, M35))))))))))))
set_option maxHeartbeats 4000000 in
set_option maxRecDepth 100000 in
theorem b_Tw_numberOfTown {X : KX} {B : KB} {L : KLay} {M : KMem} {u : Nat} {p0 : Int32} (G : Good X B RX8 cX8_numberOfTown 2 rm_Tw_numberOfTown) (hu : okL L u twT) (h : kOk (m_Tw_numberOfTown u p0 M) (fun r => RI X B L 2 cX8_numberOfTown .int rm_Tw_numberOfTown r.1 r.2)) : KK X B L 2 0 0 M 0 [(0, .ref (B.1 + u)), (1, .int p0)] [] := by
  unfold m_Tw_numberOfTown at h
  refine k_iload_n G (dc d_Tw_numberOfTown 0 rfl) 1 rfl rfl ?_
  by_cases c1 : p0 = 0
  · replace h := kOk_p c1 h
    refine k_tsI G (dc d_Tw_numberOfTown 1 rfl) (off := 59) (tgt := 60) c1 (by decide) (by decide) (by decide) (by decide) ?_
    refine k_aload_n G (dc d_Tw_numberOfTown 2 rfl) 0 rfl rfl ?_
    refine k_getR G kc6 (dc d_Tw_numberOfTown 3 rfl) (okL_lt hu (o := 0) 0 rfl) (okL_k hu (o := 0) 0 rfl) 0 (by decide) rfl fl_RX8_12 (u + 1) (okL_r hu (o := 0) (c := 1) 0 rfl 0 rfl) ?_
    refine k_getI G kc5 (dc d_Tw_numberOfTown 4 rfl) (okL_lt hu (o := 1) 1 rfl) (okL_k hu (o := 1) 1 rfl) 1 (by decide) rfl fl_RX8_36 ?_
    exact (kOk_s h) _ _ _ _ rfl rfl rfl (dc d_Tw_numberOfTown 5 rfl)
  · replace h := kOk_n c1 h
    by_cases c2 : p0 = 1
    · replace h := kOk_p c2 h
      refine k_tsI G (dc d_Tw_numberOfTown 1 rfl) (off := 67) (tgt := 68) c2 (by decide) (by decide) (by decide) (by decide) ?_
      refine k_aload_n G (dc d_Tw_numberOfTown 6 rfl) 0 rfl rfl ?_
      refine k_getR G kc6 (dc d_Tw_numberOfTown 7 rfl) (okL_lt hu (o := 0) 0 rfl) (okL_k hu (o := 0) 0 rfl) 0 (by decide) rfl fl_RX8_12 (u + 1) (okL_r hu (o := 0) (c := 1) 0 rfl 0 rfl) ?_
      refine k_getR G kc5 (dc d_Tw_numberOfTown 8 rfl) (okL_lt hu (o := 1) 1 rfl) (okL_k hu (o := 1) 1 rfl) 0 (by decide) rfl fl_RX8_64 (u + 2) (okL_r hu (o := 1) (c := 2) 1 rfl 0 rfl) ?_
      refine k_getIN G kc0 (dc d_Tw_numberOfTown 9 rfl) (okL_lt hu (o := 2) 2 rfl) (okL_k hu (o := 2) 2 rfl) 0 (by decide) rfl fl_RX8_172 ?_
      exact (kOk_s h) _ _ _ _ rfl rfl rfl (dc d_Tw_numberOfTown 10 rfl)
    · replace h := kOk_n c2 h
      by_cases c3 : p0 = 2
      · replace h := kOk_p c3 h
        refine k_tsI G (dc d_Tw_numberOfTown 1 rfl) (off := 78) (tgt := 79) c3 (by decide) (by decide) (by decide) (by decide) ?_
        refine k_aload_n G (dc d_Tw_numberOfTown 11 rfl) 0 rfl rfl ?_
        obtain ⟨x15, e14, h⟩ := kOk_b h
        refine k_cVI G (dc d_Tw_numberOfTown 12 rfl) kc6 (okL_lt hu (o := 0) 0 rfl) (okL_k hu (o := 0) 0 rfl) mi_Tw_wrongSigns mv_Tw_wrongSigns rfl ml_RX8_159 (c_Tw_wrongSigns (gst G) hu e14) rfl rfl ⟨rfl, rfl⟩ rfl ⟨rfl, rfl⟩ ⟨rfl, rfl⟩ ?_
        exact (kOk_s h) _ _ _ _ rfl rfl rfl (dc d_Tw_numberOfTown 13 rfl)
      · replace h := kOk_n c3 h
        by_cases c4 : p0 = 3
        · replace h := kOk_p c4 h
          refine k_tsI G (dc d_Tw_numberOfTown 1 rfl) (off := 83) (tgt := 84) c4 (by decide) (by decide) (by decide) (by decide) ?_
          refine k_aload_n G (dc d_Tw_numberOfTown 14 rfl) 0 rfl rfl ?_
          refine k_getR G kc6 (dc d_Tw_numberOfTown 15 rfl) (okL_lt hu (o := 0) 0 rfl) (okL_k hu (o := 0) 0 rfl) 0 (by decide) rfl fl_RX8_12 (u + 1) (okL_r hu (o := 0) (c := 1) 0 rfl 0 rfl) ?_
          refine k_getI G kc5 (dc d_Tw_numberOfTown 16 rfl) (okL_lt hu (o := 1) 1 rfl) (okL_k hu (o := 1) 1 rfl) 11 (by decide) rfl fl_RX8_96 ?_
          exact (kOk_s h) _ _ _ _ rfl rfl rfl (dc d_Tw_numberOfTown 17 rfl)
        · replace h := kOk_n c4 h
          by_cases c5 : p0 = 4
          · replace h := kOk_p c5 h
            refine k_tsI G (dc d_Tw_numberOfTown 1 rfl) (off := 91) (tgt := 92) c5 (by decide) (by decide) (by decide) (by decide) ?_
            refine k_aload_n G (dc d_Tw_numberOfTown 18 rfl) 0 rfl rfl ?_
            refine k_getR G kc6 (dc d_Tw_numberOfTown 19 rfl) (okL_lt hu (o := 0) 0 rfl) (okL_k hu (o := 0) 0 rfl) 0 (by decide) rfl fl_RX8_12 (u + 1) (okL_r hu (o := 0) (c := 1) 0 rfl 0 rfl) ?_
            refine k_getI G kc5 (dc d_Tw_numberOfTown 20 rfl) (okL_lt hu (o := 1) 1 rfl) (okL_k hu (o := 1) 1 rfl) 12 (by decide) rfl fl_RX8_141 ?_
            exact (kOk_s h) _ _ _ _ rfl rfl rfl (dc d_Tw_numberOfTown 21 rfl)
          · replace h := kOk_n c5 h
            by_cases c6 : p0 = 5
            · replace h := kOk_p c6 h
              refine k_tsI G (dc d_Tw_numberOfTown 1 rfl) (off := 99) (tgt := 100) c6 (by decide) (by decide) (by decide) (by decide) ?_
              refine k_aload_n G (dc d_Tw_numberOfTown 22 rfl) 0 rfl rfl ?_
              refine k_getR G kc6 (dc d_Tw_numberOfTown 23 rfl) (okL_lt hu (o := 0) 0 rfl) (okL_k hu (o := 0) 0 rfl) 0 (by decide) rfl fl_RX8_12 (u + 1) (okL_r hu (o := 0) (c := 1) 0 rfl 0 rfl) ?_
              refine k_getI G kc5 (dc d_Tw_numberOfTown 24 rfl) (okL_lt hu (o := 1) 1 rfl) (okL_k hu (o := 1) 1 rfl) 13 (by decide) rfl fl_RX8_153 ?_
              exact (kOk_s h) _ _ _ _ rfl rfl rfl (dc d_Tw_numberOfTown 25 rfl)
            · replace h := kOk_n c6 h
              by_cases c7 : p0 = 6
              · replace h := kOk_p c7 h
                refine k_tsI G (dc d_Tw_numberOfTown 1 rfl) (off := 107) (tgt := 108) c7 (by decide) (by decide) (by decide) (by decide) ?_
                refine k_aload_n G (dc d_Tw_numberOfTown 26 rfl) 0 rfl rfl ?_
                obtain ⟨x21, e20, h⟩ := kOk_b h
                refine k_cVI G (dc d_Tw_numberOfTown 27 rfl) kc6 (okL_lt hu (o := 0) 0 rfl) (okL_k hu (o := 0) 0 rfl) mi_Tw_allFines mv_Tw_allFines rfl ml_RX8_138 (c_Tw_allFines (gst G) hu e20) rfl rfl ⟨rfl, rfl⟩ rfl ⟨rfl, rfl⟩ ⟨rfl, rfl⟩ ?_
                exact (kOk_s h) _ _ _ _ rfl rfl rfl (dc d_Tw_numberOfTown 28 rfl)
              · replace h := kOk_n c7 h
                by_cases c8 : p0 = 7
                · replace h := kOk_p c8 h
                  refine k_tsI G (dc d_Tw_numberOfTown 1 rfl) (off := 112) (tgt := 113) c8 (by decide) (by decide) (by decide) (by decide) ?_
                  refine k_aload_n G (dc d_Tw_numberOfTown 29 rfl) 0 rfl rfl ?_
                  refine k_getR G kc6 (dc d_Tw_numberOfTown 30 rfl) (okL_lt hu (o := 0) 0 rfl) (okL_k hu (o := 0) 0 rfl) 0 (by decide) rfl fl_RX8_12 (u + 1) (okL_r hu (o := 0) (c := 1) 0 rfl 0 rfl) ?_
                  refine k_getR G kc5 (dc d_Tw_numberOfTown 31 rfl) (okL_lt hu (o := 1) 1 rfl) (okL_k hu (o := 1) 1 rfl) 9 (by decide) rfl fl_RX8_135 (u + 11) (okL_r hu (o := 1) (c := 11) 1 rfl 8 rfl) ?_
                  obtain ⟨x24, e23, h⟩ := kOk_b h
                  refine k_cSI G (dc d_Tw_numberOfTown 32 rfl) mi_Tw_sum ms_Tw_sum ml_RX8_162 (c_Tw_sum (gst G) (okL_a hu (o := 11) 11 rfl) e23) rfl rfl ⟨rfl, rfl⟩ rfl ⟨rfl, rfl⟩ ⟨rfl, rfl⟩ ?_
                  exact (kOk_s h) _ _ _ _ rfl rfl rfl (dc d_Tw_numberOfTown 33 rfl)
                · replace h := kOk_n c8 h
                  by_cases c9 : p0 = 8
                  · replace h := kOk_p c9 h
                    refine k_tsI G (dc d_Tw_numberOfTown 1 rfl) (off := 123) (tgt := 124) c9 (by decide) (by decide) (by decide) (by decide) ?_
                    refine k_aload_n G (dc d_Tw_numberOfTown 34 rfl) 0 rfl rfl ?_
                    refine k_getR G kc6 (dc d_Tw_numberOfTown 35 rfl) (okL_lt hu (o := 0) 0 rfl) (okL_k hu (o := 0) 0 rfl) 0 (by decide) rfl fl_RX8_12 (u + 1) (okL_r hu (o := 0) (c := 1) 0 rfl 0 rfl) ?_
                    refine k_getI G kc5 (dc d_Tw_numberOfTown 36 rfl) (okL_lt hu (o := 1) 1 rfl) (okL_k hu (o := 1) 1 rfl) 14 (by decide) rfl fl_RX8_129 ?_
                    exact (kOk_s h) _ _ _ _ rfl rfl rfl (dc d_Tw_numberOfTown 37 rfl)
                  · replace h := kOk_n c9 h
                    by_cases c10 : p0 = 9
                    · replace h := kOk_p c10 h
                      refine k_tsI G (dc d_Tw_numberOfTown 1 rfl) (off := 131) (tgt := 132) c10 (by decide) (by decide) (by decide) (by decide) ?_
                      refine k_aload_n G (dc d_Tw_numberOfTown 38 rfl) 0 rfl rfl ?_
                      refine k_aload_n G (dc d_Tw_numberOfTown 39 rfl) 0 rfl rfl ?_
                      refine k_getR G kc6 (dc d_Tw_numberOfTown 40 rfl) (okL_lt hu (o := 0) 0 rfl) (okL_k hu (o := 0) 0 rfl) 0 (by decide) rfl fl_RX8_12 (u + 1) (okL_r hu (o := 0) (c := 1) 0 rfl 0 rfl) ?_
                      refine k_getR G kc5 (dc d_Tw_numberOfTown 41 rfl) (okL_lt hu (o := 1) 1 rfl) (okL_k hu (o := 1) 1 rfl) 3 (by decide) rfl fl_RX8_61 (u + 5) (okL_r hu (o := 1) (c := 5) 1 rfl 2 rfl) ?_
                      obtain ⟨x28, e27, h⟩ := kOk_b h
                      refine k_cVI G (dc d_Tw_numberOfTown 42 rfl) kc6 (okL_lt hu (o := 0) 0 rfl) (okL_k hu (o := 0) 0 rfl) mi_Tw_lettersOf mv_Tw_lettersOf rfl ml_RX8_166 (c_Tw_lettersOf (gst G) hu (okL_a hu (o := 5) 5 rfl) e27) rfl rfl ⟨rfl, rfl⟩ rfl ⟨rfl, rfl⟩ ⟨rfl, rfl⟩ ?_
                      exact (kOk_s h) _ _ _ _ rfl rfl rfl (dc d_Tw_numberOfTown 43 rfl)
                    · replace h := kOk_n c10 h
                      by_cases c11 : p0 = 10
                      · replace h := kOk_p c11 h
                        refine k_tsI G (dc d_Tw_numberOfTown 1 rfl) (off := 143) (tgt := 144) c11 (by decide) (by decide) (by decide) (by decide) ?_
                        refine k_aload_n G (dc d_Tw_numberOfTown 44 rfl) 0 rfl rfl ?_
                        obtain ⟨x31, e30, h⟩ := kOk_b h
                        refine k_cVI G (dc d_Tw_numberOfTown 45 rfl) kc6 (okL_lt hu (o := 0) 0 rfl) (okL_k hu (o := 0) 0 rfl) mi_Tw_lettersOfRights mv_Tw_lettersOfRights rfl ml_RX8_175 (c_Tw_lettersOfRights (gst G) hu e30) rfl rfl ⟨rfl, rfl⟩ rfl ⟨rfl, rfl⟩ ⟨rfl, rfl⟩ ?_
                        exact (kOk_s h) _ _ _ _ rfl rfl rfl (dc d_Tw_numberOfTown 46 rfl)
                      · replace h := kOk_n c11 h
                        have hD36 : KK X B L 2 0 0 M 149 [(0, .ref (B.1 + u)), (1, .int p0)] [] := by
                          refine k_aload_n G (dc d_Tw_numberOfTown 47 rfl) 0 rfl rfl ?_
                          obtain ⟨⟨x34, M35⟩, e33, h⟩ := kOk_b h
                          refine k_cVI G (dc d_Tw_numberOfTown 48 rfl) kc6 (okL_lt hu (o := 0) 0 rfl) (okL_k hu (o := 0) 0 rfl) mi_Tw_costOfAll mv_Tw_costOfAll rfl ml_RX8_178 (c_Tw_costOfAll (gst G) hu e33) rfl rfl ⟨rfl, rfl⟩ rfl ⟨rfl, rfl⟩ ⟨rfl, rfl⟩ ?_
                          exact (kOk_s h) _ _ _ _ rfl rfl rfl (dc d_Tw_numberOfTown 49 rfl)
                        rcases ts_out p0 0 10 with ho | ⟨k9, h91, h92, h93⟩
                        · exact k_tableOut G (dc d_Tw_numberOfTown 1 rfl) (tgt := 149) ho rfl hD36
                        · have h94 : k9 = 0 ∨ k9 = 1 ∨ k9 = 2 ∨ k9 = 3 ∨ k9 = 4 ∨ k9 = 5 ∨ k9 = 6 ∨ k9 = 7 ∨ k9 = 8 ∨ k9 = 9 ∨ k9 = 10 := by omega
                          rcases h94 with rfl | rfl | rfl | rfl | rfl | rfl | rfl | rfl | rfl | rfl | rfl
                          · exact absurd (h93.trans cI_0) c1
                          · exact absurd (h93.trans cI_1) c2
                          · exact absurd (h93.trans cI_2) c3
                          · exact absurd (h93.trans cI_3) c4
                          · exact absurd (h93.trans cI_4) c5
                          · exact absurd (h93.trans cI_5) c6
                          · exact absurd (h93.trans cI_6) c7
                          · exact absurd (h93.trans cI_7) c8
                          · exact absurd (h93.trans cI_8) c9
                          · exact absurd (h93.trans cI_9) c10
                          · exact absurd (h93.trans cI_10) c11
theorem c_Tw_numberOfTown {l : Launch} {B : KB} {L : KLay} {M : KMem} {u : Nat} {p0 : Int32} (hst : l.stackTraces = false) (hu : okL L u twT) {r : Int32} {M' : KMem} (e : m_Tw_numberOfTown u p0 M = some (r, M')) : CtrN l B yX8_numberOfTown cX8_numberOfTown 2 (some .int) rm_Tw_numberOfTown [.ref (B.1 + u), .int p0] L M (some (.int r)) L M' :=
  mk_I rfl hst rfl (fun X hl G _ R => b_Tw_numberOfTown G hu ⟨_, e, R⟩)
def I_Tw_numberOfSign : List (Nat × Instr × Nat) := [(0, .aload_n 0, 1), (1, .iload_n 1, 1), (2, .invokevirtual 57, 3), (5, .ifCond .ne 5, 3), (8, .iconst 0, 1), (9, .ireturn, 1), (10, .iload_n 2, 1), (11, .tableswitch 107 0 6 #[41, 51, 61, 71, 85, 91, 97], 41), (52, .aload_n 0, 1), (53, .getfield 12, 3), (56, .getfield 79, 3), (59, .iload_n 1, 1), (60, .iaload, 1), (61, .ireturn, 1), (62, .aload_n 0, 1), (63, .getfield 12, 3), (66, .getfield 61, 3), (69, .iload_n 1, 1), (70, .iaload, 1), (71, .ireturn, 1), (72, .aload_n 0, 1), (73, .getfield 12, 3), (76, .getfield 40, 3), (79, .iload_n 1, 1), (80, .iaload, 1), (81, .ireturn, 1), (82, .aload_n 0, 1), (83, .iload_n 1, 1), (84, .invokevirtual 147, 3), (87, .ifCond .eq 7, 3), (90, .iconst 1, 1), (91, .goto 4, 3), (94, .iconst 0, 1), (95, .ireturn, 1), (96, .aload_n 0, 1), (97, .iload_n 1, 1), (98, .invokevirtual 50, 3), (101, .ireturn, 1), (102, .aload_n 0, 1), (103, .iload_n 1, 1), (104, .invokevirtual 132, 3), (107, .ireturn, 1), (108, .aload_n 0, 1), (109, .getfield 12, 3), (112, .getfield 82, 3), (115, .iload_n 1, 1), (116, .iaload, 1), (117, .ireturn, 1), (118, .aload_n 0, 1), (119, .getfield 12, 3), (122, .getfield 85, 3), (125, .iload_n 1, 1), (126, .iaload, 1), (127, .ireturn, 1)]
set_option maxRecDepth 100000 in
theorem d_Tw_numberOfSign : decA cX8_numberOfSign I_Tw_numberOfSign = true := by decide +kernel
abbrev rm_Tw_numberOfSign : Room := ({ frames := 5, cells := 0, slots := 0, locals := 113 } : Room)
def m_Tw_numberOfSign (u : Nat) (p0 : Int32) (p1 : Int32) (M : KMem) : Option (Int32 × KMem) :=
 Option.bind (m_Tw_hasSign u p0 M) fun x2 =>
 if x2 = 0 then
 (some (0, M))
 else
 (if p1 = 0 then
 (Option.bind (rdI M (u + 4) 8 p0) fun x12 =>
 some (x12, M))
 else
 (if p1 = 1 then
 (Option.bind (rdI M (u + 5) 8 p0) fun x15 =>
 some (x15, M))
 else
 (if p1 = 2 then
 (Option.bind (rdI M (u + 6) 8 p0) fun x18 =>
 some (x18, M))
 else
 (if p1 = 3 then
 (Option.bind (m_Tw_isWrong u p0 M) fun x21 =>
 Option.bind (α := Int32) (if x21 = 0 then
 (some 0)
 else
 (some 1)) fun t22 =>
 some (t22, M))
 else
 (if p1 = 4 then
 (Option.bind (m_Tw_lettersWrong u p0 M) fun (x27, M28) =>
 some (x27, M28))
 else
 (if p1 = 5 then
 (Option.bind (m_Tw_costOf u p0 M) fun (x31, M32) =>
 some (x31, M32))
 else
 (if p1 = 6 then
 (Option.bind (rdI M (u + 8) 8 p0) fun x35 =>
 some (x35, M))
 else
 (Option.bind (rdI M (u + 9) 8 p0) fun x38 =>
 some (x38, M)))))))))
set_option maxHeartbeats 4000000 in
set_option maxRecDepth 100000 in
theorem b_Tw_numberOfSign {X : KX} {B : KB} {L : KLay} {M : KMem} {u : Nat} {p0 : Int32} {p1 : Int32} (G : Good X B RX8 cX8_numberOfSign 3 rm_Tw_numberOfSign) (hu : okL L u twT) (h : kOk (m_Tw_numberOfSign u p0 p1 M) (fun r => RI X B L 3 cX8_numberOfSign .int rm_Tw_numberOfSign r.1 r.2)) : KK X B L 3 0 0 M 0 [(0, .ref (B.1 + u)), (1, .int p0), (2, .int p1)] [] := by
  unfold m_Tw_numberOfSign at h
  refine k_aload_n G (dc d_Tw_numberOfSign 0 rfl) 0 rfl rfl ?_
  refine k_iload_n G (dc d_Tw_numberOfSign 1 rfl) 1 rfl rfl ?_
  obtain ⟨x2, e1, h⟩ := kOk_b h
  refine k_cVI G (dc d_Tw_numberOfSign 2 rfl) kc6 (okL_lt hu (o := 0) 0 rfl) (okL_k hu (o := 0) 0 rfl) mi_Tw_hasSign mv_Tw_hasSign rfl ml_RX8_57 (c_Tw_hasSign (gst G) hu e1) rfl rfl ⟨rfl, rfl⟩ rfl ⟨rfl, rfl⟩ ⟨rfl, rfl⟩ ?_
  refine k_if_ne G (dc d_Tw_numberOfSign 3 rfl) (tgt := 10) rfl (fun c3 => ?_) (fun c3 => ?_)
  · replace h := kOk_n c3 h
    refine k_iload_n G (dc d_Tw_numberOfSign 6 rfl) 2 rfl rfl ?_
    by_cases c4 : p1 = 0
    · replace h := kOk_p c4 h
      refine k_tsI G (dc d_Tw_numberOfSign 7 rfl) (off := 41) (tgt := 52) c4 (by decide) (by decide) (by decide) (by decide) ?_
      refine k_aload_n G (dc d_Tw_numberOfSign 8 rfl) 0 rfl rfl ?_
      refine k_getR G kc6 (dc d_Tw_numberOfSign 9 rfl) (okL_lt hu (o := 0) 0 rfl) (okL_k hu (o := 0) 0 rfl) 0 (by decide) rfl fl_RX8_12 (u + 1) (okL_r hu (o := 0) (c := 1) 0 rfl 0 rfl) ?_
      refine k_getR G kc5 (dc d_Tw_numberOfSign 10 rfl) (okL_lt hu (o := 1) 1 rfl) (okL_k hu (o := 1) 1 rfl) 2 (by decide) rfl fl_RX8_79 (u + 4) (okL_r hu (o := 1) (c := 4) 1 rfl 1 rfl) ?_
      refine k_iload_n G (dc d_Tw_numberOfSign 11 rfl) 1 rfl rfl ?_
      obtain ⟨x12, e11, h⟩ := kOk_b h
      refine k_ild G (dc d_Tw_numberOfSign 12 rfl) (okL_lt hu (o := 4) 4 rfl) (okL_k hu (o := 4) 4 rfl) (okL_n hu (o := 4) 4 rfl) e11 ?_
      exact (kOk_s h) _ _ _ _ rfl rfl rfl (dc d_Tw_numberOfSign 13 rfl)
    · replace h := kOk_n c4 h
      by_cases c5 : p1 = 1
      · replace h := kOk_p c5 h
        refine k_tsI G (dc d_Tw_numberOfSign 7 rfl) (off := 51) (tgt := 62) c5 (by decide) (by decide) (by decide) (by decide) ?_
        refine k_aload_n G (dc d_Tw_numberOfSign 14 rfl) 0 rfl rfl ?_
        refine k_getR G kc6 (dc d_Tw_numberOfSign 15 rfl) (okL_lt hu (o := 0) 0 rfl) (okL_k hu (o := 0) 0 rfl) 0 (by decide) rfl fl_RX8_12 (u + 1) (okL_r hu (o := 0) (c := 1) 0 rfl 0 rfl) ?_
        refine k_getR G kc5 (dc d_Tw_numberOfSign 16 rfl) (okL_lt hu (o := 1) 1 rfl) (okL_k hu (o := 1) 1 rfl) 3 (by decide) rfl fl_RX8_61 (u + 5) (okL_r hu (o := 1) (c := 5) 1 rfl 2 rfl) ?_
        refine k_iload_n G (dc d_Tw_numberOfSign 17 rfl) 1 rfl rfl ?_
        obtain ⟨x15, e14, h⟩ := kOk_b h
        refine k_ild G (dc d_Tw_numberOfSign 18 rfl) (okL_lt hu (o := 5) 5 rfl) (okL_k hu (o := 5) 5 rfl) (okL_n hu (o := 5) 5 rfl) e14 ?_
        exact (kOk_s h) _ _ _ _ rfl rfl rfl (dc d_Tw_numberOfSign 19 rfl)
      · replace h := kOk_n c5 h
        by_cases c6 : p1 = 2
        · replace h := kOk_p c6 h
          refine k_tsI G (dc d_Tw_numberOfSign 7 rfl) (off := 61) (tgt := 72) c6 (by decide) (by decide) (by decide) (by decide) ?_
          refine k_aload_n G (dc d_Tw_numberOfSign 20 rfl) 0 rfl rfl ?_
          refine k_getR G kc6 (dc d_Tw_numberOfSign 21 rfl) (okL_lt hu (o := 0) 0 rfl) (okL_k hu (o := 0) 0 rfl) 0 (by decide) rfl fl_RX8_12 (u + 1) (okL_r hu (o := 0) (c := 1) 0 rfl 0 rfl) ?_
          refine k_getR G kc5 (dc d_Tw_numberOfSign 22 rfl) (okL_lt hu (o := 1) 1 rfl) (okL_k hu (o := 1) 1 rfl) 4 (by decide) rfl fl_RX8_40 (u + 6) (okL_r hu (o := 1) (c := 6) 1 rfl 3 rfl) ?_
          refine k_iload_n G (dc d_Tw_numberOfSign 23 rfl) 1 rfl rfl ?_
          obtain ⟨x18, e17, h⟩ := kOk_b h
          refine k_ild G (dc d_Tw_numberOfSign 24 rfl) (okL_lt hu (o := 6) 6 rfl) (okL_k hu (o := 6) 6 rfl) (okL_n hu (o := 6) 6 rfl) e17 ?_
          exact (kOk_s h) _ _ _ _ rfl rfl rfl (dc d_Tw_numberOfSign 25 rfl)
        · replace h := kOk_n c6 h
          by_cases c7 : p1 = 3
          · replace h := kOk_p c7 h
            refine k_tsI G (dc d_Tw_numberOfSign 7 rfl) (off := 71) (tgt := 82) c7 (by decide) (by decide) (by decide) (by decide) ?_
            refine k_aload_n G (dc d_Tw_numberOfSign 26 rfl) 0 rfl rfl ?_
            refine k_iload_n G (dc d_Tw_numberOfSign 27 rfl) 1 rfl rfl ?_
            obtain ⟨x21, e20, h⟩ := kOk_b h
            refine k_cVI G (dc d_Tw_numberOfSign 28 rfl) kc6 (okL_lt hu (o := 0) 0 rfl) (okL_k hu (o := 0) 0 rfl) mi_Tw_isWrong mv_Tw_isWrong rfl ml_RX8_147 (c_Tw_isWrong (gst G) hu e20) rfl rfl ⟨rfl, rfl⟩ rfl ⟨rfl, rfl⟩ ⟨rfl, rfl⟩ ?_
            refine kJ h (fun r23 => KK X B L 3 0 0 M 95 [] [.int r23]) (fun r23 h => ?_) (fun h => ?_)
            · obtain ⟨t22, rfl⟩ : ∃ z, z = r23 := ⟨_, rfl⟩
              show KK X B L 3 0 0 M 95 [] [.int t22]
              exact (kOk_s h) _ _ _ _ rfl rfl rfl (dc d_Tw_numberOfSign 33 rfl)
            · refine k_if_eq G (dc d_Tw_numberOfSign 29 rfl) (tgt := 94) rfl (fun c24 => ?_) (fun c24 => ?_)
              · replace h := kOk_p c24 h
                refine k_iconst G (dc d_Tw_numberOfSign 32 rfl) cI_0 ?_
                refine k_sub [] rfl ?_
                have h9 := kOk_s h
                exact h9
              · replace h := kOk_n c24 h
                refine k_iconst G (dc d_Tw_numberOfSign 30 rfl) cI_1 ?_
                refine k_goto G (dc d_Tw_numberOfSign 31 rfl) (tgt := 95) rfl ?_
                refine k_sub [] rfl ?_
                have h9 := kOk_s h
                exact h9
          · replace h := kOk_n c7 h
            by_cases c8 : p1 = 4
            · replace h := kOk_p c8 h
              refine k_tsI G (dc d_Tw_numberOfSign 7 rfl) (off := 85) (tgt := 96) c8 (by decide) (by decide) (by decide) (by decide) ?_
              refine k_aload_n G (dc d_Tw_numberOfSign 34 rfl) 0 rfl rfl ?_
              refine k_iload_n G (dc d_Tw_numberOfSign 35 rfl) 1 rfl rfl ?_
              obtain ⟨⟨x27, M28⟩, e26, h⟩ := kOk_b h
              refine k_cVI G (dc d_Tw_numberOfSign 36 rfl) kc6 (okL_lt hu (o := 0) 0 rfl) (okL_k hu (o := 0) 0 rfl) mi_Tw_lettersWrong mv_Tw_lettersWrong rfl ml_RX8_50 (c_Tw_lettersWrong (gst G) hu e26) rfl rfl ⟨rfl, rfl⟩ rfl ⟨rfl, rfl⟩ ⟨rfl, rfl⟩ ?_
              exact (kOk_s h) _ _ _ _ rfl rfl rfl (dc d_Tw_numberOfSign 37 rfl)
            · replace h := kOk_n c8 h
              by_cases c9 : p1 = 5
              · replace h := kOk_p c9 h
                refine k_tsI G (dc d_Tw_numberOfSign 7 rfl) (off := 91) (tgt := 102) c9 (by decide) (by decide) (by decide) (by decide) ?_
                refine k_aload_n G (dc d_Tw_numberOfSign 38 rfl) 0 rfl rfl ?_
                refine k_iload_n G (dc d_Tw_numberOfSign 39 rfl) 1 rfl rfl ?_
                obtain ⟨⟨x31, M32⟩, e30, h⟩ := kOk_b h
                refine k_cVI G (dc d_Tw_numberOfSign 40 rfl) kc6 (okL_lt hu (o := 0) 0 rfl) (okL_k hu (o := 0) 0 rfl) mi_Tw_costOf mv_Tw_costOf rfl ml_RX8_132 (c_Tw_costOf (gst G) hu e30) rfl rfl ⟨rfl, rfl⟩ rfl ⟨rfl, rfl⟩ ⟨rfl, rfl⟩ ?_
                exact (kOk_s h) _ _ _ _ rfl rfl rfl (dc d_Tw_numberOfSign 41 rfl)
              · replace h := kOk_n c9 h
                by_cases c10 : p1 = 6
                · replace h := kOk_p c10 h
                  refine k_tsI G (dc d_Tw_numberOfSign 7 rfl) (off := 97) (tgt := 108) c10 (by decide) (by decide) (by decide) (by decide) ?_
                  refine k_aload_n G (dc d_Tw_numberOfSign 42 rfl) 0 rfl rfl ?_
                  refine k_getR G kc6 (dc d_Tw_numberOfSign 43 rfl) (okL_lt hu (o := 0) 0 rfl) (okL_k hu (o := 0) 0 rfl) 0 (by decide) rfl fl_RX8_12 (u + 1) (okL_r hu (o := 0) (c := 1) 0 rfl 0 rfl) ?_
                  refine k_getR G kc5 (dc d_Tw_numberOfSign 44 rfl) (okL_lt hu (o := 1) 1 rfl) (okL_k hu (o := 1) 1 rfl) 6 (by decide) rfl fl_RX8_82 (u + 8) (okL_r hu (o := 1) (c := 8) 1 rfl 5 rfl) ?_
                  refine k_iload_n G (dc d_Tw_numberOfSign 45 rfl) 1 rfl rfl ?_
                  obtain ⟨x35, e34, h⟩ := kOk_b h
                  refine k_ild G (dc d_Tw_numberOfSign 46 rfl) (okL_lt hu (o := 8) 8 rfl) (okL_k hu (o := 8) 8 rfl) (okL_n hu (o := 8) 8 rfl) e34 ?_
                  exact (kOk_s h) _ _ _ _ rfl rfl rfl (dc d_Tw_numberOfSign 47 rfl)
                · replace h := kOk_n c10 h
                  have hD39 : KK X B L 3 0 0 M 118 [(0, .ref (B.1 + u)), (1, .int p0), (2, .int p1)] [] := by
                    refine k_aload_n G (dc d_Tw_numberOfSign 48 rfl) 0 rfl rfl ?_
                    refine k_getR G kc6 (dc d_Tw_numberOfSign 49 rfl) (okL_lt hu (o := 0) 0 rfl) (okL_k hu (o := 0) 0 rfl) 0 (by decide) rfl fl_RX8_12 (u + 1) (okL_r hu (o := 0) (c := 1) 0 rfl 0 rfl) ?_
                    refine k_getR G kc5 (dc d_Tw_numberOfSign 50 rfl) (okL_lt hu (o := 1) 1 rfl) (okL_k hu (o := 1) 1 rfl) 7 (by decide) rfl fl_RX8_85 (u + 9) (okL_r hu (o := 1) (c := 9) 1 rfl 6 rfl) ?_
                    refine k_iload_n G (dc d_Tw_numberOfSign 51 rfl) 1 rfl rfl ?_
                    obtain ⟨x38, e37, h⟩ := kOk_b h
                    refine k_ild G (dc d_Tw_numberOfSign 52 rfl) (okL_lt hu (o := 9) 9 rfl) (okL_k hu (o := 9) 9 rfl) (okL_n hu (o := 9) 9 rfl) e37 ?_
                    exact (kOk_s h) _ _ _ _ rfl rfl rfl (dc d_Tw_numberOfSign 53 rfl)
                  rcases ts_out p1 0 6 with ho | ⟨k9, h91, h92, h93⟩
                  · exact k_tableOut G (dc d_Tw_numberOfSign 7 rfl) (tgt := 118) ho rfl hD39
                  · have h94 : k9 = 0 ∨ k9 = 1 ∨ k9 = 2 ∨ k9 = 3 ∨ k9 = 4 ∨ k9 = 5 ∨ k9 = 6 := by omega
                    rcases h94 with rfl | rfl | rfl | rfl | rfl | rfl | rfl
                    · exact absurd (h93.trans cI_0) c4
                    · exact absurd (h93.trans cI_1) c5
                    · exact absurd (h93.trans cI_2) c6
                    · exact absurd (h93.trans cI_3) c7
                    · exact absurd (h93.trans cI_4) c8
                    · exact absurd (h93.trans cI_5) c9
                    · exact absurd (h93.trans cI_6) c10
  · replace h := kOk_p c3 h
    refine k_iconst G (dc d_Tw_numberOfSign 4 rfl) cI_0 ?_
    exact (kOk_s h) _ _ _ _ rfl rfl rfl (dc d_Tw_numberOfSign 5 rfl)
theorem c_Tw_numberOfSign {l : Launch} {B : KB} {L : KLay} {M : KMem} {u : Nat} {p0 : Int32} {p1 : Int32} (hst : l.stackTraces = false) (hu : okL L u twT) {r : Int32} {M' : KMem} (e : m_Tw_numberOfSign u p0 p1 M = some (r, M')) : CtrN l B yX8_numberOfSign cX8_numberOfSign 3 (some .int) rm_Tw_numberOfSign [.ref (B.1 + u), .int p0, .int p1] L M (some (.int r)) L M' :=
  mk_I rfl hst rfl (fun X hl G _ R => b_Tw_numberOfSign G hu ⟨_, e, R⟩)
def I_Tw_numberOfGuild : List (Nat × Instr × Nat) := [(0, .iload_n 1, 1), (1, .ifCond .lt 8, 3), (4, .iload_n 1, 1), (5, .iconst 4, 1), (6, .if_icmp .lt 5, 3), (9, .iconst 0, 1), (10, .ireturn, 1), (11, .iload_n 2, 1), (12, .tableswitch 52 0 2 #[28, 35, 42], 28), (40, .aload_n 0, 1), (41, .iload_n 1, 1), (42, .iconst 0, 1), (43, .invokevirtual 181, 3), (46, .ireturn, 1), (47, .aload_n 0, 1), (48, .iload_n 1, 1), (49, .iconst 1, 1), (50, .invokevirtual 181, 3), (53, .ireturn, 1), (54, .aload_n 0, 1), (55, .getfield 12, 3), (58, .getfield 150, 3), (61, .iload_n 1, 1), (62, .iaload, 1), (63, .ireturn, 1), (64, .aload_n 0, 1), (65, .getfield 12, 3), (68, .getfield 135, 3), (71, .iload_n 1, 1), (72, .iaload, 1), (73, .ireturn, 1)]
set_option maxRecDepth 100000 in
theorem d_Tw_numberOfGuild : decA cX8_numberOfGuild I_Tw_numberOfGuild = true := by decide +kernel
abbrev rm_Tw_numberOfGuild : Room := ({ frames := 2, cells := 0, slots := 0, locals := 45 } : Room)
def m_Tw_numberOfGuild (u : Nat) (p0 : Int32) (p1 : Int32) (M : KMem) : Option Int32 :=
 if p0 < 0 then
 (some 0)
 else
 (if p0 < 4 then
 (if p1 = 0 then
 (Option.bind (m_Tw_signsOfGuild u p0 0 M) fun x7 =>
 some x7)
 else
 (if p1 = 1 then
 (Option.bind (m_Tw_signsOfGuild u p0 1 M) fun x10 =>
 some x10)
 else
 (if p1 = 2 then
 (Option.bind (rdI M (u + 10) 4 p0) fun x13 =>
 some x13)
 else
 (Option.bind (rdI M (u + 11) 4 p0) fun x16 =>
 some x16))))
 else
 (some 0))
set_option maxHeartbeats 4000000 in
set_option maxRecDepth 100000 in
theorem b_Tw_numberOfGuild {X : KX} {B : KB} {L : KLay} {M : KMem} {u : Nat} {p0 : Int32} {p1 : Int32} (G : Good X B RX8 cX8_numberOfGuild 3 rm_Tw_numberOfGuild) (hu : okL L u twT) (h : kOk (m_Tw_numberOfGuild u p0 p1 M) (fun r => RI X B L 3 cX8_numberOfGuild .int rm_Tw_numberOfGuild r M)) : KK X B L 3 0 0 M 0 [(0, .ref (B.1 + u)), (1, .int p0), (2, .int p1)] [] := by
  unfold m_Tw_numberOfGuild at h
  refine k_iload_n G (dc d_Tw_numberOfGuild 0 rfl) 1 rfl rfl ?_
  refine k_if_lt G (dc d_Tw_numberOfGuild 1 rfl) (tgt := 9) rfl (fun c1 => ?_) (fun c1 => ?_)
  · replace h := kOk_p c1 h
    refine k_iconst G (dc d_Tw_numberOfGuild 5 rfl) cI_0 ?_
    exact (kOk_s h) _ _ _ _ rfl rfl rfl (dc d_Tw_numberOfGuild 6 rfl)
  · replace h := kOk_n c1 h
    refine k_iload_n G (dc d_Tw_numberOfGuild 2 rfl) 1 rfl rfl ?_
    refine k_iconst G (dc d_Tw_numberOfGuild 3 rfl) cI_4 ?_
    refine k_icmp_lt G (dc d_Tw_numberOfGuild 4 rfl) (tgt := 11) rfl (fun c2 => ?_) (fun c2 => ?_)
    · replace h := kOk_p c2 h
      refine k_iload_n G (dc d_Tw_numberOfGuild 7 rfl) 2 rfl rfl ?_
      by_cases c3 : p1 = 0
      · replace h := kOk_p c3 h
        refine k_tsI G (dc d_Tw_numberOfGuild 8 rfl) (off := 28) (tgt := 40) c3 (by decide) (by decide) (by decide) (by decide) ?_
        refine k_aload_n G (dc d_Tw_numberOfGuild 9 rfl) 0 rfl rfl ?_
        refine k_iload_n G (dc d_Tw_numberOfGuild 10 rfl) 1 rfl rfl ?_
        refine k_iconst G (dc d_Tw_numberOfGuild 11 rfl) cI_0 ?_
        obtain ⟨x7, e6, h⟩ := kOk_b h
        refine k_cVI G (dc d_Tw_numberOfGuild 12 rfl) kc6 (okL_lt hu (o := 0) 0 rfl) (okL_k hu (o := 0) 0 rfl) mi_Tw_signsOfGuild mv_Tw_signsOfGuild rfl ml_RX8_181 (c_Tw_signsOfGuild (gst G) hu e6) rfl rfl ⟨rfl, rfl⟩ rfl ⟨rfl, rfl⟩ ⟨rfl, rfl⟩ ?_
        exact (kOk_s h) _ _ _ _ rfl rfl rfl (dc d_Tw_numberOfGuild 13 rfl)
      · replace h := kOk_n c3 h
        by_cases c4 : p1 = 1
        · replace h := kOk_p c4 h
          refine k_tsI G (dc d_Tw_numberOfGuild 8 rfl) (off := 35) (tgt := 47) c4 (by decide) (by decide) (by decide) (by decide) ?_
          refine k_aload_n G (dc d_Tw_numberOfGuild 14 rfl) 0 rfl rfl ?_
          refine k_iload_n G (dc d_Tw_numberOfGuild 15 rfl) 1 rfl rfl ?_
          refine k_iconst G (dc d_Tw_numberOfGuild 16 rfl) cI_1 ?_
          obtain ⟨x10, e9, h⟩ := kOk_b h
          refine k_cVI G (dc d_Tw_numberOfGuild 17 rfl) kc6 (okL_lt hu (o := 0) 0 rfl) (okL_k hu (o := 0) 0 rfl) mi_Tw_signsOfGuild mv_Tw_signsOfGuild rfl ml_RX8_181 (c_Tw_signsOfGuild (gst G) hu e9) rfl rfl ⟨rfl, rfl⟩ rfl ⟨rfl, rfl⟩ ⟨rfl, rfl⟩ ?_
          exact (kOk_s h) _ _ _ _ rfl rfl rfl (dc d_Tw_numberOfGuild 18 rfl)
        · replace h := kOk_n c4 h
          by_cases c5 : p1 = 2
          · replace h := kOk_p c5 h
            refine k_tsI G (dc d_Tw_numberOfGuild 8 rfl) (off := 42) (tgt := 54) c5 (by decide) (by decide) (by decide) (by decide) ?_
            refine k_aload_n G (dc d_Tw_numberOfGuild 19 rfl) 0 rfl rfl ?_
            refine k_getR G kc6 (dc d_Tw_numberOfGuild 20 rfl) (okL_lt hu (o := 0) 0 rfl) (okL_k hu (o := 0) 0 rfl) 0 (by decide) rfl fl_RX8_12 (u + 1) (okL_r hu (o := 0) (c := 1) 0 rfl 0 rfl) ?_
            refine k_getR G kc5 (dc d_Tw_numberOfGuild 21 rfl) (okL_lt hu (o := 1) 1 rfl) (okL_k hu (o := 1) 1 rfl) 8 (by decide) rfl fl_RX8_150 (u + 10) (okL_r hu (o := 1) (c := 10) 1 rfl 7 rfl) ?_
            refine k_iload_n G (dc d_Tw_numberOfGuild 22 rfl) 1 rfl rfl ?_
            obtain ⟨x13, e12, h⟩ := kOk_b h
            refine k_ild G (dc d_Tw_numberOfGuild 23 rfl) (okL_lt hu (o := 10) 10 rfl) (okL_k hu (o := 10) 10 rfl) (okL_n hu (o := 10) 10 rfl) e12 ?_
            exact (kOk_s h) _ _ _ _ rfl rfl rfl (dc d_Tw_numberOfGuild 24 rfl)
          · replace h := kOk_n c5 h
            have hD17 : KK X B L 3 0 0 M 64 [(0, .ref (B.1 + u)), (1, .int p0), (2, .int p1)] [] := by
              refine k_aload_n G (dc d_Tw_numberOfGuild 25 rfl) 0 rfl rfl ?_
              refine k_getR G kc6 (dc d_Tw_numberOfGuild 26 rfl) (okL_lt hu (o := 0) 0 rfl) (okL_k hu (o := 0) 0 rfl) 0 (by decide) rfl fl_RX8_12 (u + 1) (okL_r hu (o := 0) (c := 1) 0 rfl 0 rfl) ?_
              refine k_getR G kc5 (dc d_Tw_numberOfGuild 27 rfl) (okL_lt hu (o := 1) 1 rfl) (okL_k hu (o := 1) 1 rfl) 9 (by decide) rfl fl_RX8_135 (u + 11) (okL_r hu (o := 1) (c := 11) 1 rfl 8 rfl) ?_
              refine k_iload_n G (dc d_Tw_numberOfGuild 28 rfl) 1 rfl rfl ?_
              obtain ⟨x16, e15, h⟩ := kOk_b h
              refine k_ild G (dc d_Tw_numberOfGuild 29 rfl) (okL_lt hu (o := 11) 11 rfl) (okL_k hu (o := 11) 11 rfl) (okL_n hu (o := 11) 11 rfl) e15 ?_
              exact (kOk_s h) _ _ _ _ rfl rfl rfl (dc d_Tw_numberOfGuild 30 rfl)
            rcases ts_out p1 0 2 with ho | ⟨k9, h91, h92, h93⟩
            · exact k_tableOut G (dc d_Tw_numberOfGuild 8 rfl) (tgt := 64) ho rfl hD17
            · have h94 : k9 = 0 ∨ k9 = 1 ∨ k9 = 2 := by omega
              rcases h94 with rfl | rfl | rfl
              · exact absurd (h93.trans cI_0) c3
              · exact absurd (h93.trans cI_1) c4
              · exact absurd (h93.trans cI_2) c5
    · replace h := kOk_n c2 h
      refine k_iconst G (dc d_Tw_numberOfGuild 5 rfl) cI_0 ?_
      exact (kOk_s h) _ _ _ _ rfl rfl rfl (dc d_Tw_numberOfGuild 6 rfl)
theorem c_Tw_numberOfGuild {l : Launch} {B : KB} {L : KLay} {M : KMem} {u : Nat} {p0 : Int32} {p1 : Int32} (hst : l.stackTraces = false) (hu : okL L u twT) {r : Int32} (e : m_Tw_numberOfGuild u p0 p1 M = some r) : CtrN l B yX8_numberOfGuild cX8_numberOfGuild 3 (some .int) rm_Tw_numberOfGuild [.ref (B.1 + u), .int p0, .int p1] L M (some (.int r)) L M :=
  mk_I rfl hst rfl (fun X hl G _ R => b_Tw_numberOfGuild G hu ⟨_, e, R⟩)
end
section
/-! laid by wip/whole/lay.py: Sc_isGiven, Sc_monthsPass, Sc_succeeds -/
def I_Sc_isGiven : List (Nat × Instr × Nat) := [(0, .iload_n 1, 1), (1, .iload_n 2, 1), (2, .iload_n 3, 1), (3, .iload 4, 2), (5, .invokestatic 52, 3), (8, .ifCond .eq 19, 3), (11, .aload_n 0, 1), (12, .iload_n 1, 1), (13, .iload_n 2, 1), (14, .iload_n 3, 1), (15, .iload 4, 2), (17, .invokevirtual 58, 3), (20, .ifCond .ne 7, 3), (23, .iconst 1, 1), (24, .goto 4, 3), (27, .iconst 0, 1), (28, .ireturn, 1)]
set_option maxRecDepth 100000 in
theorem d_Sc_isGiven : decA cX5_isGiven I_Sc_isGiven = true := by decide +kernel
abbrev rm_Sc_isGiven : Room := ({ frames := 4, cells := 0, slots := 0, locals := 102 } : Room)
def m_Sc_isGiven (p0 : Nat) (p1 : Int32) (p2 : Int32) (p3 : Int32) (p4 : Int32) (M : KMem) : Option (Int32 × KMem) :=
 Option.bind (m_De_canBe p1 p2 p3 p4) fun x2 =>
 Option.bind (α := Int32 × KMem) (if x2 = 0 then
 (some (0, M))
 else
 (Option.bind (m_Tw_giveDecree p0 p1 p2 p3 p4 M) fun (x10, M11) =>
 if x10 = 0 then
 (some (1, M11))
 else
 (some (0, M11)))) fun (t3, M4) =>
 Option.bind (kz t3) fun z6 =>
 some (z6, M4)
set_option maxHeartbeats 4000000 in
set_option maxRecDepth 100000 in
theorem b_Sc_isGiven {X : KX} {B : KB} {L : KLay} {M : KMem} {p0 : Nat} {p1 : Int32} {p2 : Int32} {p3 : Int32} {p4 : Int32} (G : Good X B RX5 cX5_isGiven 5 rm_Sc_isGiven) (hx : B.2.2.2 = false) (hp0 : okL L p0 twT) (h : kOk (m_Sc_isGiven p0 p1 p2 p3 p4 M) (fun r => RI X B L 5 cX5_isGiven .boolean rm_Sc_isGiven r.1 r.2)) : KK X B L 5 0 0 M 0 [(0, .ref (B.1 + p0)), (1, .int p1), (2, .int p2), (3, .int p3), (4, .int p4)] [] := by
  unfold m_Sc_isGiven at h
  refine k_iload_n G (dc d_Sc_isGiven 0 rfl) 1 rfl rfl ?_
  refine k_iload_n G (dc d_Sc_isGiven 1 rfl) 2 rfl rfl ?_
  refine k_iload_n G (dc d_Sc_isGiven 2 rfl) 3 rfl rfl ?_
  refine k_iload G (dc d_Sc_isGiven 3 rfl) 4 rfl ?_
  obtain ⟨x2, e1, h⟩ := kOk_b h
  refine k_cSI G (dc d_Sc_isGiven 4 rfl) mi_De_canBe ms_De_canBe ml_RX5_52 (c_De_canBe (gst G)  e1) rfl rfl ⟨rfl, rfl⟩ rfl ⟨rfl, rfl⟩ ⟨rfl, rfl⟩ ?_
  refine kJ h (fun r5 => KK X B L 5 0 0 r5.2 28 [] [.int r5.1]) (fun r5 h => ?_) (fun h => ?_)
  · obtain ⟨t3, M4⟩ := r5
    show KK X B L 5 0 0 M4 28 [] [.int t3]
    obtain ⟨z6, e7, h⟩ := kOk_b h
    obtain ⟨e7, nz6⟩ := kz_ok e7
    rw [e7]
    exact (kOk_s h) _ _ _ _ rfl rfl nz6 (dc d_Sc_isGiven 16 rfl)
  · refine k_if_eq G (dc d_Sc_isGiven 5 rfl) (tgt := 27) rfl (fun c8 => ?_) (fun c8 => ?_)
    · replace h := kOk_p c8 h
      refine k_iconst G (dc d_Sc_isGiven 15 rfl) cI_0 ?_
      refine k_sub [] rfl ?_
      have h9 := kOk_s h
      exact h9
    · replace h := kOk_n c8 h
      refine k_aload_n G (dc d_Sc_isGiven 6 rfl) 0 rfl rfl ?_
      refine k_iload_n G (dc d_Sc_isGiven 7 rfl) 1 rfl rfl ?_
      refine k_iload_n G (dc d_Sc_isGiven 8 rfl) 2 rfl rfl ?_
      refine k_iload_n G (dc d_Sc_isGiven 9 rfl) 3 rfl rfl ?_
      refine k_iload G (dc d_Sc_isGiven 10 rfl) 4 rfl ?_
      obtain ⟨⟨x10, M11⟩, e9, h⟩ := kOk_b h
      refine k_cVI G (dc d_Sc_isGiven 11 rfl) kc6 (okL_lt hp0 (o := 0) 0 rfl) (okL_k hp0 (o := 0) 0 rfl) mi_Tw_giveDecree mv_Tw_giveDecree rfl ml_RX5_58 (c_Tw_giveDecree (gst G) hx hp0 e9) rfl rfl ⟨rfl, rfl⟩ rfl ⟨rfl, rfl⟩ ⟨rfl, rfl⟩ ?_
      refine k_if_ne G (dc d_Sc_isGiven 12 rfl) (tgt := 27) rfl (fun c12 => ?_) (fun c12 => ?_)
      · replace h := kOk_n c12 h
        refine k_iconst G (dc d_Sc_isGiven 15 rfl) cI_0 ?_
        refine k_sub [] rfl ?_
        have h9 := kOk_s h
        exact h9
      · replace h := kOk_p c12 h
        refine k_iconst G (dc d_Sc_isGiven 13 rfl) cI_1 ?_
        refine k_goto G (dc d_Sc_isGiven 14 rfl) (tgt := 28) rfl ?_
        refine k_sub [] rfl ?_
        have h9 := kOk_s h
        exact h9
theorem c_Sc_isGiven {l : Launch} {B : KB} {L : KLay} {M : KMem} {p0 : Nat} {p1 : Int32} {p2 : Int32} {p3 : Int32} {p4 : Int32} (hst : l.stackTraces = false) (hx : B.2.2.2 = false) (hp0 : okL L p0 twT) {r : Int32} {M' : KMem} (e : m_Sc_isGiven p0 p1 p2 p3 p4 M = some (r, M')) : CtrN l B yX5_isGiven cX5_isGiven 5 (some .boolean) rm_Sc_isGiven [.ref (B.1 + p0), .int p1, .int p2, .int p3, .int p4] L M (some (.int r)) L M' :=
  mk_I rfl hst rfl (fun X hl G _ R => b_Sc_isGiven G hx hp0 ⟨_, e, R⟩)
def I_Sc_monthsPass : List (Nat × Instr × Nat) := [(0, .iload_n 1, 1), (1, .iconst 1, 1), (2, .if_icmp .lt 9, 3), (5, .iload_n 1, 1), (6, .bipush 60, 2), (8, .if_icmp .le 5, 3), (11, .iconst 0, 1), (12, .ireturn, 1), (13, .aload_n 0, 1), (14, .iload_n 1, 1), (15, .invokevirtual 62, 3), (18, .pop, 1), (19, .iconst 1, 1), (20, .ireturn, 1)]
set_option maxRecDepth 100000 in
theorem d_Sc_monthsPass : decA cX5_monthsPass I_Sc_monthsPass = true := by decide +kernel
abbrev rm_Sc_monthsPass : Room := ({ frames := 3, cells := 0, slots := 0, locals := 68 } : Room)
def m_Sc_monthsPass (p0 : Nat) (p1 : Int32) (M : KMem) : Option (Int32 × KMem) :=
 if p1 < 1 then
 (Option.bind (kz 0) fun z2 =>
 some (z2, M))
 else
 (if p1 ≤ 60 then
 (Option.bind (m_Tw_passMonths p0 p1 M) fun (x6, M7) =>
 Option.bind (kz 1) fun z8 =>
 some (z8, M7))
 else
 (Option.bind (kz 0) fun z10 =>
 some (z10, M)))
set_option maxHeartbeats 4000000 in
set_option maxRecDepth 100000 in
theorem b_Sc_monthsPass {X : KX} {B : KB} {L : KLay} {M : KMem} {p0 : Nat} {p1 : Int32} (G : Good X B RX5 cX5_monthsPass 2 rm_Sc_monthsPass) (hp0 : okL L p0 twT) (h : kOk (m_Sc_monthsPass p0 p1 M) (fun r => RI X B L 2 cX5_monthsPass .boolean rm_Sc_monthsPass r.1 r.2)) : KK X B L 2 0 0 M 0 [(0, .ref (B.1 + p0)), (1, .int p1)] [] := by
  unfold m_Sc_monthsPass at h
  refine k_iload_n G (dc d_Sc_monthsPass 0 rfl) 1 rfl rfl ?_
  refine k_iconst G (dc d_Sc_monthsPass 1 rfl) cI_1 ?_
  refine k_icmp_lt G (dc d_Sc_monthsPass 2 rfl) (tgt := 11) rfl (fun c1 => ?_) (fun c1 => ?_)
  · replace h := kOk_p c1 h
    refine k_iconst G (dc d_Sc_monthsPass 6 rfl) cI_0 ?_
    obtain ⟨z2, e3, h⟩ := kOk_b h
    obtain ⟨e3, nz2⟩ := kz_ok e3
    rw [e3]
    exact (kOk_s h) _ _ _ _ rfl rfl nz2 (dc d_Sc_monthsPass 7 rfl)
  · replace h := kOk_n c1 h
    refine k_iload_n G (dc d_Sc_monthsPass 3 rfl) 1 rfl rfl ?_
    refine k_bipush G (dc d_Sc_monthsPass 4 rfl) cB_60 ?_
    refine k_icmp_le G (dc d_Sc_monthsPass 5 rfl) (tgt := 13) rfl (fun c4 => ?_) (fun c4 => ?_)
    · replace h := kOk_p c4 h
      refine k_aload_n G (dc d_Sc_monthsPass 8 rfl) 0 rfl rfl ?_
      refine k_iload_n G (dc d_Sc_monthsPass 9 rfl) 1 rfl rfl ?_
      obtain ⟨⟨x6, M7⟩, e5, h⟩ := kOk_b h
      refine k_cVI G (dc d_Sc_monthsPass 10 rfl) kc6 (okL_lt hp0 (o := 0) 0 rfl) (okL_k hp0 (o := 0) 0 rfl) mi_Tw_passMonths mv_Tw_passMonths rfl ml_RX5_62 (c_Tw_passMonths (gst G) hp0 e5) rfl rfl ⟨rfl, rfl⟩ rfl ⟨rfl, rfl⟩ ⟨rfl, rfl⟩ ?_
      refine k_pop G (dc d_Sc_monthsPass 11 rfl) rfl ?_
      refine k_iconst G (dc d_Sc_monthsPass 12 rfl) cI_1 ?_
      obtain ⟨z8, e9, h⟩ := kOk_b h
      obtain ⟨e9, nz8⟩ := kz_ok e9
      rw [e9]
      exact (kOk_s h) _ _ _ _ rfl rfl nz8 (dc d_Sc_monthsPass 13 rfl)
    · replace h := kOk_n c4 h
      refine k_iconst G (dc d_Sc_monthsPass 6 rfl) cI_0 ?_
      obtain ⟨z10, e11, h⟩ := kOk_b h
      obtain ⟨e11, nz10⟩ := kz_ok e11
      rw [e11]
      exact (kOk_s h) _ _ _ _ rfl rfl nz10 (dc d_Sc_monthsPass 7 rfl)
theorem c_Sc_monthsPass {l : Launch} {B : KB} {L : KLay} {M : KMem} {p0 : Nat} {p1 : Int32} (hst : l.stackTraces = false) (hp0 : okL L p0 twT) {r : Int32} {M' : KMem} (e : m_Sc_monthsPass p0 p1 M = some (r, M')) : CtrN l B yX5_monthsPass cX5_monthsPass 2 (some .boolean) rm_Sc_monthsPass [.ref (B.1 + p0), .int p1] L M (some (.int r)) L M' :=
  mk_I rfl hst rfl (fun X hl G _ R => b_Sc_monthsPass G hp0 ⟨_, e, R⟩)
def I_Sc_succeeds : List (Nat × Instr × Nat) := [(0, .iload_n 1, 1), (1, .sipush 1000, 3), (4, .idiv, 1), (5, .istore_n 2, 1), (6, .iload_n 1, 1), (7, .bipush 100, 2), (9, .idiv, 1), (10, .bipush 10, 2), (12, .irem, 1), (13, .istore_n 3, 1), (14, .iload_n 1, 1), (15, .bipush 10, 2), (17, .idiv, 1), (18, .bipush 10, 2), (20, .irem, 1), (21, .istore 4, 2), (23, .iload_n 1, 1), (24, .bipush 10, 2), (26, .irem, 1), (27, .istore 5, 2), (29, .iload_n 2, 1), (30, .tableswitch 270 1 9 #[50, 78, 89, 113, 138, 159, 190, 219, 243], 50), (80, .iload 5, 2), (82, .ifCond .ne 24, 3), (85, .iload_n 3, 1), (86, .iconst 1, 1), (87, .if_icmp .eq 19, 3), (90, .aload_n 0, 1), (91, .iload_n 3, 1), (92, .iload 4, 2), (94, .iconst 0, 1), (95, .iconst 0, 1), (96, .invokestatic 9, 3), (99, .ifCond .eq 7, 3), (102, .iconst 1, 1), (103, .goto 4, 3), (106, .iconst 0, 1), (107, .ireturn, 1), (108, .aload_n 0, 1), (109, .iconst 1, 1), (110, .iload_n 3, 1), (111, .iload 4, 2), (113, .iload 5, 2), (115, .invokestatic 9, 3), (118, .ireturn, 1), (119, .iload 4, 2), (121, .ifCond .ne 20, 3), (124, .iload 5, 2), (126, .ifCond .ne 15, 3), (129, .aload_n 0, 1), (130, .iload_n 3, 1), (131, .invokevirtual 15, 3), (134, .ifCond .ne 7, 3), (137, .iconst 1, 1), (138, .goto 4, 3), (141, .iconst 0, 1), (142, .ireturn, 1), (143, .iload 4, 2), (145, .ifCond .ne 21, 3), (148, .iload 5, 2), (150, .ifCond .ne 16, 3), (153, .aload_n 0, 1), (154, .iload_n 3, 1), (155, .invokevirtual 21, 3), (158, .iconst (-1), 1), (159, .if_icmp .eq 7, 3), (162, .iconst 1, 1), (163, .goto 4, 3), (166, .iconst 0, 1), (167, .ireturn, 1), (168, .iload_n 3, 1), (169, .ifCond .ne 18, 3), (172, .aload_n 0, 1), (173, .iload_n 1, 1), (174, .bipush 100, 2), (176, .irem, 1), (177, .invokestatic 24, 3), (180, .ifCond .eq 7, 3), (183, .iconst 1, 1), (184, .goto 4, 3), (187, .iconst 0, 1), (188, .ireturn, 1), (189, .iload_n 3, 1), (190, .ifCond .ne 28, 3), (193, .iload 4, 2), (195, .ifCond .ne 23, 3), (198, .iload 5, 2), (200, .iconst 1, 1), (201, .if_icmp .lt 17, 3), (204, .aload_n 0, 1), (205, .iload 5, 2), (207, .invokevirtual 28, 3), (210, .iconst (-1), 1), (211, .if_icmp .eq 7, 3), (214, .iconst 1, 1), (215, .goto 4, 3), (218, .iconst 0, 1), (219, .ireturn, 1), (220, .iload 4, 2), (222, .ifCond .ne 25, 3), (225, .aload_n 0, 1), (226, .iload_n 3, 1), (227, .invokevirtual 31, 3), (230, .ifCond .eq 17, 3), (233, .aload_n 0, 1), (234, .iload_n 3, 1), (235, .invokevirtual 35, 3), (238, .iload 5, 2), (240, .if_icmp .gt 7, 3), (243, .iconst 1, 1), (244, .goto 4, 3), (247, .iconst 0, 1), (248, .ireturn, 1), (249, .iload_n 3, 1), (250, .ifCond .ne 21, 3), (253, .iload 4, 2), (255, .ifCond .ne 16, 3), (258, .aload_n 0, 1), (259, .invokevirtual 38, 3), (262, .iload 5, 2), (264, .if_icmp .gt 7, 3), (267, .iconst 1, 1), (268, .goto 4, 3), (271, .iconst 0, 1), (272, .ireturn, 1), (273, .iload_n 3, 1), (274, .iconst 4, 1), (275, .if_icmp .ge 23, 3), (278, .aload_n 0, 1), (279, .getfield 42, 3), (282, .getfield 46, 3), (285, .iload_n 3, 1), (286, .iaload, 1), (287, .iload_n 1, 1), (288, .bipush 100, 2), (290, .irem, 1), (291, .if_icmp .lt 7, 3), (294, .iconst 1, 1), (295, .goto 4, 3), (298, .iconst 0, 1), (299, .ireturn, 1), (300, .iconst 0, 1), (301, .ireturn, 1)]
set_option maxRecDepth 100000 in
theorem d_Sc_succeeds : decA cX5_succeeds I_Sc_succeeds = true := by decide +kernel
abbrev rm_Sc_succeeds : Room := ({ frames := 6, cells := 0, slots := 0, locals := 135 } : Room)
def m_Sc_succeeds (p0 : Nat) (p1 : Int32) (M : KMem) : Option (Int32 × KMem) :=
 if (p1 / 1000) = 1 then
 (Option.bind (α := Int32 × KMem) (if (jrem p1 10) = 0 then
 (if (jrem (p1 / 100) 10) = 1 then
 (some (0, M))
 else
 (Option.bind (m_Sc_isGiven p0 (jrem (p1 / 100) 10) (jrem (p1 / 10) 10) 0 0 M) fun (x18, M19) =>
 if x18 = 0 then
 (some (0, M19))
 else
 (some (1, M19))))
 else
 (some (0, M))) fun (t10, M11) =>
 Option.bind (kz t10) fun z13 =>
 some (z13, M11))
 else
 (if (p1 / 1000) = 2 then
 (Option.bind (m_Sc_isGiven p0 1 (jrem (p1 / 100) 10) (jrem (p1 / 10) 10) (jrem p1 10) M) fun (x23, M24) =>
 Option.bind (kz x23) fun z25 =>
 some (z25, M24))
 else
 (if (p1 / 1000) = 3 then
 (Option.bind (α := Int32 × KMem) (if (jrem (p1 / 10) 10) = 0 then
 (if (jrem p1 10) = 0 then
 (Option.bind (m_Tw_takeDecree p0 (jrem (p1 / 100) 10) M) fun (x36, M37) =>
 if x36 = 0 then
 (some (1, M37))
 else
 (some (0, M37)))
 else
 (some (0, M)))
 else
 (some (0, M))) fun (t28, M29) =>
 Option.bind (kz t28) fun z31 =>
 some (z31, M29))
 else
 (if (p1 / 1000) = 4 then
 (Option.bind (α := Int32 × KMem) (if (jrem (p1 / 10) 10) = 0 then
 (if (jrem p1 10) = 0 then
 (Option.bind (m_Tw_repaint p0 (jrem (p1 / 100) 10) M) fun (x48, M49) =>
 if x48 = (-1) then
 (some (0, M49))
 else
 (some (1, M49)))
 else
 (some (0, M)))
 else
 (some (0, M))) fun (t40, M41) =>
 Option.bind (kz t40) fun z43 =>
 some (z43, M41))
 else
 (if (p1 / 1000) = 5 then
 (Option.bind (α := Int32 × KMem) (if (jrem (p1 / 100) 10) = 0 then
 (Option.bind (m_Sc_monthsPass p0 (jrem p1 100) M) fun (x59, M60) =>
 if x59 = 0 then
 (some (0, M60))
 else
 (some (1, M60)))
 else
 (some (0, M))) fun (t52, M53) =>
 Option.bind (kz t52) fun z55 =>
 some (z55, M53))
 else
 (if (p1 / 1000) = 6 then
 (Option.bind (α := Int32 × KMem) (if (jrem (p1 / 100) 10) = 0 then
 (if (jrem (p1 / 10) 10) = 0 then
 (if (jrem p1 10) < 1 then
 (some (0, M))
 else
 (Option.bind (m_Tw_forgive p0 (jrem p1 10) M) fun (x72, M73) =>
 if x72 = (-1) then
 (some (0, M73))
 else
 (some (1, M73))))
 else
 (some (0, M)))
 else
 (some (0, M))) fun (t63, M64) =>
 Option.bind (kz t63) fun z66 =>
 some (z66, M64))
 else
 (if (p1 / 1000) = 7 then
 (Option.bind (α := Int32 × KMem) (if (jrem (p1 / 10) 10) = 0 then
 (Option.bind (m_Tw_hasSign p0 (jrem (p1 / 100) 10) M) fun x83 =>
 if x83 = 0 then
 (some (0, M))
 else
 (Option.bind (m_Tw_lettersWrong p0 (jrem (p1 / 100) 10) M) fun (x86, M87) =>
 if (jrem p1 10) < x86 then
 (some (0, M87))
 else
 (some (1, M87))))
 else
 (some (0, M))) fun (t76, M77) =>
 Option.bind (kz t76) fun z79 =>
 some (z79, M77))
 else
 (if (p1 / 1000) = 8 then
 (Option.bind (α := Int32) (if (jrem (p1 / 100) 10) = 0 then
 (if (jrem (p1 / 10) 10) = 0 then
 (Option.bind (m_Tw_wrongSigns p0 M) fun x97 =>
 if (jrem p1 10) < x97 then
 (some 0)
 else
 (some 1))
 else
 (some 0))
 else
 (some 0)) fun t90 =>
 Option.bind (kz t90) fun z92 =>
 some (z92, M))
 else
 (if (p1 / 1000) = 9 then
 (Option.bind (α := Int32) (if 4 ≤ (jrem (p1 / 100) 10) then
 (some 0)
 else
 (Option.bind (rdI M (p0 + 10) 4 (jrem (p1 / 100) 10)) fun x106 =>
 if x106 < (jrem p1 100) then
 (some 0)
 else
 (some 1))) fun t100 =>
 Option.bind (kz t100) fun z102 =>
 some (z102, M))
 else
 (Option.bind (kz 0) fun z109 =>
 some (z109, M))))))))))
set_option maxHeartbeats 4000000 in
set_option maxRecDepth 100000 in
theorem b_Sc_succeeds {X : KX} {B : KB} {L : KLay} {M : KMem} {p0 : Nat} {p1 : Int32} (G : Good X B RX5 cX5_succeeds 6 rm_Sc_succeeds) (hx : B.2.2.2 = false) (hp0 : okL L p0 twT) (h : kOk (m_Sc_succeeds p0 p1 M) (fun r => RI X B L 6 cX5_succeeds .boolean rm_Sc_succeeds r.1 r.2)) : KK X B L 6 0 0 M 0 [(0, .ref (B.1 + p0)), (1, .int p1)] [] := by
  unfold m_Sc_succeeds at h
  refine k_iload_n G (dc d_Sc_succeeds 0 rfl) 1 rfl rfl ?_
  refine k_sipush G (dc d_Sc_succeeds 1 rfl) cS_1000 ?_
  refine k_idiv G (dc d_Sc_succeeds 2 rfl) czI_1000 ?_
  refine k_istore_n G (dc d_Sc_succeeds 3 rfl) (ls' := [(2, .int (p1 / 1000)), (0, .ref (B.1 + p0)), (1, .int p1)]) rfl rfl rfl ?_
  refine k_iload_n G (dc d_Sc_succeeds 4 rfl) 2 rfl rfl ?_
  refine k_bipush G (dc d_Sc_succeeds 5 rfl) cB_100 ?_
  refine k_idiv G (dc d_Sc_succeeds 6 rfl) czI_100 ?_
  refine k_bipush G (dc d_Sc_succeeds 7 rfl) cB_10 ?_
  refine k_irem G (dc d_Sc_succeeds 8 rfl) czI_10 ?_
  refine k_istore_n G (dc d_Sc_succeeds 9 rfl) (ls' := [(3, .int (jrem (p1 / 100) 10)), (2, .int (p1 / 1000)), (0, .ref (B.1 + p0)), (1, .int p1)]) rfl rfl rfl ?_
  refine k_iload_n G (dc d_Sc_succeeds 10 rfl) 3 rfl rfl ?_
  refine k_bipush G (dc d_Sc_succeeds 11 rfl) cB_10 ?_
  refine k_idiv G (dc d_Sc_succeeds 12 rfl) czI_10 ?_
  refine k_bipush G (dc d_Sc_succeeds 13 rfl) cB_10 ?_
  refine k_irem G (dc d_Sc_succeeds 14 rfl) czI_10 ?_
  refine k_istore G (dc d_Sc_succeeds 15 rfl) (ls' := [(4, .int (jrem (p1 / 10) 10)), (3, .int (jrem (p1 / 100) 10)), (2, .int (p1 / 1000)), (0, .ref (B.1 + p0)), (1, .int p1)]) rfl rfl ?_
  refine k_iload_n G (dc d_Sc_succeeds 16 rfl) 4 rfl rfl ?_
  refine k_bipush G (dc d_Sc_succeeds 17 rfl) cB_10 ?_
  refine k_irem G (dc d_Sc_succeeds 18 rfl) czI_10 ?_
  refine k_istore G (dc d_Sc_succeeds 19 rfl) (ls' := [(5, .int (jrem p1 10)), (4, .int (jrem (p1 / 10) 10)), (3, .int (jrem (p1 / 100) 10)), (2, .int (p1 / 1000)), (0, .ref (B.1 + p0)), (1, .int p1)]) rfl rfl ?_
  refine k_iload_n G (dc d_Sc_succeeds 20 rfl) 3 rfl rfl ?_
  by_cases c1 : (p1 / 1000) = 1
  · replace h := kOk_p c1 h
    refine k_tsI G (dc d_Sc_succeeds 21 rfl) (off := 50) (tgt := 80) c1 (by decide) (by decide) (by decide) (by decide) ?_
    refine k_iload G (dc d_Sc_succeeds 22 rfl) 0 rfl ?_
    refine kJ h (fun r12 => KK X B L 6 0 0 r12.2 107 [] [.int r12.1]) (fun r12 h => ?_) (fun h => ?_)
    · obtain ⟨t10, M11⟩ := r12
      show KK X B L 6 0 0 M11 107 [] [.int t10]
      obtain ⟨z13, e14, h⟩ := kOk_b h
      obtain ⟨e14, nz13⟩ := kz_ok e14
      rw [e14]
      exact (kOk_s h) _ _ _ _ rfl rfl nz13 (dc d_Sc_succeeds 37 rfl)
    · refine k_if_ne G (dc d_Sc_succeeds 23 rfl) (tgt := 106) rfl (fun c15 => ?_) (fun c15 => ?_)
      · replace h := kOk_n c15 h
        refine k_iconst G (dc d_Sc_succeeds 36 rfl) cI_0 ?_
        refine k_sub [] rfl ?_
        have h9 := kOk_s h
        exact h9
      · replace h := kOk_p c15 h
        refine k_iload_n G (dc d_Sc_succeeds 24 rfl) 2 rfl rfl ?_
        refine k_iconst G (dc d_Sc_succeeds 25 rfl) cI_1 ?_
        refine k_icmp_eq G (dc d_Sc_succeeds 26 rfl) (tgt := 106) rfl (fun c16 => ?_) (fun c16 => ?_)
        · replace h := kOk_p c16 h
          refine k_iconst G (dc d_Sc_succeeds 36 rfl) cI_0 ?_
          refine k_sub [] rfl ?_
          have h9 := kOk_s h
          exact h9
        · replace h := kOk_n c16 h
          refine k_aload_n G (dc d_Sc_succeeds 27 rfl) 4 rfl rfl ?_
          refine k_iload_n G (dc d_Sc_succeeds 28 rfl) 2 rfl rfl ?_
          refine k_iload G (dc d_Sc_succeeds 29 rfl) 1 rfl ?_
          refine k_iconst G (dc d_Sc_succeeds 30 rfl) cI_0 ?_
          refine k_iconst G (dc d_Sc_succeeds 31 rfl) cI_0 ?_
          obtain ⟨⟨x18, M19⟩, e17, h⟩ := kOk_b h
          refine k_cSI G (dc d_Sc_succeeds 32 rfl) mi_Sc_isGiven ms_Sc_isGiven ml_RX5_9 (c_Sc_isGiven (gst G) hx hp0 e17) rfl rfl ⟨rfl, rfl⟩ rfl ⟨rfl, rfl⟩ ⟨rfl, rfl⟩ ?_
          refine k_if_eq G (dc d_Sc_succeeds 33 rfl) (tgt := 106) rfl (fun c20 => ?_) (fun c20 => ?_)
          · replace h := kOk_p c20 h
            refine k_iconst G (dc d_Sc_succeeds 36 rfl) cI_0 ?_
            refine k_sub [] rfl ?_
            have h9 := kOk_s h
            exact h9
          · replace h := kOk_n c20 h
            refine k_iconst G (dc d_Sc_succeeds 34 rfl) cI_1 ?_
            refine k_goto G (dc d_Sc_succeeds 35 rfl) (tgt := 107) rfl ?_
            refine k_sub [] rfl ?_
            have h9 := kOk_s h
            exact h9
  · replace h := kOk_n c1 h
    by_cases c2 : (p1 / 1000) = 2
    · replace h := kOk_p c2 h
      refine k_tsI G (dc d_Sc_succeeds 21 rfl) (off := 78) (tgt := 108) c2 (by decide) (by decide) (by decide) (by decide) ?_
      refine k_aload_n G (dc d_Sc_succeeds 38 rfl) 4 rfl rfl ?_
      refine k_iconst G (dc d_Sc_succeeds 39 rfl) cI_1 ?_
      refine k_iload_n G (dc d_Sc_succeeds 40 rfl) 2 rfl rfl ?_
      refine k_iload G (dc d_Sc_succeeds 41 rfl) 1 rfl ?_
      refine k_iload G (dc d_Sc_succeeds 42 rfl) 0 rfl ?_
      obtain ⟨⟨x23, M24⟩, e22, h⟩ := kOk_b h
      refine k_cSI G (dc d_Sc_succeeds 43 rfl) mi_Sc_isGiven ms_Sc_isGiven ml_RX5_9 (c_Sc_isGiven (gst G) hx hp0 e22) rfl rfl ⟨rfl, rfl⟩ rfl ⟨rfl, rfl⟩ ⟨rfl, rfl⟩ ?_
      obtain ⟨z25, e26, h⟩ := kOk_b h
      obtain ⟨e26, nz25⟩ := kz_ok e26
      rw [e26]
      exact (kOk_s h) _ _ _ _ rfl rfl nz25 (dc d_Sc_succeeds 44 rfl)
    · replace h := kOk_n c2 h
      by_cases c3 : (p1 / 1000) = 3
      · replace h := kOk_p c3 h
        refine k_tsI G (dc d_Sc_succeeds 21 rfl) (off := 89) (tgt := 119) c3 (by decide) (by decide) (by decide) (by decide) ?_
        refine k_iload G (dc d_Sc_succeeds 45 rfl) 1 rfl ?_
        refine kJ h (fun r30 => KK X B L 6 0 0 r30.2 142 [] [.int r30.1]) (fun r30 h => ?_) (fun h => ?_)
        · obtain ⟨t28, M29⟩ := r30
          show KK X B L 6 0 0 M29 142 [] [.int t28]
          obtain ⟨z31, e32, h⟩ := kOk_b h
          obtain ⟨e32, nz31⟩ := kz_ok e32
          rw [e32]
          exact (kOk_s h) _ _ _ _ rfl rfl nz31 (dc d_Sc_succeeds 56 rfl)
        · refine k_if_ne G (dc d_Sc_succeeds 46 rfl) (tgt := 141) rfl (fun c33 => ?_) (fun c33 => ?_)
          · replace h := kOk_n c33 h
            refine k_iconst G (dc d_Sc_succeeds 55 rfl) cI_0 ?_
            refine k_sub [] rfl ?_
            have h9 := kOk_s h
            exact h9
          · replace h := kOk_p c33 h
            refine k_iload G (dc d_Sc_succeeds 47 rfl) 0 rfl ?_
            refine k_if_ne G (dc d_Sc_succeeds 48 rfl) (tgt := 141) rfl (fun c34 => ?_) (fun c34 => ?_)
            · replace h := kOk_n c34 h
              refine k_iconst G (dc d_Sc_succeeds 55 rfl) cI_0 ?_
              refine k_sub [] rfl ?_
              have h9 := kOk_s h
              exact h9
            · replace h := kOk_p c34 h
              refine k_aload_n G (dc d_Sc_succeeds 49 rfl) 4 rfl rfl ?_
              refine k_iload_n G (dc d_Sc_succeeds 50 rfl) 2 rfl rfl ?_
              obtain ⟨⟨x36, M37⟩, e35, h⟩ := kOk_b h
              refine k_cVI G (dc d_Sc_succeeds 51 rfl) kc6 (okL_lt hp0 (o := 0) 0 rfl) (okL_k hp0 (o := 0) 0 rfl) mi_Tw_takeDecree mv_Tw_takeDecree rfl ml_RX5_15 (c_Tw_takeDecree (gst G) hx hp0 e35) rfl rfl ⟨rfl, rfl⟩ rfl ⟨rfl, rfl⟩ ⟨rfl, rfl⟩ ?_
              refine k_if_ne G (dc d_Sc_succeeds 52 rfl) (tgt := 141) rfl (fun c38 => ?_) (fun c38 => ?_)
              · replace h := kOk_n c38 h
                refine k_iconst G (dc d_Sc_succeeds 55 rfl) cI_0 ?_
                refine k_sub [] rfl ?_
                have h9 := kOk_s h
                exact h9
              · replace h := kOk_p c38 h
                refine k_iconst G (dc d_Sc_succeeds 53 rfl) cI_1 ?_
                refine k_goto G (dc d_Sc_succeeds 54 rfl) (tgt := 142) rfl ?_
                refine k_sub [] rfl ?_
                have h9 := kOk_s h
                exact h9
      · replace h := kOk_n c3 h
        by_cases c4 : (p1 / 1000) = 4
        · replace h := kOk_p c4 h
          refine k_tsI G (dc d_Sc_succeeds 21 rfl) (off := 113) (tgt := 143) c4 (by decide) (by decide) (by decide) (by decide) ?_
          refine k_iload G (dc d_Sc_succeeds 57 rfl) 1 rfl ?_
          refine kJ h (fun r42 => KK X B L 6 0 0 r42.2 167 [] [.int r42.1]) (fun r42 h => ?_) (fun h => ?_)
          · obtain ⟨t40, M41⟩ := r42
            show KK X B L 6 0 0 M41 167 [] [.int t40]
            obtain ⟨z43, e44, h⟩ := kOk_b h
            obtain ⟨e44, nz43⟩ := kz_ok e44
            rw [e44]
            exact (kOk_s h) _ _ _ _ rfl rfl nz43 (dc d_Sc_succeeds 69 rfl)
          · refine k_if_ne G (dc d_Sc_succeeds 58 rfl) (tgt := 166) rfl (fun c45 => ?_) (fun c45 => ?_)
            · replace h := kOk_n c45 h
              refine k_iconst G (dc d_Sc_succeeds 68 rfl) cI_0 ?_
              refine k_sub [] rfl ?_
              have h9 := kOk_s h
              exact h9
            · replace h := kOk_p c45 h
              refine k_iload G (dc d_Sc_succeeds 59 rfl) 0 rfl ?_
              refine k_if_ne G (dc d_Sc_succeeds 60 rfl) (tgt := 166) rfl (fun c46 => ?_) (fun c46 => ?_)
              · replace h := kOk_n c46 h
                refine k_iconst G (dc d_Sc_succeeds 68 rfl) cI_0 ?_
                refine k_sub [] rfl ?_
                have h9 := kOk_s h
                exact h9
              · replace h := kOk_p c46 h
                refine k_aload_n G (dc d_Sc_succeeds 61 rfl) 4 rfl rfl ?_
                refine k_iload_n G (dc d_Sc_succeeds 62 rfl) 2 rfl rfl ?_
                obtain ⟨⟨x48, M49⟩, e47, h⟩ := kOk_b h
                refine k_cVI G (dc d_Sc_succeeds 63 rfl) kc6 (okL_lt hp0 (o := 0) 0 rfl) (okL_k hp0 (o := 0) 0 rfl) mi_Tw_repaint mv_Tw_repaint rfl ml_RX5_21 (c_Tw_repaint (gst G) hp0 e47) rfl rfl ⟨rfl, rfl⟩ rfl ⟨rfl, rfl⟩ ⟨rfl, rfl⟩ ?_
                refine k_iconst G (dc d_Sc_succeeds 64 rfl) cI_m1 ?_
                refine k_icmp_eq G (dc d_Sc_succeeds 65 rfl) (tgt := 166) rfl (fun c50 => ?_) (fun c50 => ?_)
                · replace h := kOk_p c50 h
                  refine k_iconst G (dc d_Sc_succeeds 68 rfl) cI_0 ?_
                  refine k_sub [] rfl ?_
                  have h9 := kOk_s h
                  exact h9
                · replace h := kOk_n c50 h
                  refine k_iconst G (dc d_Sc_succeeds 66 rfl) cI_1 ?_
                  refine k_goto G (dc d_Sc_succeeds 67 rfl) (tgt := 167) rfl ?_
                  refine k_sub [] rfl ?_
                  have h9 := kOk_s h
                  exact h9
        · replace h := kOk_n c4 h
          by_cases c5 : (p1 / 1000) = 5
          · replace h := kOk_p c5 h
            refine k_tsI G (dc d_Sc_succeeds 21 rfl) (off := 138) (tgt := 168) c5 (by decide) (by decide) (by decide) (by decide) ?_
            refine k_iload_n G (dc d_Sc_succeeds 70 rfl) 2 rfl rfl ?_
            refine kJ h (fun r54 => KK X B L 6 0 0 r54.2 188 [] [.int r54.1]) (fun r54 h => ?_) (fun h => ?_)
            · obtain ⟨t52, M53⟩ := r54
              show KK X B L 6 0 0 M53 188 [] [.int t52]
              obtain ⟨z55, e56, h⟩ := kOk_b h
              obtain ⟨e56, nz55⟩ := kz_ok e56
              rw [e56]
              exact (kOk_s h) _ _ _ _ rfl rfl nz55 (dc d_Sc_succeeds 81 rfl)
            · refine k_if_ne G (dc d_Sc_succeeds 71 rfl) (tgt := 187) rfl (fun c57 => ?_) (fun c57 => ?_)
              · replace h := kOk_n c57 h
                refine k_iconst G (dc d_Sc_succeeds 80 rfl) cI_0 ?_
                refine k_sub [] rfl ?_
                have h9 := kOk_s h
                exact h9
              · replace h := kOk_p c57 h
                refine k_aload_n G (dc d_Sc_succeeds 72 rfl) 4 rfl rfl ?_
                refine k_iload_n G (dc d_Sc_succeeds 73 rfl) 5 rfl rfl ?_
                refine k_bipush G (dc d_Sc_succeeds 74 rfl) cB_100 ?_
                refine k_irem G (dc d_Sc_succeeds 75 rfl) czI_100 ?_
                obtain ⟨⟨x59, M60⟩, e58, h⟩ := kOk_b h
                refine k_cSI G (dc d_Sc_succeeds 76 rfl) mi_Sc_monthsPass ms_Sc_monthsPass ml_RX5_24 (c_Sc_monthsPass (gst G) hp0 e58) rfl rfl ⟨rfl, rfl⟩ rfl ⟨rfl, rfl⟩ ⟨rfl, rfl⟩ ?_
                refine k_if_eq G (dc d_Sc_succeeds 77 rfl) (tgt := 187) rfl (fun c61 => ?_) (fun c61 => ?_)
                · replace h := kOk_p c61 h
                  refine k_iconst G (dc d_Sc_succeeds 80 rfl) cI_0 ?_
                  refine k_sub [] rfl ?_
                  have h9 := kOk_s h
                  exact h9
                · replace h := kOk_n c61 h
                  refine k_iconst G (dc d_Sc_succeeds 78 rfl) cI_1 ?_
                  refine k_goto G (dc d_Sc_succeeds 79 rfl) (tgt := 188) rfl ?_
                  refine k_sub [] rfl ?_
                  have h9 := kOk_s h
                  exact h9
          · replace h := kOk_n c5 h
            by_cases c6 : (p1 / 1000) = 6
            · replace h := kOk_p c6 h
              refine k_tsI G (dc d_Sc_succeeds 21 rfl) (off := 159) (tgt := 189) c6 (by decide) (by decide) (by decide) (by decide) ?_
              refine k_iload_n G (dc d_Sc_succeeds 82 rfl) 2 rfl rfl ?_
              refine kJ h (fun r65 => KK X B L 6 0 0 r65.2 219 [] [.int r65.1]) (fun r65 h => ?_) (fun h => ?_)
              · obtain ⟨t63, M64⟩ := r65
                show KK X B L 6 0 0 M64 219 [] [.int t63]
                obtain ⟨z66, e67, h⟩ := kOk_b h
                obtain ⟨e67, nz66⟩ := kz_ok e67
                rw [e67]
                exact (kOk_s h) _ _ _ _ rfl rfl nz66 (dc d_Sc_succeeds 97 rfl)
              · refine k_if_ne G (dc d_Sc_succeeds 83 rfl) (tgt := 218) rfl (fun c68 => ?_) (fun c68 => ?_)
                · replace h := kOk_n c68 h
                  refine k_iconst G (dc d_Sc_succeeds 96 rfl) cI_0 ?_
                  refine k_sub [] rfl ?_
                  have h9 := kOk_s h
                  exact h9
                · replace h := kOk_p c68 h
                  refine k_iload G (dc d_Sc_succeeds 84 rfl) 1 rfl ?_
                  refine k_if_ne G (dc d_Sc_succeeds 85 rfl) (tgt := 218) rfl (fun c69 => ?_) (fun c69 => ?_)
                  · replace h := kOk_n c69 h
                    refine k_iconst G (dc d_Sc_succeeds 96 rfl) cI_0 ?_
                    refine k_sub [] rfl ?_
                    have h9 := kOk_s h
                    exact h9
                  · replace h := kOk_p c69 h
                    refine k_iload G (dc d_Sc_succeeds 86 rfl) 0 rfl ?_
                    refine k_iconst G (dc d_Sc_succeeds 87 rfl) cI_1 ?_
                    refine k_icmp_lt G (dc d_Sc_succeeds 88 rfl) (tgt := 218) rfl (fun c70 => ?_) (fun c70 => ?_)
                    · replace h := kOk_p c70 h
                      refine k_iconst G (dc d_Sc_succeeds 96 rfl) cI_0 ?_
                      refine k_sub [] rfl ?_
                      have h9 := kOk_s h
                      exact h9
                    · replace h := kOk_n c70 h
                      refine k_aload_n G (dc d_Sc_succeeds 89 rfl) 4 rfl rfl ?_
                      refine k_iload G (dc d_Sc_succeeds 90 rfl) 0 rfl ?_
                      obtain ⟨⟨x72, M73⟩, e71, h⟩ := kOk_b h
                      refine k_cVI G (dc d_Sc_succeeds 91 rfl) kc6 (okL_lt hp0 (o := 0) 0 rfl) (okL_k hp0 (o := 0) 0 rfl) mi_Tw_forgive mv_Tw_forgive rfl ml_RX5_28 (c_Tw_forgive (gst G) hp0 e71) rfl rfl ⟨rfl, rfl⟩ rfl ⟨rfl, rfl⟩ ⟨rfl, rfl⟩ ?_
                      refine k_iconst G (dc d_Sc_succeeds 92 rfl) cI_m1 ?_
                      refine k_icmp_eq G (dc d_Sc_succeeds 93 rfl) (tgt := 218) rfl (fun c74 => ?_) (fun c74 => ?_)
                      · replace h := kOk_p c74 h
                        refine k_iconst G (dc d_Sc_succeeds 96 rfl) cI_0 ?_
                        refine k_sub [] rfl ?_
                        have h9 := kOk_s h
                        exact h9
                      · replace h := kOk_n c74 h
                        refine k_iconst G (dc d_Sc_succeeds 94 rfl) cI_1 ?_
                        refine k_goto G (dc d_Sc_succeeds 95 rfl) (tgt := 219) rfl ?_
                        refine k_sub [] rfl ?_
                        have h9 := kOk_s h
                        exact h9
            · replace h := kOk_n c6 h
              by_cases c7 : (p1 / 1000) = 7
              · replace h := kOk_p c7 h
                refine k_tsI G (dc d_Sc_succeeds 21 rfl) (off := 190) (tgt := 220) c7 (by decide) (by decide) (by decide) (by decide) ?_
                refine k_iload G (dc d_Sc_succeeds 98 rfl) 1 rfl ?_
                refine kJ h (fun r78 => KK X B L 6 0 0 r78.2 248 [] [.int r78.1]) (fun r78 h => ?_) (fun h => ?_)
                · obtain ⟨t76, M77⟩ := r78
                  show KK X B L 6 0 0 M77 248 [] [.int t76]
                  obtain ⟨z79, e80, h⟩ := kOk_b h
                  obtain ⟨e80, nz79⟩ := kz_ok e80
                  rw [e80]
                  exact (kOk_s h) _ _ _ _ rfl rfl nz79 (dc d_Sc_succeeds 112 rfl)
                · refine k_if_ne G (dc d_Sc_succeeds 99 rfl) (tgt := 247) rfl (fun c81 => ?_) (fun c81 => ?_)
                  · replace h := kOk_n c81 h
                    refine k_iconst G (dc d_Sc_succeeds 111 rfl) cI_0 ?_
                    refine k_sub [] rfl ?_
                    have h9 := kOk_s h
                    exact h9
                  · replace h := kOk_p c81 h
                    refine k_aload_n G (dc d_Sc_succeeds 100 rfl) 4 rfl rfl ?_
                    refine k_iload_n G (dc d_Sc_succeeds 101 rfl) 2 rfl rfl ?_
                    obtain ⟨x83, e82, h⟩ := kOk_b h
                    refine k_cVI G (dc d_Sc_succeeds 102 rfl) kc6 (okL_lt hp0 (o := 0) 0 rfl) (okL_k hp0 (o := 0) 0 rfl) mi_Tw_hasSign mv_Tw_hasSign rfl ml_RX5_31 (c_Tw_hasSign (gst G) hp0 e82) rfl rfl ⟨rfl, rfl⟩ rfl ⟨rfl, rfl⟩ ⟨rfl, rfl⟩ ?_
                    refine k_if_eq G (dc d_Sc_succeeds 103 rfl) (tgt := 247) rfl (fun c84 => ?_) (fun c84 => ?_)
                    · replace h := kOk_p c84 h
                      refine k_iconst G (dc d_Sc_succeeds 111 rfl) cI_0 ?_
                      refine k_sub [] rfl ?_
                      have h9 := kOk_s h
                      exact h9
                    · replace h := kOk_n c84 h
                      refine k_aload_n G (dc d_Sc_succeeds 104 rfl) 4 rfl rfl ?_
                      refine k_iload_n G (dc d_Sc_succeeds 105 rfl) 2 rfl rfl ?_
                      obtain ⟨⟨x86, M87⟩, e85, h⟩ := kOk_b h
                      refine k_cVI G (dc d_Sc_succeeds 106 rfl) kc6 (okL_lt hp0 (o := 0) 0 rfl) (okL_k hp0 (o := 0) 0 rfl) mi_Tw_lettersWrong mv_Tw_lettersWrong rfl ml_RX5_35 (c_Tw_lettersWrong (gst G) hp0 e85) rfl rfl ⟨rfl, rfl⟩ rfl ⟨rfl, rfl⟩ ⟨rfl, rfl⟩ ?_
                      refine k_iload G (dc d_Sc_succeeds 107 rfl) 0 rfl ?_
                      refine k_icmp_gt G (dc d_Sc_succeeds 108 rfl) (tgt := 247) rfl (fun c88 => ?_) (fun c88 => ?_)
                      · replace h := kOk_p c88 h
                        refine k_iconst G (dc d_Sc_succeeds 111 rfl) cI_0 ?_
                        refine k_sub [] rfl ?_
                        have h9 := kOk_s h
                        exact h9
                      · replace h := kOk_n c88 h
                        refine k_iconst G (dc d_Sc_succeeds 109 rfl) cI_1 ?_
                        refine k_goto G (dc d_Sc_succeeds 110 rfl) (tgt := 248) rfl ?_
                        refine k_sub [] rfl ?_
                        have h9 := kOk_s h
                        exact h9
              · replace h := kOk_n c7 h
                by_cases c8 : (p1 / 1000) = 8
                · replace h := kOk_p c8 h
                  refine k_tsI G (dc d_Sc_succeeds 21 rfl) (off := 219) (tgt := 249) c8 (by decide) (by decide) (by decide) (by decide) ?_
                  refine k_iload_n G (dc d_Sc_succeeds 113 rfl) 2 rfl rfl ?_
                  refine kJ h (fun r91 => KK X B L 6 0 0 M 272 [] [.int r91]) (fun r91 h => ?_) (fun h => ?_)
                  · obtain ⟨t90, rfl⟩ : ∃ z, z = r91 := ⟨_, rfl⟩
                    show KK X B L 6 0 0 M 272 [] [.int t90]
                    obtain ⟨z92, e93, h⟩ := kOk_b h
                    obtain ⟨e93, nz92⟩ := kz_ok e93
                    rw [e93]
                    exact (kOk_s h) _ _ _ _ rfl rfl nz92 (dc d_Sc_succeeds 124 rfl)
                  · refine k_if_ne G (dc d_Sc_succeeds 114 rfl) (tgt := 271) rfl (fun c94 => ?_) (fun c94 => ?_)
                    · replace h := kOk_n c94 h
                      refine k_iconst G (dc d_Sc_succeeds 123 rfl) cI_0 ?_
                      refine k_sub [] rfl ?_
                      have h9 := kOk_s h
                      exact h9
                    · replace h := kOk_p c94 h
                      refine k_iload G (dc d_Sc_succeeds 115 rfl) 1 rfl ?_
                      refine k_if_ne G (dc d_Sc_succeeds 116 rfl) (tgt := 271) rfl (fun c95 => ?_) (fun c95 => ?_)
                      · replace h := kOk_n c95 h
                        refine k_iconst G (dc d_Sc_succeeds 123 rfl) cI_0 ?_
                        refine k_sub [] rfl ?_
                        have h9 := kOk_s h
                        exact h9
                      · replace h := kOk_p c95 h
                        refine k_aload_n G (dc d_Sc_succeeds 117 rfl) 4 rfl rfl ?_
                        obtain ⟨x97, e96, h⟩ := kOk_b h
                        refine k_cVI G (dc d_Sc_succeeds 118 rfl) kc6 (okL_lt hp0 (o := 0) 0 rfl) (okL_k hp0 (o := 0) 0 rfl) mi_Tw_wrongSigns mv_Tw_wrongSigns rfl ml_RX5_38 (c_Tw_wrongSigns (gst G) hp0 e96) rfl rfl ⟨rfl, rfl⟩ rfl ⟨rfl, rfl⟩ ⟨rfl, rfl⟩ ?_
                        refine k_iload G (dc d_Sc_succeeds 119 rfl) 0 rfl ?_
                        refine k_icmp_gt G (dc d_Sc_succeeds 120 rfl) (tgt := 271) rfl (fun c98 => ?_) (fun c98 => ?_)
                        · replace h := kOk_p c98 h
                          refine k_iconst G (dc d_Sc_succeeds 123 rfl) cI_0 ?_
                          refine k_sub [] rfl ?_
                          have h9 := kOk_s h
                          exact h9
                        · replace h := kOk_n c98 h
                          refine k_iconst G (dc d_Sc_succeeds 121 rfl) cI_1 ?_
                          refine k_goto G (dc d_Sc_succeeds 122 rfl) (tgt := 272) rfl ?_
                          refine k_sub [] rfl ?_
                          have h9 := kOk_s h
                          exact h9
                · replace h := kOk_n c8 h
                  by_cases c9 : (p1 / 1000) = 9
                  · replace h := kOk_p c9 h
                    refine k_tsI G (dc d_Sc_succeeds 21 rfl) (off := 243) (tgt := 273) c9 (by decide) (by decide) (by decide) (by decide) ?_
                    refine k_iload_n G (dc d_Sc_succeeds 125 rfl) 2 rfl rfl ?_
                    refine k_iconst G (dc d_Sc_succeeds 126 rfl) cI_4 ?_
                    refine kJ h (fun r101 => KK X B L 6 0 0 M 299 [] [.int r101]) (fun r101 h => ?_) (fun h => ?_)
                    · obtain ⟨t100, rfl⟩ : ∃ z, z = r101 := ⟨_, rfl⟩
                      show KK X B L 6 0 0 M 299 [] [.int t100]
                      obtain ⟨z102, e103, h⟩ := kOk_b h
                      obtain ⟨e103, nz102⟩ := kz_ok e103
                      rw [e103]
                      exact (kOk_s h) _ _ _ _ rfl rfl nz102 (dc d_Sc_succeeds 140 rfl)
                    · refine k_icmp_ge G (dc d_Sc_succeeds 127 rfl) (tgt := 298) rfl (fun c104 => ?_) (fun c104 => ?_)
                      · replace h := kOk_p c104 h
                        refine k_iconst G (dc d_Sc_succeeds 139 rfl) cI_0 ?_
                        refine k_sub [] rfl ?_
                        have h9 := kOk_s h
                        exact h9
                      · replace h := kOk_n c104 h
                        refine k_aload_n G (dc d_Sc_succeeds 128 rfl) 4 rfl rfl ?_
                        refine k_getR G kc6 (dc d_Sc_succeeds 129 rfl) (okL_lt hp0 (o := 0) 0 rfl) (okL_k hp0 (o := 0) 0 rfl) 0 (by decide) rfl fl_RX5_42 (p0 + 1) (okL_r hp0 (o := 0) (c := 1) 0 rfl 0 rfl) ?_
                        refine k_getR G kc5 (dc d_Sc_succeeds 130 rfl) (okL_lt hp0 (o := 1) 1 rfl) (okL_k hp0 (o := 1) 1 rfl) 8 (by decide) rfl fl_RX5_46 (p0 + 10) (okL_r hp0 (o := 1) (c := 10) 1 rfl 7 rfl) ?_
                        refine k_iload_n G (dc d_Sc_succeeds 131 rfl) 2 rfl rfl ?_
                        obtain ⟨x106, e105, h⟩ := kOk_b h
                        refine k_ild G (dc d_Sc_succeeds 132 rfl) (okL_lt hp0 (o := 10) 10 rfl) (okL_k hp0 (o := 10) 10 rfl) (okL_n hp0 (o := 10) 10 rfl) e105 ?_
                        refine k_iload_n G (dc d_Sc_succeeds 133 rfl) 5 rfl rfl ?_
                        refine k_bipush G (dc d_Sc_succeeds 134 rfl) cB_100 ?_
                        refine k_irem G (dc d_Sc_succeeds 135 rfl) czI_100 ?_
                        refine k_icmp_lt G (dc d_Sc_succeeds 136 rfl) (tgt := 298) rfl (fun c107 => ?_) (fun c107 => ?_)
                        · replace h := kOk_p c107 h
                          refine k_iconst G (dc d_Sc_succeeds 139 rfl) cI_0 ?_
                          refine k_sub [] rfl ?_
                          have h9 := kOk_s h
                          exact h9
                        · replace h := kOk_n c107 h
                          refine k_iconst G (dc d_Sc_succeeds 137 rfl) cI_1 ?_
                          refine k_goto G (dc d_Sc_succeeds 138 rfl) (tgt := 299) rfl ?_
                          refine k_sub [] rfl ?_
                          have h9 := kOk_s h
                          exact h9
                  · replace h := kOk_n c9 h
                    have hD111 : KK X B L 6 0 0 M 300 [(5, .int (jrem p1 10)), (4, .int (jrem (p1 / 10) 10)), (3, .int (jrem (p1 / 100) 10)), (2, .int (p1 / 1000)), (0, .ref (B.1 + p0)), (1, .int p1)] [] := by
                      refine k_iconst G (dc d_Sc_succeeds 141 rfl) cI_0 ?_
                      obtain ⟨z109, e110, h⟩ := kOk_b h
                      obtain ⟨e110, nz109⟩ := kz_ok e110
                      rw [e110]
                      exact (kOk_s h) _ _ _ _ rfl rfl nz109 (dc d_Sc_succeeds 142 rfl)
                    rcases ts_out (p1 / 1000) 1 9 with ho | ⟨k9, h91, h92, h93⟩
                    · exact k_tableOut G (dc d_Sc_succeeds 21 rfl) (tgt := 300) ho rfl hD111
                    · have h94 : k9 = 1 ∨ k9 = 2 ∨ k9 = 3 ∨ k9 = 4 ∨ k9 = 5 ∨ k9 = 6 ∨ k9 = 7 ∨ k9 = 8 ∨ k9 = 9 := by omega
                      rcases h94 with rfl | rfl | rfl | rfl | rfl | rfl | rfl | rfl | rfl
                      · exact absurd (h93.trans cI_1) c1
                      · exact absurd (h93.trans cI_2) c2
                      · exact absurd (h93.trans cI_3) c3
                      · exact absurd (h93.trans cI_4) c4
                      · exact absurd (h93.trans cI_5) c5
                      · exact absurd (h93.trans cI_6) c6
                      · exact absurd (h93.trans cI_7) c7
                      · exact absurd (h93.trans cI_8) c8
                      · exact absurd (h93.trans cI_9) c9
theorem c_Sc_succeeds {l : Launch} {B : KB} {L : KLay} {M : KMem} {p0 : Nat} {p1 : Int32} (hst : l.stackTraces = false) (hx : B.2.2.2 = false) (hp0 : okL L p0 twT) {r : Int32} {M' : KMem} (e : m_Sc_succeeds p0 p1 M = some (r, M')) : CtrN l B yX5_succeeds cX5_succeeds 6 (some .boolean) rm_Sc_succeeds [.ref (B.1 + p0), .int p1] L M (some (.int r)) L M' :=
  mk_I rfl hst rfl (fun X hl G _ R => b_Sc_succeeds G hx hp0 ⟨_, e, R⟩)
end
section
/-! laid by wip/whole/lay.py: Si_wordFrom, Si_takeTurn -/
def I_Si_wordFrom : List (Nat × Instr × Nat) := [(0, .iconst 1, 1), (1, .iload_n 0, 1), (2, .iconst 4, 1), (3, .idiv, 1), (4, .bipush 8, 2), (6, .irem, 1), (7, .iadd, 1), (8, .istore_n 1, 1), (9, .iconst 1, 1), (10, .iload_n 0, 1), (11, .bipush 32, 2), (13, .idiv, 1), (14, .bipush 6, 2), (16, .irem, 1), (17, .iadd, 1), (18, .istore_n 2, 1), (19, .iload_n 2, 1), (20, .istore_n 3, 1), (21, .iconst 1, 1), (22, .istore 4, 2), (24, .iload 4, 2), (26, .iload_n 1, 1), (27, .if_icmp .ge 27, 3), (30, .iconst 1, 1), (31, .iload_n 2, 1), (32, .iload_n 0, 1), (33, .iconst 5, 1), (34, .irem, 1), (35, .iadd, 1), (36, .bipush 6, 2), (38, .irem, 1), (39, .iadd, 1), (40, .istore_n 2, 1), (41, .iload_n 3, 1), (42, .bipush 10, 2), (44, .imul, 1), (45, .iload_n 2, 1), (46, .iadd, 1), (47, .istore_n 3, 1), (48, .iinc 4 1, 3), (51, .goto (-27), 3), (54, .iload_n 3, 1), (55, .ireturn, 1)]
set_option maxRecDepth 100000 in
theorem d_Si_wordFrom : decA cX6_wordFrom I_Si_wordFrom = true := by decide +kernel
abbrev rm_Si_wordFrom : Room := ({ frames := 0, cells := 0, slots := 0, locals := 0 } : Room)
def m_Si_wordFrom_l24 (p0 : Int32) : (Int32 × Int32 × Int32) → Option ((Int32 × Int32 × Int32) ⊕ Int32) := fun (v2_1, v3_2, v4_3) =>
 if (1 + (jrem (p0 / 4) 8)) ≤ v4_3 then
 (some (.inr v3_2))
 else
 (some (.inl (1 + (jrem (v2_1 + (jrem p0 5)) 6), (v3_2 * 10) + (1 + (jrem (v2_1 + (jrem p0 5)) 6)), v4_3 + 1)))
def m_Si_wordFrom (p0 : Int32) : Option Int32 :=
 Option.bind (α := Int32) (kLp (m_Si_wordFrom_l24 p0) kFU (1 + (jrem (p0 / 32) 6), 1 + (jrem (p0 / 32) 6), 1)) fun v3_5 =>
 some v3_5
set_option maxHeartbeats 4000000 in
set_option maxRecDepth 100000 in
theorem b_Si_wordFrom {X : KX} {B : KB} {L : KLay} {M : KMem} {p0 : Int32} (G : Good X B RX6 cX6_wordFrom 5 rm_Si_wordFrom)  (h : kOk (m_Si_wordFrom p0) (fun r => RI X B L 5 cX6_wordFrom .int rm_Si_wordFrom r M)) : KK X B L 5 0 0 M 0 [(0, .int p0)] [] := by
  unfold m_Si_wordFrom at h
  refine k_iconst G (dc d_Si_wordFrom 0 rfl) cI_1 ?_
  refine k_iload_n G (dc d_Si_wordFrom 1 rfl) 0 rfl rfl ?_
  refine k_iconst G (dc d_Si_wordFrom 2 rfl) cI_4 ?_
  refine k_idiv G (dc d_Si_wordFrom 3 rfl) czI_4 ?_
  refine k_bipush G (dc d_Si_wordFrom 4 rfl) cB_8 ?_
  refine k_irem G (dc d_Si_wordFrom 5 rfl) czI_8 ?_
  refine k_iadd G (dc d_Si_wordFrom 6 rfl) ?_
  refine k_istore_n G (dc d_Si_wordFrom 7 rfl) (ls' := [(1, .int (1 + (jrem (p0 / 4) 8))), (0, .int p0)]) rfl rfl rfl ?_
  refine k_iconst G (dc d_Si_wordFrom 8 rfl) cI_1 ?_
  refine k_iload_n G (dc d_Si_wordFrom 9 rfl) 1 rfl rfl ?_
  refine k_bipush G (dc d_Si_wordFrom 10 rfl) cB_32 ?_
  refine k_idiv G (dc d_Si_wordFrom 11 rfl) czI_32 ?_
  refine k_bipush G (dc d_Si_wordFrom 12 rfl) cB_6 ?_
  refine k_irem G (dc d_Si_wordFrom 13 rfl) czI_6 ?_
  refine k_iadd G (dc d_Si_wordFrom 14 rfl) ?_
  refine k_istore_n G (dc d_Si_wordFrom 15 rfl) (ls' := [(2, .int (1 + (jrem (p0 / 32) 6))), (1, .int (1 + (jrem (p0 / 4) 8))), (0, .int p0)]) rfl rfl rfl ?_
  refine k_iload_n G (dc d_Si_wordFrom 16 rfl) 0 rfl rfl ?_
  refine k_istore_n G (dc d_Si_wordFrom 17 rfl) (ls' := [(3, .int (1 + (jrem (p0 / 32) 6))), (2, .int (1 + (jrem (p0 / 32) 6))), (1, .int (1 + (jrem (p0 / 4) 8))), (0, .int p0)]) rfl rfl rfl ?_
  refine k_iconst G (dc d_Si_wordFrom 18 rfl) cI_1 ?_
  refine k_istore G (dc d_Si_wordFrom 19 rfl) (ls' := [(4, .int 1), (3, .int (1 + (jrem (p0 / 32) 6))), (2, .int (1 + (jrem (p0 / 32) 6))), (1, .int (1 + (jrem (p0 / 4) 8))), (0, .int p0)]) rfl rfl ?_
  refine kJ h (fun r6 => KK X B L 5 0 0 M 54 [(3, .int r6)] []) (fun r6 h => ?_) (fun h => ?_)
  · obtain ⟨v3_5, rfl⟩ : ∃ z, z = r6 := ⟨_, rfl⟩
    show KK X B L 5 0 0 M 54 [(3, .int v3_5)] []
    refine k_iload_n G (dc d_Si_wordFrom 41 rfl) 0 rfl rfl ?_
    exact (kOk_s h) _ _ _ _ rfl rfl rfl (dc d_Si_wordFrom 42 rfl)
  · refine k_sub [4, 3, 2, 1, 0] rfl ?_
    refine kLp_ok (P := fun s7 => KK X B L 5 0 0 M 24 [(0, .int p0), (1, .int (1 + (jrem (p0 / 4) 8))), (2, .int s7.1), (3, .int s7.2.1), (4, .int s7.2.2)] []) (fun s7 h => ?_) kFU _ h
    obtain ⟨v2_1, v3_2, v4_3⟩ := s7
    unfold m_Si_wordFrom_l24 at h
    show KK X B L 5 0 0 M 24 [(0, .int p0), (1, .int (1 + (jrem (p0 / 4) 8))), (2, .int v2_1), (3, .int v3_2), (4, .int v4_3)] []
    refine k_iload G (dc d_Si_wordFrom 20 rfl) 4 rfl ?_
    refine k_iload_n G (dc d_Si_wordFrom 21 rfl) 1 rfl rfl ?_
    refine k_icmp_ge G (dc d_Si_wordFrom 22 rfl) (tgt := 54) rfl (fun c4 => ?_) (fun c4 => ?_)
    · replace h := kOk_p c4 h
      refine k_sub [3] rfl ?_
      have h9 := kOk_s h
      exact h9
    · replace h := kOk_n c4 h
      refine k_iconst G (dc d_Si_wordFrom 23 rfl) cI_1 ?_
      refine k_iload_n G (dc d_Si_wordFrom 24 rfl) 2 rfl rfl ?_
      refine k_iload_n G (dc d_Si_wordFrom 25 rfl) 0 rfl rfl ?_
      refine k_iconst G (dc d_Si_wordFrom 26 rfl) cI_5 ?_
      refine k_irem G (dc d_Si_wordFrom 27 rfl) czI_5 ?_
      refine k_iadd G (dc d_Si_wordFrom 28 rfl) ?_
      refine k_bipush G (dc d_Si_wordFrom 29 rfl) cB_6 ?_
      refine k_irem G (dc d_Si_wordFrom 30 rfl) czI_6 ?_
      refine k_iadd G (dc d_Si_wordFrom 31 rfl) ?_
      refine k_istore_n G (dc d_Si_wordFrom 32 rfl) (ls' := [(2, .int (1 + (jrem (v2_1 + (jrem p0 5)) 6))), (0, .int p0), (1, .int (1 + (jrem (p0 / 4) 8))), (3, .int v3_2), (4, .int v4_3)]) rfl rfl rfl ?_
      refine k_iload_n G (dc d_Si_wordFrom 33 rfl) 3 rfl rfl ?_
      refine k_bipush G (dc d_Si_wordFrom 34 rfl) cB_10 ?_
      refine k_imul G (dc d_Si_wordFrom 35 rfl) ?_
      refine k_iload_n G (dc d_Si_wordFrom 36 rfl) 0 rfl rfl ?_
      refine k_iadd G (dc d_Si_wordFrom 37 rfl) ?_
      refine k_istore_n G (dc d_Si_wordFrom 38 rfl) (ls' := [(3, .int ((v3_2 * 10) + (1 + (jrem (v2_1 + (jrem p0 5)) 6)))), (2, .int (1 + (jrem (v2_1 + (jrem p0 5)) 6))), (0, .int p0), (1, .int (1 + (jrem (p0 / 4) 8))), (4, .int v4_3)]) rfl rfl rfl ?_
      refine k_iinc G (dc d_Si_wordFrom 39 rfl) (ls' := [(4, .int (v4_3 + 1)), (3, .int ((v3_2 * 10) + (1 + (jrem (v2_1 + (jrem p0 5)) 6)))), (2, .int (1 + (jrem (v2_1 + (jrem p0 5)) 6))), (0, .int p0), (1, .int (1 + (jrem (p0 / 4) 8)))]) 4 rfl cI_1 rfl rfl ?_
      refine k_goto G (dc d_Si_wordFrom 40 rfl) (tgt := 24) rfl ?_
      refine k_sub [3, 4, 2, 1, 0] rfl ?_
      have h9 := kOk_s h
      exact h9
theorem c_Si_wordFrom {l : Launch} {B : KB} {L : KLay} {M : KMem} {p0 : Int32} (hst : l.stackTraces = false)  {r : Int32} (e : m_Si_wordFrom p0 = some r) : CtrN l B yX6_wordFrom cX6_wordFrom 5 (some .int) rm_Si_wordFrom [.int p0] L M (some (.int r)) L M :=
  mk_I rfl hst rfl (fun X hl G _ R => b_Si_wordFrom G  ⟨_, e, R⟩)
def I_Si_takeTurn : List (Nat × Instr × Nat) := [(0, .iload_n 1, 1), (1, .bipush 8, 2), (3, .idiv, 1), (4, .istore_n 2, 1), (5, .iload_n 1, 1), (6, .bipush 8, 2), (8, .irem, 1), (9, .tableswitch 159 0 6 #[43, 43, 58, 88, 121, 133, 145], 43), (52, .aload_n 0, 1), (53, .iload_n 2, 1), (54, .iconst 4, 1), (55, .irem, 1), (56, .iload_n 2, 1), (57, .invokestatic 9, 3), (60, .invokevirtual 15, 3), (63, .pop, 1), (64, .goto 115, 3), (67, .aload_n 0, 1), (68, .iload_n 2, 1), (69, .bipush 6, 2), (71, .idiv, 1), (72, .iconst 3, 1), (73, .irem, 1), (74, .ifCond .ne 7, 3), (77, .iconst 0, 1), (78, .goto 4, 3), (81, .iconst 2, 1), (82, .iconst 1, 1), (83, .iload_n 2, 1), (84, .bipush 6, 2), (86, .irem, 1), (87, .iadd, 1), (88, .iconst 0, 1), (89, .iconst 0, 1), (90, .invokevirtual 21, 3), (93, .pop, 1), (94, .goto 85, 3), (97, .aload_n 0, 1), (98, .iconst 1, 1), (99, .iconst 1, 1), (100, .iload_n 2, 1), (101, .bipush 6, 2), (103, .irem, 1), (104, .iadd, 1), (105, .iconst 1, 1), (106, .iload_n 2, 1), (107, .bipush 8, 2), (109, .idiv, 1), (110, .bipush 6, 2), (112, .irem, 1), (113, .iadd, 1), (114, .iconst 1, 1), (115, .iload_n 2, 1), (116, .bipush 64, 2), (118, .idiv, 1), (119, .bipush 6, 2), (121, .irem, 1), (122, .iadd, 1), (123, .invokevirtual 21, 3), (126, .pop, 1), (127, .goto 52, 3), (130, .aload_n 0, 1), (131, .iload_n 2, 1), (132, .bipush 10, 2), (134, .irem, 1), (135, .invokevirtual 25, 3), (138, .pop, 1), (139, .goto 40, 3), (142, .aload_n 0, 1), (143, .iload_n 2, 1), (144, .bipush 8, 2), (146, .irem, 1), (147, .invokevirtual 28, 3), (150, .pop, 1), (151, .goto 28, 3), (154, .aload_n 0, 1), (155, .iconst 1, 1), (156, .iload_n 2, 1), (157, .bipush 9, 2), (159, .irem, 1), (160, .iadd, 1), (161, .invokevirtual 31, 3), (164, .pop, 1), (165, .goto 14, 3), (168, .aload_n 0, 1), (169, .iconst 1, 1), (170, .iload_n 2, 1), (171, .bipush 12, 2), (173, .irem, 1), (174, .iadd, 1), (175, .invokevirtual 34, 3), (178, .pop, 1), (179, .return_, 1)]
set_option maxRecDepth 100000 in
theorem d_Si_takeTurn : decA cX6_takeTurn I_Si_takeTurn = true := by decide +kernel
abbrev rm_Si_takeTurn : Room := ({ frames := 6, cells := 0, slots := 0, locals := 135 } : Room)
def m_Si_takeTurn (p0 : Nat) (p1 : Int32) (M : KMem) : Option KMem :=
 Option.bind (α := KMem) (if (jrem p1 8) = 0 ∨ (jrem p1 8) = 1 then
 (Option.bind (m_Si_wordFrom (p1 / 8)) fun x10 =>
 Option.bind (m_Tw_bringSign p0 (jrem (p1 / 8) 4) x10 M) fun (x12, M13) =>
 some M13)
 else
 (if (jrem p1 8) = 2 then
 (Option.bind (α := Int32) (if (jrem ((p1 / 8) / 6) 3) = 0 then
 (some 0)
 else
 (some 2)) fun t15 =>
 Option.bind (m_Tw_giveDecree p0 t15 (1 + (jrem (p1 / 8) 6)) 0 0 M) fun (x18, M19) =>
 some M19)
 else
 (if (jrem p1 8) = 3 then
 (Option.bind (m_Tw_giveDecree p0 1 (1 + (jrem (p1 / 8) 6)) (1 + (jrem ((p1 / 8) / 8) 6)) (1 + (jrem ((p1 / 8) / 64) 6)) M) fun (x23, M24) =>
 some M24)
 else
 (if (jrem p1 8) = 4 then
 (Option.bind (m_Tw_takeDecree p0 (jrem (p1 / 8) 10) M) fun (x27, M28) =>
 some M28)
 else
 (if (jrem p1 8) = 5 then
 (Option.bind (m_Tw_repaint p0 (jrem (p1 / 8) 8) M) fun (x31, M32) =>
 some M32)
 else
 (if (jrem p1 8) = 6 then
 (Option.bind (m_Tw_forgive p0 (1 + (jrem (p1 / 8) 9)) M) fun (x35, M36) =>
 some M36)
 else
 (Option.bind (m_Tw_passMonths p0 (1 + (jrem (p1 / 8) 12)) M) fun (x39, M40) =>
 some M40))))))) fun M1 =>
 some M1
set_option maxHeartbeats 4000000 in
set_option maxRecDepth 100000 in
theorem b_Si_takeTurn {X : KX} {B : KB} {L : KLay} {M : KMem} {p0 : Nat} {p1 : Int32} (G : Good X B RX6 cX6_takeTurn 3 rm_Si_takeTurn) (hx : B.2.2.2 = false) (hp0 : okL L p0 twT) (h : kOk (m_Si_takeTurn p0 p1 M) (fun r => RV X B L 3 cX6_takeTurn rm_Si_takeTurn r)) : KK X B L 3 0 0 M 0 [(0, .ref (B.1 + p0)), (1, .int p1)] [] := by
  unfold m_Si_takeTurn at h
  refine k_iload_n G (dc d_Si_takeTurn 0 rfl) 1 rfl rfl ?_
  refine k_bipush G (dc d_Si_takeTurn 1 rfl) cB_8 ?_
  refine k_idiv G (dc d_Si_takeTurn 2 rfl) czI_8 ?_
  refine k_istore_n G (dc d_Si_takeTurn 3 rfl) (ls' := [(2, .int (p1 / 8)), (0, .ref (B.1 + p0)), (1, .int p1)]) rfl rfl rfl ?_
  refine k_iload_n G (dc d_Si_takeTurn 4 rfl) 2 rfl rfl ?_
  refine k_bipush G (dc d_Si_takeTurn 5 rfl) cB_8 ?_
  refine k_irem G (dc d_Si_takeTurn 6 rfl) czI_8 ?_
  refine kJ h (fun r2 => KK X B L 3 0 0 r2 179 [] []) (fun r2 h => ?_) (fun h => ?_)
  · obtain ⟨M1, rfl⟩ : ∃ z, z = r2 := ⟨_, rfl⟩
    show KK X B L 3 0 0 M1 179 [] []
    exact (kOk_s h) _ _ _ _ rfl rfl (dc d_Si_takeTurn 92 rfl)
  · by_cases c3 : (jrem p1 8) = 0 ∨ (jrem p1 8) = 1
    · replace h := kOk_p c3 h
      have hA14 : KK X B L 3 0 0 M 52 [(2, .int (p1 / 8)), (0, .ref (B.1 + p0)), (1, .int p1)] [] := by
        refine k_aload_n G (dc d_Si_takeTurn 8 rfl) 1 rfl rfl ?_
        refine k_iload_n G (dc d_Si_takeTurn 9 rfl) 0 rfl rfl ?_
        refine k_iconst G (dc d_Si_takeTurn 10 rfl) cI_4 ?_
        refine k_irem G (dc d_Si_takeTurn 11 rfl) czI_4 ?_
        refine k_iload_n G (dc d_Si_takeTurn 12 rfl) 0 rfl rfl ?_
        obtain ⟨x10, e9, h⟩ := kOk_b h
        refine k_cSI G (dc d_Si_takeTurn 13 rfl) mi_Si_wordFrom ms_Si_wordFrom ml_RX6_9 (c_Si_wordFrom (gst G)  e9) rfl rfl ⟨rfl, rfl⟩ rfl ⟨rfl, rfl⟩ ⟨rfl, rfl⟩ ?_
        obtain ⟨⟨x12, M13⟩, e11, h⟩ := kOk_b h
        refine k_cVI G (dc d_Si_takeTurn 14 rfl) kc6 (okL_lt hp0 (o := 0) 0 rfl) (okL_k hp0 (o := 0) 0 rfl) mi_Tw_bringSign mv_Tw_bringSign rfl ml_RX6_15 (c_Tw_bringSign (gst G) hp0 e11) rfl rfl ⟨rfl, rfl⟩ rfl ⟨rfl, rfl⟩ ⟨rfl, rfl⟩ ?_
        refine k_pop G (dc d_Si_takeTurn 15 rfl) rfl ?_
        refine k_goto G (dc d_Si_takeTurn 16 rfl) (tgt := 179) rfl ?_
        refine k_sub [] rfl ?_
        have h9 := kOk_s h
        exact h9
      rcases c3 with c3 | c3
      · exact k_tsI G (dc d_Si_takeTurn 7 rfl) (off := 43) (tgt := 52) c3 (by decide) (by decide) (by decide) (by decide) hA14
      · exact k_tsI G (dc d_Si_takeTurn 7 rfl) (off := 43) (tgt := 52) c3 (by decide) (by decide) (by decide) (by decide) hA14
    · replace h := kOk_n c3 h
      by_cases c4 : (jrem p1 8) = 2
      · replace h := kOk_p c4 h
        refine k_tsI G (dc d_Si_takeTurn 7 rfl) (off := 58) (tgt := 67) c4 (by decide) (by decide) (by decide) (by decide) ?_
        refine k_aload_n G (dc d_Si_takeTurn 17 rfl) 1 rfl rfl ?_
        refine k_iload_n G (dc d_Si_takeTurn 18 rfl) 0 rfl rfl ?_
        refine k_bipush G (dc d_Si_takeTurn 19 rfl) cB_6 ?_
        refine k_idiv G (dc d_Si_takeTurn 20 rfl) czI_6 ?_
        refine k_iconst G (dc d_Si_takeTurn 21 rfl) cI_3 ?_
        refine k_irem G (dc d_Si_takeTurn 22 rfl) czI_3 ?_
        refine kJ h (fun r16 => KK X B L 3 0 0 M 82 [(2, .int (p1 / 8))] [.int r16, .ref (B.1 + p0)]) (fun r16 h => ?_) (fun h => ?_)
        · obtain ⟨t15, rfl⟩ : ∃ z, z = r16 := ⟨_, rfl⟩
          show KK X B L 3 0 0 M 82 [(2, .int (p1 / 8))] [.int t15, .ref (B.1 + p0)]
          refine k_iconst G (dc d_Si_takeTurn 27 rfl) cI_1 ?_
          refine k_iload_n G (dc d_Si_takeTurn 28 rfl) 0 rfl rfl ?_
          refine k_bipush G (dc d_Si_takeTurn 29 rfl) cB_6 ?_
          refine k_irem G (dc d_Si_takeTurn 30 rfl) czI_6 ?_
          refine k_iadd G (dc d_Si_takeTurn 31 rfl) ?_
          refine k_iconst G (dc d_Si_takeTurn 32 rfl) cI_0 ?_
          refine k_iconst G (dc d_Si_takeTurn 33 rfl) cI_0 ?_
          obtain ⟨⟨x18, M19⟩, e17, h⟩ := kOk_b h
          refine k_cVI G (dc d_Si_takeTurn 34 rfl) kc6 (okL_lt hp0 (o := 0) 0 rfl) (okL_k hp0 (o := 0) 0 rfl) mi_Tw_giveDecree mv_Tw_giveDecree rfl ml_RX6_21 (c_Tw_giveDecree (gst G) hx hp0 e17) rfl rfl ⟨rfl, rfl⟩ rfl ⟨rfl, rfl⟩ ⟨rfl, rfl⟩ ?_
          refine k_pop G (dc d_Si_takeTurn 35 rfl) rfl ?_
          refine k_goto G (dc d_Si_takeTurn 36 rfl) (tgt := 179) rfl ?_
          refine k_sub [] rfl ?_
          have h9 := kOk_s h
          exact h9
        · refine k_if_ne G (dc d_Si_takeTurn 23 rfl) (tgt := 81) rfl (fun c20 => ?_) (fun c20 => ?_)
          · replace h := kOk_n c20 h
            refine k_iconst G (dc d_Si_takeTurn 26 rfl) cI_2 ?_
            refine k_sub [0] rfl ?_
            have h9 := kOk_s h
            exact h9
          · replace h := kOk_p c20 h
            refine k_iconst G (dc d_Si_takeTurn 24 rfl) cI_0 ?_
            refine k_goto G (dc d_Si_takeTurn 25 rfl) (tgt := 82) rfl ?_
            refine k_sub [0] rfl ?_
            have h9 := kOk_s h
            exact h9
      · replace h := kOk_n c4 h
        by_cases c5 : (jrem p1 8) = 3
        · replace h := kOk_p c5 h
          refine k_tsI G (dc d_Si_takeTurn 7 rfl) (off := 88) (tgt := 97) c5 (by decide) (by decide) (by decide) (by decide) ?_
          refine k_aload_n G (dc d_Si_takeTurn 37 rfl) 1 rfl rfl ?_
          refine k_iconst G (dc d_Si_takeTurn 38 rfl) cI_1 ?_
          refine k_iconst G (dc d_Si_takeTurn 39 rfl) cI_1 ?_
          refine k_iload_n G (dc d_Si_takeTurn 40 rfl) 0 rfl rfl ?_
          refine k_bipush G (dc d_Si_takeTurn 41 rfl) cB_6 ?_
          refine k_irem G (dc d_Si_takeTurn 42 rfl) czI_6 ?_
          refine k_iadd G (dc d_Si_takeTurn 43 rfl) ?_
          refine k_iconst G (dc d_Si_takeTurn 44 rfl) cI_1 ?_
          refine k_iload_n G (dc d_Si_takeTurn 45 rfl) 0 rfl rfl ?_
          refine k_bipush G (dc d_Si_takeTurn 46 rfl) cB_8 ?_
          refine k_idiv G (dc d_Si_takeTurn 47 rfl) czI_8 ?_
          refine k_bipush G (dc d_Si_takeTurn 48 rfl) cB_6 ?_
          refine k_irem G (dc d_Si_takeTurn 49 rfl) czI_6 ?_
          refine k_iadd G (dc d_Si_takeTurn 50 rfl) ?_
          refine k_iconst G (dc d_Si_takeTurn 51 rfl) cI_1 ?_
          refine k_iload_n G (dc d_Si_takeTurn 52 rfl) 0 rfl rfl ?_
          refine k_bipush G (dc d_Si_takeTurn 53 rfl) cB_64 ?_
          refine k_idiv G (dc d_Si_takeTurn 54 rfl) czI_64 ?_
          refine k_bipush G (dc d_Si_takeTurn 55 rfl) cB_6 ?_
          refine k_irem G (dc d_Si_takeTurn 56 rfl) czI_6 ?_
          refine k_iadd G (dc d_Si_takeTurn 57 rfl) ?_
          obtain ⟨⟨x23, M24⟩, e22, h⟩ := kOk_b h
          refine k_cVI G (dc d_Si_takeTurn 58 rfl) kc6 (okL_lt hp0 (o := 0) 0 rfl) (okL_k hp0 (o := 0) 0 rfl) mi_Tw_giveDecree mv_Tw_giveDecree rfl ml_RX6_21 (c_Tw_giveDecree (gst G) hx hp0 e22) rfl rfl ⟨rfl, rfl⟩ rfl ⟨rfl, rfl⟩ ⟨rfl, rfl⟩ ?_
          refine k_pop G (dc d_Si_takeTurn 59 rfl) rfl ?_
          refine k_goto G (dc d_Si_takeTurn 60 rfl) (tgt := 179) rfl ?_
          refine k_sub [] rfl ?_
          have h9 := kOk_s h
          exact h9
        · replace h := kOk_n c5 h
          by_cases c6 : (jrem p1 8) = 4
          · replace h := kOk_p c6 h
            refine k_tsI G (dc d_Si_takeTurn 7 rfl) (off := 121) (tgt := 130) c6 (by decide) (by decide) (by decide) (by decide) ?_
            refine k_aload_n G (dc d_Si_takeTurn 61 rfl) 1 rfl rfl ?_
            refine k_iload_n G (dc d_Si_takeTurn 62 rfl) 0 rfl rfl ?_
            refine k_bipush G (dc d_Si_takeTurn 63 rfl) cB_10 ?_
            refine k_irem G (dc d_Si_takeTurn 64 rfl) czI_10 ?_
            obtain ⟨⟨x27, M28⟩, e26, h⟩ := kOk_b h
            refine k_cVI G (dc d_Si_takeTurn 65 rfl) kc6 (okL_lt hp0 (o := 0) 0 rfl) (okL_k hp0 (o := 0) 0 rfl) mi_Tw_takeDecree mv_Tw_takeDecree rfl ml_RX6_25 (c_Tw_takeDecree (gst G) hx hp0 e26) rfl rfl ⟨rfl, rfl⟩ rfl ⟨rfl, rfl⟩ ⟨rfl, rfl⟩ ?_
            refine k_pop G (dc d_Si_takeTurn 66 rfl) rfl ?_
            refine k_goto G (dc d_Si_takeTurn 67 rfl) (tgt := 179) rfl ?_
            refine k_sub [] rfl ?_
            have h9 := kOk_s h
            exact h9
          · replace h := kOk_n c6 h
            by_cases c7 : (jrem p1 8) = 5
            · replace h := kOk_p c7 h
              refine k_tsI G (dc d_Si_takeTurn 7 rfl) (off := 133) (tgt := 142) c7 (by decide) (by decide) (by decide) (by decide) ?_
              refine k_aload_n G (dc d_Si_takeTurn 68 rfl) 1 rfl rfl ?_
              refine k_iload_n G (dc d_Si_takeTurn 69 rfl) 0 rfl rfl ?_
              refine k_bipush G (dc d_Si_takeTurn 70 rfl) cB_8 ?_
              refine k_irem G (dc d_Si_takeTurn 71 rfl) czI_8 ?_
              obtain ⟨⟨x31, M32⟩, e30, h⟩ := kOk_b h
              refine k_cVI G (dc d_Si_takeTurn 72 rfl) kc6 (okL_lt hp0 (o := 0) 0 rfl) (okL_k hp0 (o := 0) 0 rfl) mi_Tw_repaint mv_Tw_repaint rfl ml_RX6_28 (c_Tw_repaint (gst G) hp0 e30) rfl rfl ⟨rfl, rfl⟩ rfl ⟨rfl, rfl⟩ ⟨rfl, rfl⟩ ?_
              refine k_pop G (dc d_Si_takeTurn 73 rfl) rfl ?_
              refine k_goto G (dc d_Si_takeTurn 74 rfl) (tgt := 179) rfl ?_
              refine k_sub [] rfl ?_
              have h9 := kOk_s h
              exact h9
            · replace h := kOk_n c7 h
              by_cases c8 : (jrem p1 8) = 6
              · replace h := kOk_p c8 h
                refine k_tsI G (dc d_Si_takeTurn 7 rfl) (off := 145) (tgt := 154) c8 (by decide) (by decide) (by decide) (by decide) ?_
                refine k_aload_n G (dc d_Si_takeTurn 75 rfl) 1 rfl rfl ?_
                refine k_iconst G (dc d_Si_takeTurn 76 rfl) cI_1 ?_
                refine k_iload_n G (dc d_Si_takeTurn 77 rfl) 0 rfl rfl ?_
                refine k_bipush G (dc d_Si_takeTurn 78 rfl) cB_9 ?_
                refine k_irem G (dc d_Si_takeTurn 79 rfl) czI_9 ?_
                refine k_iadd G (dc d_Si_takeTurn 80 rfl) ?_
                obtain ⟨⟨x35, M36⟩, e34, h⟩ := kOk_b h
                refine k_cVI G (dc d_Si_takeTurn 81 rfl) kc6 (okL_lt hp0 (o := 0) 0 rfl) (okL_k hp0 (o := 0) 0 rfl) mi_Tw_forgive mv_Tw_forgive rfl ml_RX6_31 (c_Tw_forgive (gst G) hp0 e34) rfl rfl ⟨rfl, rfl⟩ rfl ⟨rfl, rfl⟩ ⟨rfl, rfl⟩ ?_
                refine k_pop G (dc d_Si_takeTurn 82 rfl) rfl ?_
                refine k_goto G (dc d_Si_takeTurn 83 rfl) (tgt := 179) rfl ?_
                refine k_sub [] rfl ?_
                have h9 := kOk_s h
                exact h9
              · replace h := kOk_n c8 h
                have hD41 : KK X B L 3 0 0 M 168 [(2, .int (p1 / 8)), (0, .ref (B.1 + p0)), (1, .int p1)] [] := by
                  refine k_aload_n G (dc d_Si_takeTurn 84 rfl) 1 rfl rfl ?_
                  refine k_iconst G (dc d_Si_takeTurn 85 rfl) cI_1 ?_
                  refine k_iload_n G (dc d_Si_takeTurn 86 rfl) 0 rfl rfl ?_
                  refine k_bipush G (dc d_Si_takeTurn 87 rfl) cB_12 ?_
                  refine k_irem G (dc d_Si_takeTurn 88 rfl) czI_12 ?_
                  refine k_iadd G (dc d_Si_takeTurn 89 rfl) ?_
                  obtain ⟨⟨x39, M40⟩, e38, h⟩ := kOk_b h
                  refine k_cVI G (dc d_Si_takeTurn 90 rfl) kc6 (okL_lt hp0 (o := 0) 0 rfl) (okL_k hp0 (o := 0) 0 rfl) mi_Tw_passMonths mv_Tw_passMonths rfl ml_RX6_34 (c_Tw_passMonths (gst G) hp0 e38) rfl rfl ⟨rfl, rfl⟩ rfl ⟨rfl, rfl⟩ ⟨rfl, rfl⟩ ?_
                  refine k_pop G (dc d_Si_takeTurn 91 rfl) rfl ?_
                  refine k_sub [] rfl ?_
                  have h9 := kOk_s h
                  exact h9
                rcases ts_out (jrem p1 8) 0 6 with ho | ⟨k9, h91, h92, h93⟩
                · exact k_tableOut G (dc d_Si_takeTurn 7 rfl) (tgt := 168) ho rfl hD41
                · have h94 : k9 = 0 ∨ k9 = 1 ∨ k9 = 2 ∨ k9 = 3 ∨ k9 = 4 ∨ k9 = 5 ∨ k9 = 6 := by omega
                  rcases h94 with rfl | rfl | rfl | rfl | rfl | rfl | rfl
                  · exact absurd (Or.inl (h93.trans cI_0)) c3
                  · exact absurd (Or.inr ((h93.trans cI_1))) c3
                  · exact absurd (h93.trans cI_2) c4
                  · exact absurd (h93.trans cI_3) c5
                  · exact absurd (h93.trans cI_4) c6
                  · exact absurd (h93.trans cI_5) c7
                  · exact absurd (h93.trans cI_6) c8
theorem c_Si_takeTurn {l : Launch} {B : KB} {L : KLay} {M : KMem} {p0 : Nat} {p1 : Int32} (hst : l.stackTraces = false) (hx : B.2.2.2 = false) (hp0 : okL L p0 twT) {M' : KMem} (e : m_Si_takeTurn p0 p1 M = some M') : CtrN l B yX6_takeTurn cX6_takeTurn 3 none rm_Si_takeTurn [.ref (B.1 + p0), .int p1] L M none L M' :=
  mk_V rfl hst rfl (fun X hl G _ R => b_Si_takeTurn G hx hp0 ⟨_, e, R⟩)
end
