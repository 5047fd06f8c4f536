/-! WORDS of the tables that the walks use; constants -/
theorem cI_m1 : Int32.ofInt (-1) = (-1) := by decide
theorem cI_0 : Int32.ofInt 0 = 0 := by decide
theorem cI_1 : Int32.ofInt 1 = 1 := by decide
theorem cI_2 : Int32.ofInt 2 = 2 := by decide
theorem cI_3 : Int32.ofInt 3 = 3 := by decide
theorem cI_4 : Int32.ofInt 4 = 4 := by decide
theorem cI_5 : Int32.ofInt 5 = 5 := by decide
theorem cI_6 : Int32.ofInt 6 = 6 := by decide
theorem cI_7 : Int32.ofInt 7 = 7 := by decide
theorem cI_8 : Int32.ofInt 8 = 8 := by decide
theorem cI_9 : Int32.ofInt 9 = 9 := by decide
theorem cI_10 : Int32.ofInt 10 = 10 := by decide
theorem cI_11 : Int32.ofInt 11 = 11 := by decide
theorem cI_100 : Int32.ofInt 100 = 100 := by decide
theorem cI_101 : Int32.ofInt 101 = 101 := by decide
theorem cI_102 : Int32.ofInt 102 = 102 := by decide
theorem cI_103 : Int32.ofInt 103 = 103 := by decide
theorem cI_104 : Int32.ofInt 104 = 104 := by decide
theorem cI_105 : Int32.ofInt 105 = 105 := by decide
theorem cI_106 : Int32.ofInt 106 = 106 := by decide
theorem cI_107 : Int32.ofInt 107 = 107 := by decide
theorem cI_108 : Int32.ofInt 108 = 108 := by decide
theorem cI_109 : Int32.ofInt 109 = 109 := by decide
theorem cI_110 : Int32.ofInt 110 = 110 := by decide
theorem cI_111 : Int32.ofInt 111 = 111 := by decide
theorem cI_112 : Int32.ofInt 112 = 112 := by decide
theorem cI_113 : Int32.ofInt 113 = 113 := by decide
theorem cI_114 : Int32.ofInt 114 = 114 := by decide
theorem cI_115 : Int32.ofInt 115 = 115 := by decide
theorem cI_116 : Int32.ofInt 116 = 116 := by decide
theorem cI_117 : Int32.ofInt 117 = 117 := by decide
theorem cI_118 : Int32.ofInt 118 = 118 := by decide
theorem cI_119 : Int32.ofInt 119 = 119 := by decide
theorem cI_120 : Int32.ofInt 120 = 120 := by decide
theorem cI_121 : Int32.ofInt 121 = 121 := by decide
theorem cB_m9 : (Int8.ofInt (-9)).toInt32 = (-9) := by decide
theorem cB_6 : (Int8.ofInt 6).toInt32 = 6 := by decide
theorem cB_7 : (Int8.ofInt 7).toInt32 = 7 := by decide
theorem cB_8 : (Int8.ofInt 8).toInt32 = 8 := by decide
theorem cB_9 : (Int8.ofInt 9).toInt32 = 9 := by decide
theorem cB_10 : (Int8.ofInt 10).toInt32 = 10 := by decide
theorem cB_11 : (Int8.ofInt 11).toInt32 = 11 := by decide
theorem cB_12 : (Int8.ofInt 12).toInt32 = 12 := by decide
theorem cB_14 : (Int8.ofInt 14).toInt32 = 14 := by decide
theorem cB_20 : (Int8.ofInt 20).toInt32 = 20 := by decide
theorem cB_32 : (Int8.ofInt 32).toInt32 = 32 := by decide
theorem cB_33 : (Int8.ofInt 33).toInt32 = 33 := by decide
theorem cB_41 : (Int8.ofInt 41).toInt32 = 41 := by decide
theorem cB_42 : (Int8.ofInt 42).toInt32 = 42 := by decide
theorem cB_46 : (Int8.ofInt 46).toInt32 = 46 := by decide
theorem cB_48 : (Int8.ofInt 48).toInt32 = 48 := by decide
theorem cB_49 : (Int8.ofInt 49).toInt32 = 49 := by decide
theorem cB_51 : (Int8.ofInt 51).toInt32 = 51 := by decide
theorem cB_54 : (Int8.ofInt 54).toInt32 = 54 := by decide
theorem cB_55 : (Int8.ofInt 55).toInt32 = 55 := by decide
theorem cB_57 : (Int8.ofInt 57).toInt32 = 57 := by decide
theorem cB_60 : (Int8.ofInt 60).toInt32 = 60 := by decide
theorem cB_64 : (Int8.ofInt 64).toInt32 = 64 := by decide
theorem cB_81 : (Int8.ofInt 81).toInt32 = 81 := by decide
theorem cB_82 : (Int8.ofInt 82).toInt32 = 82 := by decide
theorem cB_92 : (Int8.ofInt 92).toInt32 = 92 := by decide
theorem cB_93 : (Int8.ofInt 93).toInt32 = 93 := by decide
theorem cB_94 : (Int8.ofInt 94).toInt32 = 94 := by decide
theorem cB_95 : (Int8.ofInt 95).toInt32 = 95 := by decide
theorem cB_96 : (Int8.ofInt 96).toInt32 = 96 := by decide
theorem cB_97 : (Int8.ofInt 97).toInt32 = 97 := by decide
theorem cB_98 : (Int8.ofInt 98).toInt32 = 98 := by decide
theorem cB_100 : (Int8.ofInt 100).toInt32 = 100 := by decide
theorem cB_102 : (Int8.ofInt 102).toInt32 = 102 := by decide
theorem cB_106 : (Int8.ofInt 106).toInt32 = 106 := by decide
theorem cB_107 : (Int8.ofInt 107).toInt32 = 107 := by decide
theorem cB_108 : (Int8.ofInt 108).toInt32 = 108 := by decide
theorem cB_109 : (Int8.ofInt 109).toInt32 = 109 := by decide
theorem cB_111 : (Int8.ofInt 111).toInt32 = 111 := by decide
theorem cB_112 : (Int8.ofInt 112).toInt32 = 112 := by decide
theorem cB_114 : (Int8.ofInt 114).toInt32 = 114 := by decide
theorem cB_115 : (Int8.ofInt 115).toInt32 = 115 := by decide
theorem cB_120 : (Int8.ofInt 120).toInt32 = 120 := by decide
theorem cB_121 : (Int8.ofInt 121).toInt32 = 121 := by decide
theorem cS_200 : (Int16.ofInt 200).toInt32 = 200 := by decide
theorem cS_255 : (Int16.ofInt 255).toInt32 = 255 := by decide
theorem cS_999 : (Int16.ofInt 999).toInt32 = 999 := by decide
theorem cS_1000 : (Int16.ofInt 1000).toInt32 = 1000 := by decide
theorem cS_1404 : (Int16.ofInt 1404).toInt32 = 1404 := by decide
theorem cS_10000 : (Int16.ofInt 10000).toInt32 = 10000 := by decide
theorem czI_3 : ¬ (3 : Int32) = 0 := by decide
theorem czI_4 : ¬ (4 : Int32) = 0 := by decide
theorem czI_5 : ¬ (5 : Int32) = 0 := by decide
theorem czI_6 : ¬ (6 : Int32) = 0 := by decide
theorem czI_8 : ¬ (8 : Int32) = 0 := by decide
theorem czI_9 : ¬ (9 : Int32) = 0 := by decide
theorem czI_10 : ¬ (10 : Int32) = 0 := by decide
theorem czI_12 : ¬ (12 : Int32) = 0 := by decide
theorem czI_14 : ¬ (14 : Int32) = 0 := by decide
theorem czI_32 : ¬ (32 : Int32) = 0 := by decide
theorem czI_64 : ¬ (64 : Int32) = 0 := by decide
theorem czI_100 : ¬ (100 : Int32) = 0 := by decide
theorem czI_1000 : ¬ (1000 : Int32) = 0 := by decide
theorem czI_10000 : ¬ (10000 : Int32) = 0 := by decide
theorem czL_10000 : ¬ (10000 : Int64) = 0 := by decide
theorem ld_RX11_45 : Cond.constant RX11 45 66666666 ∈ GT := gt_in 1193 (by decide +kernel) rfl
theorem ld_RX9_9 : Cond.constant RX9 9 66666666 ∈ GT := gt_in 853 (by decide +kernel) rfl
theorem ld_RX10_226 : Cond.constantLong RX10 226 10000 ∈ GT := gt_in 992 (by decide +kernel) rfl
theorem ld_RX10_244 : Cond.constantLong RX10 244 6364136223846793005 ∈ GT := gt_in 1022 (by decide +kernel) rfl
theorem ld_RX10_246 : Cond.constantLong RX10 246 1442695040888963407 ∈ GT := gt_in 1023 (by decide +kernel) rfl
theorem ld_RX11_237 : Cond.constantLong RX11 237 10000 ∈ GT := gt_in 1431 (by decide +kernel) rfl
theorem ld_RX11_245 : Cond.constantLong RX11 245 100000000 ∈ GT := gt_in 1432 (by decide +kernel) rfl
theorem ld_RX11_247 : Cond.constantLong RX11 247 1000000000000 ∈ GT := gt_in 1433 (by decide +kernel) rfl
theorem ld_RX11_249 : Cond.constantLong RX11 249 10000000000000000 ∈ GT := gt_in 1434 (by decide +kernel) rfl
theorem ld_RX11_258 : Cond.constantLong RX11 258 6364136223846793005 ∈ GT := gt_in 1459 (by decide +kernel) rfl
theorem ld_RX11_260 : Cond.constantLong RX11 260 1442695040888963407 ∈ GT := gt_in 1460 (by decide +kernel) rfl
theorem fl_RX0_11 : Cond.fieldLink RX0 11 (TX0 1).1 (TX0 1).2.1 (TX0 1).2.2.1 ∈ GT := gt_in 155 (by decide +kernel) rfl
theorem fl_RX0_21 : Cond.fieldLink RX0 21 (TX0 0).1 (TX0 0).2.1 (TX0 0).2.2.1 ∈ GT := gt_in 153 (by decide +kernel) rfl
theorem fl_RX1_9 : Cond.fieldLink RX1 9 (TX1 0).1 (TX1 0).2.1 (TX1 0).2.2.1 ∈ GT := gt_in 250 (by decide +kernel) rfl
theorem fl_RX10_10 : Cond.fieldLink RX10 10 (TX10 0).1 (TX10 0).2.1 (TX10 0).2.2.1 ∈ GT := gt_in 296 (by decide +kernel) rfl
theorem fl_RX10_19 : Cond.fieldLink RX10 19 (TX10 1).1 (TX10 1).2.1 (TX10 1).2.2.1 ∈ GT := gt_in 297 (by decide +kernel) rfl
theorem fl_RX10_23 : Cond.fieldLink RX10 23 (TX10 2).1 (TX10 2).2.1 (TX10 2).2.2.1 ∈ GT := gt_in 298 (by decide +kernel) rfl
theorem fl_RX10_29 : Cond.fieldLink RX10 29 (TX10 3).1 (TX10 3).2.1 (TX10 3).2.2.1 ∈ GT := gt_in 299 (by decide +kernel) rfl
theorem fl_RX10_40 : Cond.fieldLinkNest RX10 40 (TX3 1).1 (TX3 1).2.1 (TX3 1).2.2.1 "SignReforms" ∈ lw_tbl := List.mem_of_getElem? (i := 112) (by decide +kernel)
theorem fl_RX10_59 : Cond.fieldLink RX10 59 (TX8 0).1 (TX8 0).2.1 (TX8 0).2.2.1 ∈ GT := gt_in 256 (by decide +kernel) rfl
theorem fl_RX10_87 : Cond.fieldLinkNest RX10 87 (TX3 5).1 (TX3 5).2.1 (TX3 5).2.2.1 "SignReforms" ∈ lw_tbl := List.mem_of_getElem? (i := 119) (by decide +kernel)
theorem fl_RX10_90 : Cond.fieldLinkNest RX10 90 (TX3 3).1 (TX3 3).2.1 (TX3 3).2.2.1 "SignReforms" ∈ lw_tbl := List.mem_of_getElem? (i := 114) (by decide +kernel)
theorem fl_RX10_93 : Cond.fieldLinkNest RX10 93 (TX3 4).1 (TX3 4).2.1 (TX3 4).2.2.1 "SignReforms" ∈ lw_tbl := List.mem_of_getElem? (i := 116) (by decide +kernel)
theorem fl_RX10_135 : Cond.fieldLink RX10 135 (TX7 0).1 (TX7 0).2.1 (TX7 0).2.2.1 ∈ GT := gt_in 170 (by decide +kernel) rfl
theorem fl_RX10_160 : Cond.fieldLink RX10 160 (TX7 10).1 (TX7 10).2.1 (TX7 10).2.2.1 ∈ GT := gt_in 193 (by decide +kernel) rfl
theorem fl_RX10_172 : Cond.fieldLink RX10 172 (TX7 1).1 (TX7 1).2.1 (TX7 1).2.2.1 ∈ GT := gt_in 173 (by decide +kernel) rfl
theorem fl_RX10_202 : Cond.fieldLinkNest RX10 202 (TX2 2).1 (TX2 2).2.1 (TX2 2).2.2.1 "SignReforms" ∈ lw_tbl := List.mem_of_getElem? (i := 281) (by decide +kernel)
theorem fl_RX10_267 : Cond.fieldLink RX10 267 (TX7 11).1 (TX7 11).2.1 (TX7 11).2.2.1 ∈ GT := gt_in 196 (by decide +kernel) rfl
theorem fl_RX11_7 : Cond.fieldLink RX11 7 (TX11 1).1 (TX11 1).2.1 (TX11 1).2.2.1 ∈ GT := gt_in 1081 (by decide +kernel) rfl
theorem fl_RX11_13 : Cond.fieldLink RX11 13 (TX11 2).1 (TX11 2).2.1 (TX11 2).2.2.1 ∈ GT := gt_in 1082 (by decide +kernel) rfl
theorem fl_RX11_16 : Cond.fieldLink RX11 16 (TX11 3).1 (TX11 3).2.1 (TX11 3).2.2.1 ∈ GT := gt_in 1083 (by decide +kernel) rfl
theorem fl_RX11_19 : Cond.fieldLink RX11 19 (TX11 5).1 (TX11 5).2.1 (TX11 5).2.2.1 ∈ GT := gt_in 1085 (by decide +kernel) rfl
theorem fl_RX11_22 : Cond.fieldLink RX11 22 (TX11 7).1 (TX11 7).2.1 (TX11 7).2.2.1 ∈ GT := gt_in 1087 (by decide +kernel) rfl
theorem fl_RX11_25 : Cond.fieldLink RX11 25 (TX11 9).1 (TX11 9).2.1 (TX11 9).2.2.1 ∈ GT := gt_in 1089 (by decide +kernel) rfl
theorem fl_RX11_28 : Cond.fieldLink RX11 28 (TX11 10).1 (TX11 10).2.1 (TX11 10).2.2.1 ∈ GT := gt_in 1090 (by decide +kernel) rfl
theorem fl_RX11_31 : Cond.fieldLink RX11 31 (TX11 17).1 (TX11 17).2.1 (TX11 17).2.2.1 ∈ GT := gt_in 1097 (by decide +kernel) rfl
theorem fl_RX11_37 : Cond.fieldLink RX11 37 (TX11 0).1 (TX11 0).2.1 (TX11 0).2.2.1 ∈ GT := gt_in 1080 (by decide +kernel) rfl
theorem fl_RX11_50 : Cond.fieldLink RX11 50 (TX11 4).1 (TX11 4).2.1 (TX11 4).2.2.1 ∈ GT := gt_in 1084 (by decide +kernel) rfl
theorem fl_RX11_115 : Cond.fieldLink RX11 115 (TX11 11).1 (TX11 11).2.1 (TX11 11).2.2.1 ∈ GT := gt_in 1091 (by decide +kernel) rfl
theorem fl_RX11_118 : Cond.fieldLink RX11 118 (TX11 12).1 (TX11 12).2.1 (TX11 12).2.2.1 ∈ GT := gt_in 1092 (by decide +kernel) rfl
theorem fl_RX11_121 : Cond.fieldLink RX11 121 (TX11 13).1 (TX11 13).2.1 (TX11 13).2.2.1 ∈ GT := gt_in 1093 (by decide +kernel) rfl
theorem fl_RX11_137 : Cond.fieldLink RX11 137 (TX11 14).1 (TX11 14).2.1 (TX11 14).2.2.1 ∈ GT := gt_in 1094 (by decide +kernel) rfl
theorem fl_RX11_161 : Cond.fieldLink RX11 161 (TX11 8).1 (TX11 8).2.1 (TX11 8).2.2.1 ∈ GT := gt_in 1088 (by decide +kernel) rfl
theorem fl_RX11_167 : Cond.fieldLink RX11 167 (TX11 16).1 (TX11 16).2.1 (TX11 16).2.2.1 ∈ GT := gt_in 1096 (by decide +kernel) rfl
theorem fl_RX11_171 : Cond.fieldLink RX11 171 (TX11 15).1 (TX11 15).2.1 (TX11 15).2.2.1 ∈ GT := gt_in 1095 (by decide +kernel) rfl
theorem fl_RX11_201 : Cond.fieldLink RX11 201 (TX11 6).1 (TX11 6).2.1 (TX11 6).2.2.1 ∈ GT := gt_in 1086 (by decide +kernel) rfl
theorem fl_RX2_11 : Cond.fieldLink RX2 11 (TX2 0).1 (TX2 0).2.1 (TX2 0).2.2.1 ∈ GT := gt_in 278 (by decide +kernel) rfl
theorem fl_RX2_17 : Cond.fieldLink RX2 17 (TX2 3).1 (TX2 3).2.1 (TX2 3).2.2.1 ∈ GT := gt_in 282 (by decide +kernel) rfl
theorem fl_RX2_20 : Cond.fieldLink RX2 20 (TX2 4).1 (TX2 4).2.1 (TX2 4).2.2.1 ∈ GT := gt_in 283 (by decide +kernel) rfl
theorem fl_RX2_25 : Cond.fieldLink RX2 25 (TX2 1).1 (TX2 1).2.1 (TX2 1).2.2.1 ∈ GT := gt_in 279 (by decide +kernel) rfl
theorem fl_RX2_29 : Cond.fieldLink RX2 29 (TX2 2).1 (TX2 2).2.1 (TX2 2).2.2.1 ∈ GT := gt_in 280 (by decide +kernel) rfl
theorem fl_RX3_9 : Cond.fieldLink RX3 9 (TX3 0).1 (TX3 0).2.1 (TX3 0).2.2.1 ∈ GT := gt_in 110 (by decide +kernel) rfl
theorem fl_RX3_15 : Cond.fieldLink RX3 15 (TX3 1).1 (TX3 1).2.1 (TX3 1).2.2.1 ∈ GT := gt_in 111 (by decide +kernel) rfl
theorem fl_RX3_23 : Cond.fieldLink RX3 23 (TX3 2).1 (TX3 2).2.1 (TX3 2).2.2.1 ∈ GT := gt_in 113 (by decide +kernel) rfl
theorem fl_RX3_36 : Cond.fieldLink RX3 36 (TX3 5).1 (TX3 5).2.1 (TX3 5).2.2.1 ∈ GT := gt_in 118 (by decide +kernel) rfl
theorem fl_RX3_47 : Cond.fieldLink RX3 47 (TX3 3).1 (TX3 3).2.1 (TX3 3).2.2.1 ∈ GT := gt_in 115 (by decide +kernel) rfl
theorem fl_RX3_63 : Cond.fieldLink RX3 63 (TX3 4).1 (TX3 4).2.1 (TX3 4).2.2.1 ∈ GT := gt_in 117 (by decide +kernel) rfl
theorem fl_RX4_9 : Cond.fieldLink RX4 9 (TX4 0).1 (TX4 0).2.1 (TX4 0).2.2.1 ∈ GT := gt_in 240 (by decide +kernel) rfl
theorem fl_RX5_42 : Cond.fieldLink RX5 42 (TX8 0).1 (TX8 0).2.1 (TX8 0).2.2.1 ∈ GT := gt_in 255 (by decide +kernel) rfl
theorem fl_RX5_46 : Cond.fieldLink RX5 46 (TX7 8).1 (TX7 8).2.1 (TX7 8).2.2.1 ∈ GT := gt_in 187 (by decide +kernel) rfl
theorem fl_RX7_12 : Cond.fieldLink RX7 12 (TX7 0).1 (TX7 0).2.1 (TX7 0).2.2.1 ∈ GT := gt_in 168 (by decide +kernel) rfl
theorem fl_RX7_18 : Cond.fieldLink RX7 18 (TX7 2).1 (TX7 2).2.1 (TX7 2).2.2.1 ∈ GT := gt_in 174 (by decide +kernel) rfl
theorem fl_RX7_22 : Cond.fieldLink RX7 22 (TX7 3).1 (TX7 3).2.1 (TX7 3).2.2.1 ∈ GT := gt_in 176 (by decide +kernel) rfl
theorem fl_RX7_25 : Cond.fieldLink RX7 25 (TX7 4).1 (TX7 4).2.1 (TX7 4).2.2.1 ∈ GT := gt_in 178 (by decide +kernel) rfl
theorem fl_RX7_28 : Cond.fieldLink RX7 28 (TX7 5).1 (TX7 5).2.1 (TX7 5).2.2.1 ∈ GT := gt_in 180 (by decide +kernel) rfl
theorem fl_RX7_31 : Cond.fieldLink RX7 31 (TX7 6).1 (TX7 6).2.1 (TX7 6).2.2.1 ∈ GT := gt_in 182 (by decide +kernel) rfl
theorem fl_RX7_34 : Cond.fieldLink RX7 34 (TX7 7).1 (TX7 7).2.1 (TX7 7).2.2.1 ∈ GT := gt_in 184 (by decide +kernel) rfl
theorem fl_RX7_37 : Cond.fieldLink RX7 37 (TX7 8).1 (TX7 8).2.1 (TX7 8).2.2.1 ∈ GT := gt_in 186 (by decide +kernel) rfl
theorem fl_RX7_40 : Cond.fieldLink RX7 40 (TX7 9).1 (TX7 9).2.1 (TX7 9).2.2.1 ∈ GT := gt_in 189 (by decide +kernel) rfl
theorem fl_RX7_43 : Cond.fieldLink RX7 43 (TX7 10).1 (TX7 10).2.1 (TX7 10).2.2.1 ∈ GT := gt_in 191 (by decide +kernel) rfl
theorem fl_RX7_49 : Cond.fieldLinkNest RX7 49 (TX0 0).1 (TX0 0).2.1 (TX0 0).2.2.1 "SignReforms" ∈ lw_tbl := List.mem_of_getElem? (i := 152) (by decide +kernel)
theorem fl_RX7_53 : Cond.fieldLink RX7 53 (TX7 1).1 (TX7 1).2.1 (TX7 1).2.2.1 ∈ GT := gt_in 172 (by decide +kernel) rfl
theorem fl_RX7_62 : Cond.fieldLink RX7 62 (TX7 11).1 (TX7 11).2.1 (TX7 11).2.2.1 ∈ GT := gt_in 194 (by decide +kernel) rfl
theorem fl_RX7_65 : Cond.fieldLink RX7 65 (TX7 12).1 (TX7 12).2.1 (TX7 12).2.2.1 ∈ GT := gt_in 197 (by decide +kernel) rfl
theorem fl_RX7_68 : Cond.fieldLink RX7 68 (TX7 13).1 (TX7 13).2.1 (TX7 13).2.2.1 ∈ GT := gt_in 199 (by decide +kernel) rfl
theorem fl_RX7_71 : Cond.fieldLink RX7 71 (TX7 14).1 (TX7 14).2.1 (TX7 14).2.2.1 ∈ GT := gt_in 201 (by decide +kernel) rfl
theorem fl_RX8_12 : Cond.fieldLink RX8 12 (TX8 0).1 (TX8 0).2.1 (TX8 0).2.2.1 ∈ GT := gt_in 254 (by decide +kernel) rfl
theorem fl_RX8_21 : Cond.fieldLink RX8 21 (TX8 1).1 (TX8 1).2.1 (TX8 1).2.2.1 ∈ GT := gt_in 257 (by decide +kernel) rfl
theorem fl_RX8_28 : Cond.fieldLink RX8 28 (TX8 2).1 (TX8 2).2.1 (TX8 2).2.2.1 ∈ GT := gt_in 258 (by decide +kernel) rfl
theorem fl_RX8_32 : Cond.fieldLink RX8 32 (TX8 3).1 (TX8 3).2.1 (TX8 3).2.2.1 ∈ GT := gt_in 259 (by decide +kernel) rfl
theorem fl_RX8_36 : Cond.fieldLink RX8 36 (TX7 1).1 (TX7 1).2.1 (TX7 1).2.2.1 ∈ GT := gt_in 171 (by decide +kernel) rfl
theorem fl_RX8_44 : Cond.fieldLink RX8 44 (TX7 4).1 (TX7 4).2.1 (TX7 4).2.2.1 ∈ GT := gt_in 179 (by decide +kernel) rfl
theorem fl_RX8_47 : Cond.fieldLink RX8 47 (TX7 5).1 (TX7 5).2.1 (TX7 5).2.2.1 ∈ GT := gt_in 181 (by decide +kernel) rfl
theorem fl_RX8_58 : Cond.fieldLink RX8 58 (TX7 10).1 (TX7 10).2.1 (TX7 10).2.2.1 ∈ GT := gt_in 192 (by decide +kernel) rfl
theorem fl_RX8_61 : Cond.fieldLink RX8 61 (TX7 3).1 (TX7 3).2.1 (TX7 3).2.2.1 ∈ GT := gt_in 177 (by decide +kernel) rfl
theorem fl_RX8_64 : Cond.fieldLink RX8 64 (TX7 0).1 (TX7 0).2.1 (TX7 0).2.2.1 ∈ GT := gt_in 169 (by decide +kernel) rfl
theorem fl_RX8_79 : Cond.fieldLink RX8 79 (TX7 2).1 (TX7 2).2.1 (TX7 2).2.2.1 ∈ GT := gt_in 175 (by decide +kernel) rfl
theorem fl_RX8_82 : Cond.fieldLink RX8 82 (TX7 6).1 (TX7 6).2.1 (TX7 6).2.2.1 ∈ GT := gt_in 183 (by decide +kernel) rfl
theorem fl_RX8_85 : Cond.fieldLink RX8 85 (TX7 7).1 (TX7 7).2.1 (TX7 7).2.2.1 ∈ GT := gt_in 185 (by decide +kernel) rfl
theorem fl_RX8_96 : Cond.fieldLink RX8 96 (TX7 11).1 (TX7 11).2.1 (TX7 11).2.2.1 ∈ GT := gt_in 195 (by decide +kernel) rfl
theorem fl_RX8_129 : Cond.fieldLink RX8 129 (TX7 14).1 (TX7 14).2.1 (TX7 14).2.2.1 ∈ GT := gt_in 202 (by decide +kernel) rfl
theorem fl_RX8_135 : Cond.fieldLink RX8 135 (TX7 9).1 (TX7 9).2.1 (TX7 9).2.2.1 ∈ GT := gt_in 190 (by decide +kernel) rfl
theorem fl_RX8_145 : Cond.fieldLink RX8 145 (TX7 12).1 (TX7 12).2.1 (TX7 12).2.2.1 ∈ GT := gt_in 198 (by decide +kernel) rfl
theorem fl_RX8_154 : Cond.fieldLink RX8 154 (TX7 8).1 (TX7 8).2.1 (TX7 8).2.2.1 ∈ GT := gt_in 188 (by decide +kernel) rfl
theorem fl_RX8_157 : Cond.fieldLink RX8 157 (TX7 13).1 (TX7 13).2.1 (TX7 13).2.2.1 ∈ GT := gt_in 200 (by decide +kernel) rfl
theorem fl_RX8_176 : Cond.fieldLinkNest RX8 176 (TX0 0).1 (TX0 0).2.1 (TX0 0).2.2.1 "SignReforms" ∈ lw_tbl := List.mem_of_getElem? (i := 154) (by decide +kernel)
theorem fs_RJ0_9 : Cond.fieldLink RJ0 9 "java/lang/String" "value" "[B" ∈ GT := gt_in 1480 (by decide +kernel) rfl
theorem fs_RJ0_15 : Cond.fieldLink RJ0 15 "java/lang/String" "coder" "B" ∈ GT := gt_in 1479 (by decide +kernel) rfl
theorem fs_RJ0_38 : Cond.fieldLink RJ0 38 "java/lang/String" "COMPACT_STRINGS" "Z" ∈ GT := gt_in 350 (by decide +kernel) rfl
theorem ml_RJ0_335 : Cond.methodLink RJ0 335 yJ0_coder_7d493 ∈ GT := gt_in 356 (by decide +kernel) rfl
theorem ml_RJ0_492 : Cond.methodLink RJ0 492 yJ0_isLatin1_aae02 ∈ GT := gt_in 346 (by decide +kernel) rfl
theorem ml_RJ0_505 : Cond.methodLink RJ0 505 yJ0_length_8abf5 ∈ GT := gt_in 352 (by decide +kernel) rfl
theorem ml_RJ0_633 : Cond.methodLink RJ0 633 yJ0_indexOf_7cf53 ∈ GT := gt_in 342 (by decide +kernel) rfl
theorem ml_RJ0_637 : Cond.methodLink RJ0 637 yJ1_indexOf_4cfef ∈ GT := gt_in 360 (by decide +kernel) rfl
theorem ml_RJ1_38 : Cond.methodLink RJ1 38 Lib.Math.min.name ∈ GT := gt_in 369 (by decide +kernel) rfl
theorem ml_RJ1_88 : Cond.methodLink RJ1 88 yJ1_canEncode_9a6ad ∈ GT := gt_in 363 (by decide +kernel) rfl
theorem ml_RJ1_92 : Cond.methodLink RJ1 92 Lib.Math.max.name ∈ GT := gt_in 366 (by decide +kernel) rfl
theorem ml_RJ1_95 : Cond.methodLink RJ1 95 yJ1_indexOfChar_4cfef ∈ GT := gt_in 372 (by decide +kernel) rfl
theorem ml_RX0_15 : Cond.methodLink RX0 15 yX9_isLetter ∈ GT := gt_in 889 (by decide +kernel) rfl
theorem ml_RX0_25 : Cond.methodLink RX0 25 yX0_has ∈ GT := gt_in 604 (by decide +kernel) rfl
theorem ml_RX0_28 : Cond.methodLink RX0 28 yX0_areFull ∈ GT := gt_in 626 (by decide +kernel) rfl
theorem ml_RX0_32 : Cond.methodLink RX0 32 arraycopyName ∈ GT := gt_in 640 (by decide +kernel) rfl
theorem ml_RX0_38 : Cond.methodLink RX0 38 yX0_spellingWithout ∈ GT := gt_in 600 (by decide +kernel) rfl
theorem ml_RX0_42 : Cond.methodLink RX0 42 yX9_decreed ∈ GT := gt_in 608 (by decide +kernel) rfl
theorem ml_RX1_15 : Cond.methodLink RX1 15 yJ7_fill_53178 ∈ GT := gt_in 813 (by decide +kernel) rfl
theorem ml_RX1_21 : Cond.methodLink RX1 21 yX9_mirrored ∈ GT := gt_in 814 (by decide +kernel) rfl
theorem ml_RX1_27 : Cond.methodLink RX1 27 yX1_through ∈ GT := gt_in 815 (by decide +kernel) rfl
theorem ml_RX1_31 : Cond.methodLink RX1 31 yX1_joinedTo ∈ GT := gt_in 829 (by decide +kernel) rfl
theorem ml_RX1_35 : Cond.methodLink RX1 35 yX0_has ∈ GT := gt_in 819 (by decide +kernel) rfl
theorem ml_RX1_41 : Cond.methodLink RX1 41 yX1_pastDecree ∈ GT := gt_in 820 (by decide +kernel) rfl
theorem ml_RX1_45 : Cond.methodLink RX1 45 yX1_let ∈ GT := gt_in 824 (by decide +kernel) rfl
theorem ml_RX1_48 : Cond.methodLink RX1 48 yX0_number ∈ GT := gt_in 828 (by decide +kernel) rfl
theorem ml_RX10_49 : Cond.methodLink RX10 49 yX3_put ∈ GT := gt_in 564 (by decide +kernel) rfl
theorem ml_RX10_53 : Cond.methodLink RX10 53 yX3_firstError ∈ GT := gt_in 317 (by decide +kernel) rfl
theorem ml_RX10_63 : Cond.methodLink RX10 63 yX7_clear ∈ GT := gt_in 576 (by decide +kernel) rfl
theorem ml_RX10_68 : Cond.methodLink RX10 68 yX2_forgetStates ∈ GT := gt_in 577 (by decide +kernel) rfl
theorem ml_RX10_71 : Cond.methodLink RX10 71 yX2_emptySlots ∈ GT := gt_in 581 (by decide +kernel) rfl
theorem ml_RX10_74 : Cond.methodLink RX10 74 yX3_restart ∈ GT := gt_in 585 (by decide +kernel) rfl
theorem ml_RX10_78 : Cond.methodLink RX10 78 yX3_hasMore ∈ GT := gt_in 586 (by decide +kernel) rfl
theorem ml_RX10_81 : Cond.methodLink RX10 81 yX3_readCommand ∈ GT := gt_in 587 (by decide +kernel) rfl
theorem ml_RX10_84 : Cond.methodLink RX10 84 yX10_doneInTown ∈ GT := gt_in 588 (by decide +kernel) rfl
theorem ml_RX10_96 : Cond.methodLink RX10 96 yX8_bringSign ∈ GT := gt_in 592 (by decide +kernel) rfl
theorem ml_RX10_100 : Cond.methodLink RX10 100 yX8_giveDecree ∈ GT := gt_in 613 (by decide +kernel) rfl
theorem ml_RX10_104 : Cond.methodLink RX10 104 yX8_takeDecree ∈ GT := gt_in 630 (by decide +kernel) rfl
theorem ml_RX10_108 : Cond.methodLink RX10 108 yX8_repaint ∈ GT := gt_in 641 (by decide +kernel) rfl
theorem ml_RX10_111 : Cond.methodLink RX10 111 yX8_passMonths ∈ GT := gt_in 669 (by decide +kernel) rfl
theorem ml_RX10_114 : Cond.methodLink RX10 114 yX8_forgive ∈ GT := gt_in 688 (by decide +kernel) rfl
theorem ml_RX10_119 : Cond.methodLink RX10 119 yX8_numberOfTown ∈ GT := gt_in 708 (by decide +kernel) rfl
theorem ml_RX10_122 : Cond.methodLink RX10 122 yX10_requireSign ∈ GT := gt_in 733 (by decide +kernel) rfl
theorem ml_RX10_127 : Cond.methodLink RX10 127 yX8_numberOfSign ∈ GT := gt_in 755 (by decide +kernel) rfl
theorem ml_RX10_130 : Cond.methodLink RX10 130 yX10_requireDecree ∈ GT := gt_in 766 (by decide +kernel) rfl
theorem ml_RX10_139 : Cond.methodLink RX10 139 yX0_number ∈ GT := gt_in 773 (by decide +kernel) rfl
theorem ml_RX10_143 : Cond.methodLink RX10 143 yX10_requireGuild ∈ GT := gt_in 784 (by decide +kernel) rfl
theorem ml_RX10_148 : Cond.methodLink RX10 148 yX8_numberOfGuild ∈ GT := gt_in 789 (by decide +kernel) rfl
theorem ml_RX10_153 : Cond.methodLink RX10 153 yX8_spelled ∈ GT := gt_in 805 (by decide +kernel) rfl
theorem ml_RX10_157 : Cond.methodLink RX10 157 yX10_requireSetting ∈ GT := gt_in 839 (by decide +kernel) rfl
theorem ml_RX10_164 : Cond.methodLink RX10 164 yX9_isWord ∈ GT := gt_in 850 (by decide +kernel) rfl
theorem ml_RX10_177 : Cond.methodLink RX10 177 yX2_remember ∈ GT := gt_in 859 (by decide +kernel) rfl
theorem ml_RX10_181 : Cond.methodLink RX10 181 yX8_counted ∈ GT := gt_in 872 (by decide +kernel) rfl
theorem ml_RX10_184 : Cond.methodLink RX10 184 yX10_requireDecreeArguments ∈ GT := gt_in 883 (by decide +kernel) rfl
theorem ml_RX10_188 : Cond.methodLink RX10 188 yX0_areFull ∈ GT := gt_in 890 (by decide +kernel) rfl
theorem ml_RX10_195 : Cond.methodLink RX10 195 yX8_canForgive ∈ GT := gt_in 921 (by decide +kernel) rfl
theorem ml_RX10_207 : Cond.methodLink RX10 207 yX2_takeBack ∈ GT := gt_in 939 (by decide +kernel) rfl
theorem ml_RX10_210 : Cond.methodLink RX10 210 yX8_reasonAgainstDecree ∈ GT := gt_in 445 (by decide +kernel) rfl
theorem ml_RX10_213 : Cond.methodLink RX10 213 yX8_spellingsApart ∈ GT := gt_in 957 (by decide +kernel) rfl
theorem ml_RX10_218 : Cond.methodLink RX10 218 yX8_signsPaidBy ∈ GT := gt_in 969 (by decide +kernel) rfl
theorem ml_RX10_221 : Cond.methodLink RX10 221 yX8_monthsTillFinesAreMore ∈ GT := gt_in 980 (by decide +kernel) rfl
theorem ml_RX10_230 : Cond.methodLink RX10 230 yX7_copyFrom ∈ GT := gt_in 994 (by decide +kernel) rfl
theorem ml_RX10_233 : Cond.methodLink RX10 233 yX5_succeeds ∈ GT := gt_in 995 (by decide +kernel) rfl
theorem ml_RX10_241 : Cond.methodLink RX10 241 yX8_allFines ∈ GT := gt_in 1021 (by decide +kernel) rfl
theorem ml_RX10_248 : Cond.methodLink RX10 248 yX6_takeTurn ∈ GT := gt_in 1024 (by decide +kernel) rfl
theorem ml_RX10_254 : Cond.methodLink RX10 254 yX8_lettersOfRights ∈ GT := gt_in 1036 (by decide +kernel) rfl
theorem ml_RX10_257 : Cond.methodLink RX10 257 yX8_wrongSigns ∈ GT := gt_in 1037 (by decide +kernel) rfl
theorem ml_RX10_260 : Cond.methodLink RX10 260 yX10_requireSlot ∈ GT := gt_in 1045 (by decide +kernel) rfl
theorem ml_RX10_263 : Cond.methodLink RX10 263 yX2_fillSlot ∈ GT := gt_in 1049 (by decide +kernel) rfl
theorem ml_RX10_270 : Cond.methodLink RX10 270 yX2_isFilled ∈ GT := gt_in 1060 (by decide +kernel) rfl
theorem ml_RX10_275 : Cond.methodLink RX10 275 yX2_copySlot ∈ GT := gt_in 1065 (by decide +kernel) rfl
theorem ml_RX10_278 : Cond.methodLink RX10 278 yX8_hasSign ∈ GT := gt_in 737 (by decide +kernel) rfl
theorem ml_RX10_286 : Cond.methodLink RX10 286 yX0_has ∈ GT := gt_in 770 (by decide +kernel) rfl
theorem ml_RX10_297 : Cond.methodLink RX10 297 yX0_canBe ∈ GT := gt_in 886 (by decide +kernel) rfl
theorem ml_RX11_34 : Cond.methodLink RX11 34 yX11_begins ∈ GT := gt_in 1076 (by decide +kernel) rfl
theorem ml_RX11_41 : Cond.methodLink RX11 41 yX11_in ∈ GT := gt_in 1143 (by decide +kernel) rfl
theorem ml_RX11_46 : Cond.methodLink RX11 46 yX11_isLetter ∈ GT := gt_in 1194 (by decide +kernel) rfl
theorem ml_RX11_53 : Cond.methodLink RX11 53 yX11_lettersOf ∈ GT := gt_in 1215 (by decide +kernel) rfl
theorem ml_RX11_57 : Cond.methodLink RX11 57 yX11_ofDecree ∈ GT := gt_in 1212 (by decide +kernel) rfl
theorem ml_RX11_61 : Cond.methodLink RX11 61 yX11_letterAt ∈ GT := gt_in 1218 (by decide +kernel) rfl
theorem ml_RX11_64 : Cond.methodLink RX11 64 yX11_made ∈ GT := gt_in 1208 (by decide +kernel) rfl
theorem ml_RX11_67 : Cond.methodLink RX11 67 yX11_of ∈ GT := gt_in 1201 (by decide +kernel) rfl
theorem ml_RX11_70 : Cond.methodLink RX11 70 yX11_spelled ∈ GT := gt_in 1204 (by decide +kernel) rfl
theorem ml_RX11_73 : Cond.methodLink RX11 73 yX11_rightOf ∈ GT := gt_in 1225 (by decide +kernel) rfl
theorem ml_RX11_76 : Cond.methodLink RX11 76 yX11_lesser ∈ GT := gt_in 1280 (by decide +kernel) rfl
theorem ml_RX11_79 : Cond.methodLink RX11 79 yX11_apartOf ∈ GT := gt_in 1276 (by decide +kernel) rfl
theorem ml_RX11_82 : Cond.methodLink RX11 82 yX11_apartBy ∈ GT := gt_in 1272 (by decide +kernel) rfl
theorem ml_RX11_85 : Cond.methodLink RX11 85 yX11_isWrong ∈ GT := gt_in 1287 (by decide +kernel) rfl
theorem ml_RX11_88 : Cond.methodLink RX11 88 yX11_hindrance ∈ GT := gt_in 1221 (by decide +kernel) rfl
theorem ml_RX11_92 : Cond.methodLink RX11 92 yX11_putsDecree ∈ GT := gt_in 1240 (by decide +kernel) rfl
theorem ml_RX11_96 : Cond.methodLink RX11 96 yX11_keepsDecrees ∈ GT := gt_in 1252 (by decide +kernel) rfl
theorem ml_RX11_99 : Cond.methodLink RX11 99 yX11_restoresDecrees ∈ GT := gt_in 1256 (by decide +kernel) rfl
theorem ml_RX11_102 : Cond.methodLink RX11 102 yX11_costOf ∈ GT := gt_in 1268 (by decide +kernel) rfl
theorem ml_RX11_105 : Cond.methodLink RX11 105 yX11_wrongs ∈ GT := gt_in 1299 (by decide +kernel) rfl
theorem ml_RX11_108 : Cond.methodLink RX11 108 yX11_isWord ∈ GT := gt_in 1190 (by decide +kernel) rfl
theorem ml_RX11_111 : Cond.methodLink RX11 111 yX11_areArguments ∈ GT := gt_in 1233 (by decide +kernel) rfl
theorem ml_RX11_124 : Cond.methodLink RX11 124 yX11_errorOfSign ∈ GT := gt_in 1186 (by decide +kernel) rfl
theorem ml_RX11_127 : Cond.methodLink RX11 127 yX11_comes ∈ GT := gt_in 1197 (by decide +kernel) rfl
theorem ml_RX11_130 : Cond.methodLink RX11 130 yX11_errorOfDecree ∈ GT := gt_in 1229 (by decide +kernel) rfl
theorem ml_RX11_134 : Cond.methodLink RX11 134 yX11_gives ∈ GT := gt_in 1236 (by decide +kernel) rfl
theorem ml_RX11_140 : Cond.methodLink RX11 140 yX11_isDecree ∈ GT := gt_in 1244 (by decide +kernel) rfl
theorem ml_RX11_143 : Cond.methodLink RX11 143 yX11_revokes ∈ GT := gt_in 1248 (by decide +kernel) rfl
theorem ml_RX11_146 : Cond.methodLink RX11 146 yX11_isSign ∈ GT := gt_in 1260 (by decide +kernel) rfl
theorem ml_RX11_149 : Cond.methodLink RX11 149 yX11_paints ∈ GT := gt_in 1264 (by decide +kernel) rfl
theorem ml_RX11_152 : Cond.methodLink RX11 152 yX11_goesOn ∈ GT := gt_in 1283 (by decide +kernel) rfl
theorem ml_RX11_155 : Cond.methodLink RX11 155 yX11_errorOfAmnesty ∈ GT := gt_in 1291 (by decide +kernel) rfl
theorem ml_RX11_158 : Cond.methodLink RX11 158 yX11_spares ∈ GT := gt_in 1295 (by decide +kernel) rfl
theorem ml_RX11_164 : Cond.methodLink RX11 164 yX11_holds ∈ GT := gt_in 1146 (by decide +kernel) rfl
theorem ml_RX11_174 : Cond.methodLink RX11 174 yX11_isNext ∈ GT := gt_in 1166 (by decide +kernel) rfl
theorem ml_RX11_178 : Cond.methodLink RX11 178 yX11_takes ∈ GT := gt_in 1162 (by decide +kernel) rfl
theorem ml_RX11_181 : Cond.methodLink RX11 181 yX11_readWord ∈ GT := gt_in 1174 (by decide +kernel) rfl
theorem ml_RX11_184 : Cond.methodLink RX11 184 yX11_readMonths ∈ GT := gt_in 1178 (by decide +kernel) rfl
theorem ml_RX11_187 : Cond.methodLink RX11 187 yX11_readCommand ∈ GT := gt_in 1170 (by decide +kernel) rfl
theorem ml_RX11_190 : Cond.methodLink RX11 190 yX11_does ∈ GT := gt_in 1182 (by decide +kernel) rfl
theorem ml_RX11_193 : Cond.methodLink RX11 193 yX11_hasReasons ∈ GT := gt_in 1303 (by decide +kernel) rfl
theorem ml_RX11_197 : Cond.methodLink RX11 197 yX11_goesThrough ∈ GT := gt_in 1158 (by decide +kernel) rfl
theorem ml_RX11_204 : Cond.methodLink RX11 204 yX11_sumOf ∈ GT := gt_in 1319 (by decide +kernel) rfl
theorem ml_RX11_207 : Cond.methodLink RX11 207 yX11_told ∈ GT := gt_in 1315 (by decide +kernel) rfl
theorem ml_RX11_210 : Cond.methodLink RX11 210 yX11_ofSign ∈ GT := gt_in 1327 (by decide +kernel) rfl
theorem ml_RX11_213 : Cond.methodLink RX11 213 yX11_ofGuild ∈ GT := gt_in 1339 (by decide +kernel) rfl
theorem ml_RX11_216 : Cond.methodLink RX11 216 yX11_remember ∈ GT := gt_in 1359 (by decide +kernel) rfl
theorem ml_RX11_219 : Cond.methodLink RX11 219 yX11_acts ∈ GT := gt_in 1355 (by decide +kernel) rfl
theorem ml_RX11_222 : Cond.methodLink RX11 222 yX11_wouldHinderMore ∈ GT := gt_in 1399 (by decide +kernel) rfl
theorem ml_RX11_225 : Cond.methodLink RX11 225 yX11_wouldHinder ∈ GT := gt_in 1395 (by decide +kernel) rfl
theorem ml_RX11_228 : Cond.methodLink RX11 228 yX11_paidBy ∈ GT := gt_in 1415 (by decide +kernel) rfl
theorem ml_RX11_231 : Cond.methodLink RX11 231 yX11_worthBehind ∈ GT := gt_in 1423 (by decide +kernel) rfl
theorem ml_RX11_234 : Cond.methodLink RX11 234 yX11_putAside ∈ GT := gt_in 1439 (by decide +kernel) rfl
theorem ml_RX11_239 : Cond.methodLink RX11 239 yX11_succeeds ∈ GT := gt_in 1443 (by decide +kernel) rfl
theorem ml_RX11_242 : Cond.methodLink RX11 242 yX11_putBack ∈ GT := gt_in 1447 (by decide +kernel) rfl
theorem ml_RX11_251 : Cond.methodLink RX11 251 yX11_runs ∈ GT := gt_in 1435 (by decide +kernel) rfl
theorem ml_RX11_255 : Cond.methodLink RX11 255 yX11_wordBy ∈ GT := gt_in 1465 (by decide +kernel) rfl
theorem ml_RX11_262 : Cond.methodLink RX11 262 yX11_turns ∈ GT := gt_in 1461 (by decide +kernel) rfl
theorem ml_RX11_265 : Cond.methodLink RX11 265 yX11_simulates ∈ GT := gt_in 1455 (by decide +kernel) rfl
theorem ml_RX2_32 : Cond.methodLink RX2 32 yX7_copyFrom ∈ GT := gt_in 863 (by decide +kernel) rfl
theorem ml_RX2_36 : Cond.methodLink RX2 36 yX2_isFilled ∈ GT := gt_in 1069 (by decide +kernel) rfl
theorem ml_RX3_19 : Cond.methodLink RX3 19 yX3_restart ∈ GT := gt_in 321 (by decide +kernel) rfl
theorem ml_RX3_26 : Cond.methodLink RX3 26 yX3_hasMore ∈ GT := gt_in 329 (by decide +kernel) rfl
theorem ml_RX3_29 : Cond.methodLink RX3 29 yX3_readCommand ∈ GT := gt_in 333 (by decide +kernel) rfl
theorem ml_RX3_32 : Cond.methodLink RX3 32 yX3_readMark ∈ GT := gt_in 325 (by decide +kernel) rfl
theorem ml_RX3_41 : Cond.methodLink RX3 41 yJ0_indexOf_0f7a4 ∈ GT := gt_in 338 (by decide +kernel) rfl
theorem ml_RX3_50 : Cond.methodLink RX3 50 yX3_readDigit ∈ GT := gt_in 424 (by decide +kernel) rfl
theorem ml_RX3_54 : Cond.methodLink RX3 54 yX3_readWord ∈ GT := gt_in 428 (by decide +kernel) rfl
theorem ml_RX3_57 : Cond.methodLink RX3 57 yX3_readLetter ∈ GT := gt_in 432 (by decide +kernel) rfl
theorem ml_RX3_60 : Cond.methodLink RX3 60 yX3_readMonths ∈ GT := gt_in 436 (by decide +kernel) rfl
theorem ml_RX4_15 : Cond.methodLink RX4 15 yX9_letters ∈ GT := gt_in 657 (by decide +kernel) rfl
theorem ml_RX4_21 : Cond.methodLink RX4 21 yX4_lastOfNextRow ∈ GT := gt_in 660 (by decide +kernel) rfl
theorem ml_RX4_25 : Cond.methodLink RX4 25 Lib.Math.min.name ∈ GT := gt_in 664 (by decide +kernel) rfl
theorem ml_RX5_9 : Cond.methodLink RX5 9 yX5_isGiven ∈ GT := gt_in 998 (by decide +kernel) rfl
theorem ml_RX5_15 : Cond.methodLink RX5 15 yX8_takeDecree ∈ GT := gt_in 1003 (by decide +kernel) rfl
theorem ml_RX5_21 : Cond.methodLink RX5 21 yX8_repaint ∈ GT := gt_in 1004 (by decide +kernel) rfl
theorem ml_RX5_24 : Cond.methodLink RX5 24 yX5_monthsPass ∈ GT := gt_in 1005 (by decide +kernel) rfl
theorem ml_RX5_28 : Cond.methodLink RX5 28 yX8_forgive ∈ GT := gt_in 1009 (by decide +kernel) rfl
theorem ml_RX5_31 : Cond.methodLink RX5 31 yX8_hasSign ∈ GT := gt_in 1010 (by decide +kernel) rfl
theorem ml_RX5_35 : Cond.methodLink RX5 35 yX8_lettersWrong ∈ GT := gt_in 1011 (by decide +kernel) rfl
theorem ml_RX5_38 : Cond.methodLink RX5 38 yX8_wrongSigns ∈ GT := gt_in 1012 (by decide +kernel) rfl
theorem ml_RX5_52 : Cond.methodLink RX5 52 yX0_canBe ∈ GT := gt_in 1001 (by decide +kernel) rfl
theorem ml_RX5_58 : Cond.methodLink RX5 58 yX8_giveDecree ∈ GT := gt_in 1002 (by decide +kernel) rfl
theorem ml_RX5_62 : Cond.methodLink RX5 62 yX8_passMonths ∈ GT := gt_in 1008 (by decide +kernel) rfl
theorem ml_RX6_9 : Cond.methodLink RX6 9 yX6_wordFrom ∈ GT := gt_in 1027 (by decide +kernel) rfl
theorem ml_RX6_15 : Cond.methodLink RX6 15 yX8_bringSign ∈ GT := gt_in 1030 (by decide +kernel) rfl
theorem ml_RX6_21 : Cond.methodLink RX6 21 yX8_giveDecree ∈ GT := gt_in 1031 (by decide +kernel) rfl
theorem ml_RX6_25 : Cond.methodLink RX6 25 yX8_takeDecree ∈ GT := gt_in 1032 (by decide +kernel) rfl
theorem ml_RX6_28 : Cond.methodLink RX6 28 yX8_repaint ∈ GT := gt_in 1033 (by decide +kernel) rfl
theorem ml_RX6_31 : Cond.methodLink RX6 31 yX8_forgive ∈ GT := gt_in 1034 (by decide +kernel) rfl
theorem ml_RX6_34 : Cond.methodLink RX6 34 yX8_passMonths ∈ GT := gt_in 1035 (by decide +kernel) rfl
theorem ml_RX7_56 : Cond.methodLink RX7 56 yJ7_fill_53178 ∈ GT := gt_in 165 (by decide +kernel) rfl
theorem ml_RX7_74 : Cond.methodLink RX7 74 yX0_copyFrom ∈ GT := gt_in 867 (by decide +kernel) rfl
theorem ml_RX7_78 : Cond.methodLink RX7 78 arraycopyName ∈ GT := gt_in 871 (by decide +kernel) rfl
theorem ml_RX8_40 : Cond.methodLink RX8 40 yX8_hasSign ∈ GT := gt_in 449 (by decide +kernel) rfl
theorem ml_RX8_50 : Cond.methodLink RX8 50 yX4_measured ∈ GT := gt_in 653 (by decide +kernel) rfl
theorem ml_RX8_54 : Cond.methodLink RX8 54 yX8_lettersWrong ∈ GT := gt_in 649 (by decide +kernel) rfl
theorem ml_RX8_68 : Cond.methodLink RX8 68 yX1_spellingOf ∈ GT := gt_in 809 (by decide +kernel) rfl
theorem ml_RX8_72 : Cond.methodLink RX8 72 yX0_spellingOf ∈ GT := gt_in 596 (by decide +kernel) rfl
theorem ml_RX8_76 : Cond.methodLink RX8 76 yX8_reasonAgainstSign ∈ GT := gt_in 609 (by decide +kernel) rfl
theorem ml_RX8_88 : Cond.methodLink RX8 88 yX0_areFull ∈ GT := gt_in 617 (by decide +kernel) rfl
theorem ml_RX8_92 : Cond.methodLink RX8 92 yX8_reasonAgainstDecree ∈ GT := gt_in 621 (by decide +kernel) rfl
theorem ml_RX8_99 : Cond.methodLink RX8 99 yX0_add ∈ GT := gt_in 622 (by decide +kernel) rfl
theorem ml_RX8_103 : Cond.methodLink RX8 103 arraycopyName ∈ GT := gt_in 627 (by decide +kernel) rfl
theorem ml_RX8_109 : Cond.methodLink RX8 109 yX0_has ∈ GT := gt_in 634 (by decide +kernel) rfl
theorem ml_RX8_112 : Cond.methodLink RX8 112 yX0_spellingWithout ∈ GT := gt_in 635 (by decide +kernel) rfl
theorem ml_RX8_115 : Cond.methodLink RX8 115 yX8_reasonAgainstPlan ∈ GT := gt_in 468 (by decide +kernel) rfl
theorem ml_RX8_119 : Cond.methodLink RX8 119 yX0_remove ∈ GT := gt_in 636 (by decide +kernel) rfl
theorem ml_RX8_123 : Cond.methodLink RX8 123 yX9_decreed ∈ GT := gt_in 453 (by decide +kernel) rfl
theorem ml_RX8_132 : Cond.methodLink RX8 132 yX8_costOf ∈ GT := gt_in 645 (by decide +kernel) rfl
theorem ml_RX8_138 : Cond.methodLink RX8 138 yX8_charge ∈ GT := gt_in 665 (by decide +kernel) rfl
theorem ml_RX8_142 : Cond.methodLink RX8 142 yX8_allFines ∈ GT := gt_in 673 (by decide +kernel) rfl
theorem ml_RX8_148 : Cond.methodLink RX8 148 yX8_fineWrongSigns ∈ GT := gt_in 680 (by decide +kernel) rfl
theorem ml_RX8_151 : Cond.methodLink RX8 151 yX8_isWrong ∈ GT := gt_in 684 (by decide +kernel) rfl
theorem ml_RX8_160 : Cond.methodLink RX8 160 yX8_canForgive ∈ GT := gt_in 692 (by decide +kernel) rfl
theorem ml_RX8_163 : Cond.methodLink RX8 163 yX8_wrongSigns ∈ GT := gt_in 696 (by decide +kernel) rfl
theorem ml_RX8_166 : Cond.methodLink RX8 166 yX8_sum ∈ GT := gt_in 677 (by decide +kernel) rfl
theorem ml_RX8_170 : Cond.methodLink RX8 170 yX8_lettersOf ∈ GT := gt_in 712 (by decide +kernel) rfl
theorem ml_RX8_173 : Cond.methodLink RX8 173 yX9_letters ∈ GT := gt_in 716 (by decide +kernel) rfl
theorem ml_RX8_179 : Cond.methodLink RX8 179 yX8_lettersOfRights ∈ GT := gt_in 717 (by decide +kernel) rfl
theorem ml_RX8_182 : Cond.methodLink RX8 182 yX8_costOfAll ∈ GT := gt_in 721 (by decide +kernel) rfl
theorem ml_RX8_185 : Cond.methodLink RX8 185 yX8_signsOfGuild ∈ GT := gt_in 793 (by decide +kernel) rfl
theorem ml_RX9_10 : Cond.methodLink RX9 10 yX9_isLetter ∈ GT := gt_in 854 (by decide +kernel) rfl
theorem ml_RX9_16 : Cond.methodLink RX9 16 yX9_mirrored ∈ GT := gt_in 456 (by decide +kernel) rfl
theorem ml_RX9_20 : Cond.methodLink RX9 20 yX9_dropped ∈ GT := gt_in 459 (by decide +kernel) rfl
theorem ml_RX9_24 : Cond.methodLink RX9 24 yX9_joined ∈ GT := gt_in 462 (by decide +kernel) rfl
theorem ml_RX9_28 : Cond.methodLink RX9 28 yX9_single ∈ GT := gt_in 465 (by decide +kernel) rfl
set_option maxRecDepth 100000 in
theorem mi_Sg_coder : MI yJ0_coder_7d493 cJ0_coder_7d493 1 (some .byte) 0 := ⟨gt_in 359 (by rfl) rfl, gt_in 85 (by decide +kernel) rfl, by decide +kernel, by decide +kernel⟩
theorem mv_Sg_coder : MV yJ0_coder_7d493 := ⟨gt_in 357 (by decide +kernel) rfl, gt_in 358 (by decide +kernel) rfl⟩
set_option maxRecDepth 100000 in
theorem mi_Sg_indexOf : MI yJ0_indexOf_0f7a4 cJ0_indexOf_0f7a4 2 (some .int) 1 := ⟨gt_in 341 (by rfl) rfl, gt_in 85 (by decide +kernel) rfl, by decide +kernel, by decide +kernel⟩
theorem mv_Sg_indexOf : MV yJ0_indexOf_0f7a4 := ⟨gt_in 339 (by decide +kernel) rfl, gt_in 340 (by decide +kernel) rfl⟩
set_option maxRecDepth 100000 in
theorem mi_Sg_indexOf2 : MI yJ0_indexOf_7cf53 cJ0_indexOf_7cf53 3 (some .int) 2 := ⟨gt_in 345 (by rfl) rfl, gt_in 85 (by decide +kernel) rfl, by decide +kernel, by decide +kernel⟩
theorem mv_Sg_indexOf2 : MV yJ0_indexOf_7cf53 := ⟨gt_in 343 (by decide +kernel) rfl, gt_in 344 (by decide +kernel) rfl⟩
set_option maxRecDepth 100000 in
theorem mi_Sg_isLatin1 : MI yJ0_isLatin1_aae02 cJ0_isLatin1_aae02 1 (some .boolean) 0 := ⟨gt_in 349 (by rfl) rfl, gt_in 85 (by decide +kernel) rfl, by decide +kernel, by decide +kernel⟩
theorem mv_Sg_isLatin1 : MV yJ0_isLatin1_aae02 := ⟨gt_in 347 (by decide +kernel) rfl, gt_in 348 (by decide +kernel) rfl⟩
set_option maxRecDepth 100000 in
theorem mi_Sg_length : MI yJ0_length_8abf5 cJ0_length_8abf5 1 (some .int) 0 := ⟨gt_in 355 (by rfl) rfl, gt_in 85 (by decide +kernel) rfl, by decide +kernel, by decide +kernel⟩
theorem mv_Sg_length : MV yJ0_length_8abf5 := ⟨gt_in 353 (by decide +kernel) rfl, gt_in 354 (by decide +kernel) rfl⟩
set_option maxRecDepth 100000 in
theorem mi_Sl_canEncode : MI yJ1_canEncode_9a6ad cJ1_canEncode_9a6ad 1 (some .boolean) 1 := ⟨gt_in 365 (by rfl) rfl, gt_in 86 (by decide +kernel) rfl, by decide +kernel, by decide +kernel⟩
theorem ms_Sl_canEncode : Cond.static yJ1_canEncode_9a6ad ∈ GT := gt_in 364 (by decide +kernel) rfl
set_option maxRecDepth 100000 in
theorem mi_Sl_indexOfChar : MI yJ1_indexOfChar_4cfef cJ1_indexOfChar_4cfef 6 (some .int) 4 := ⟨gt_in 374 (by rfl) rfl, gt_in 86 (by decide +kernel) rfl, by decide +kernel, by decide +kernel⟩
theorem ms_Sl_indexOfChar : Cond.static yJ1_indexOfChar_4cfef ∈ GT := gt_in 373 (by decide +kernel) rfl
set_option maxRecDepth 100000 in
theorem mi_Sl_indexOf : MI yJ1_indexOf_4cfef cJ1_indexOf_4cfef 4 (some .int) 4 := ⟨gt_in 362 (by rfl) rfl, gt_in 86 (by decide +kernel) rfl, by decide +kernel, by decide +kernel⟩
theorem ms_Sl_indexOf : Cond.static yJ1_indexOf_4cfef ∈ GT := gt_in 361 (by decide +kernel) rfl
set_option maxRecDepth 100000 in
theorem mi_Ar_fillI : MI yJ7_fill_53178 cJ7_fill_53178 4 none 2 := ⟨gt_in 167 (by rfl) rfl, gt_in 75 (by decide +kernel) rfl, by decide +kernel, by decide +kernel⟩
theorem ms_Ar_fillI : Cond.static yJ7_fill_53178 ∈ GT := gt_in 166 (by decide +kernel) rfl
set_option maxRecDepth 100000 in
theorem mi_De_add : MI yX0_add cX0_add 7 none 5 := ⟨gt_in 625 (by rfl) rfl, gt_in 74 (by decide +kernel) rfl, by decide +kernel, by decide +kernel⟩
theorem mv_De_add : MV yX0_add := ⟨gt_in 623 (by decide +kernel) rfl, gt_in 624 (by decide +kernel) rfl⟩
set_option maxRecDepth 100000 in
theorem mi_De_areFull : MI yX0_areFull cX0_areFull 1 (some .boolean) 0 := ⟨gt_in 620 (by rfl) rfl, gt_in 74 (by decide +kernel) rfl, by decide +kernel, by decide +kernel⟩
theorem mv_De_areFull : MV yX0_areFull := ⟨gt_in 618 (by decide +kernel) rfl, gt_in 619 (by decide +kernel) rfl⟩
set_option maxRecDepth 100000 in
theorem mi_De_canBe : MI yX0_canBe cX0_canBe 4 (some .boolean) 4 := ⟨gt_in 888 (by rfl) rfl, gt_in 74 (by decide +kernel) rfl, by decide +kernel, by decide +kernel⟩
theorem ms_De_canBe : Cond.static yX0_canBe ∈ GT := gt_in 887 (by decide +kernel) rfl
set_option maxRecDepth 100000 in
theorem mi_De_copyFrom : MI yX0_copyFrom cX0_copyFrom 2 none 1 := ⟨gt_in 870 (by rfl) rfl, gt_in 74 (by decide +kernel) rfl, by decide +kernel, by decide +kernel⟩
theorem mv_De_copyFrom : MV yX0_copyFrom := ⟨gt_in 868 (by decide +kernel) rfl, gt_in 869 (by decide +kernel) rfl⟩
set_option maxRecDepth 100000 in
theorem mi_De_has : MI yX0_has cX0_has 2 (some .boolean) 1 := ⟨gt_in 607 (by rfl) rfl, gt_in 74 (by decide +kernel) rfl, by decide +kernel, by decide +kernel⟩
theorem mv_De_has : MV yX0_has := ⟨gt_in 605 (by decide +kernel) rfl, gt_in 606 (by decide +kernel) rfl⟩
set_option maxRecDepth 100000 in
theorem mi_De_number : MI yX0_number cX0_number 3 (some .int) 2 := ⟨gt_in 776 (by rfl) rfl, gt_in 74 (by decide +kernel) rfl, by decide +kernel, by decide +kernel⟩
theorem mv_De_number : MV yX0_number := ⟨gt_in 774 (by decide +kernel) rfl, gt_in 775 (by decide +kernel) rfl⟩
set_option maxRecDepth 100000 in
theorem mi_De_remove : MI yX0_remove cX0_remove 3 none 1 := ⟨gt_in 639 (by rfl) rfl, gt_in 74 (by decide +kernel) rfl, by decide +kernel, by decide +kernel⟩
theorem mv_De_remove : MV yX0_remove := ⟨gt_in 637 (by decide +kernel) rfl, gt_in 638 (by decide +kernel) rfl⟩
set_option maxRecDepth 100000 in
theorem mi_De_spellingOf : MI yX0_spellingOf cX0_spellingOf 2 (some .int) 1 := ⟨gt_in 599 (by rfl) rfl, gt_in 74 (by decide +kernel) rfl, by decide +kernel, by decide +kernel⟩
theorem mv_De_spellingOf : MV yX0_spellingOf := ⟨gt_in 597 (by decide +kernel) rfl, gt_in 598 (by decide +kernel) rfl⟩
set_option maxRecDepth 100000 in
theorem mi_De_spellingWithout : MI yX0_spellingWithout cX0_spellingWithout 6 (some .int) 2 := ⟨gt_in 603 (by rfl) rfl, gt_in 74 (by decide +kernel) rfl, by decide +kernel, by decide +kernel⟩
theorem mv_De_spellingWithout : MV yX0_spellingWithout := ⟨gt_in 601 (by decide +kernel) rfl, gt_in 602 (by decide +kernel) rfl⟩
set_option maxRecDepth 100000 in
theorem mi_SR_doneInTown : MI yX10_doneInTown cX10_doneInTown 2 (some .boolean) 0 := ⟨gt_in 591 (by rfl) rfl, gt_in 70 (by decide +kernel) rfl, by decide +kernel, by decide +kernel⟩
theorem mv_SR_doneInTown : MV yX10_doneInTown := ⟨gt_in 590 (by decide +kernel) rfl, gt_in 7 (by decide +kernel) rfl⟩
set_option maxRecDepth 100000 in
theorem mi_SR_requireDecree : MI yX10_requireDecree cX10_requireDecree 2 none 1 := ⟨gt_in 769 (by rfl) rfl, gt_in 70 (by decide +kernel) rfl, by decide +kernel, by decide +kernel⟩
theorem mv_SR_requireDecree : MV yX10_requireDecree := ⟨gt_in 768 (by decide +kernel) rfl, gt_in 15 (by decide +kernel) rfl⟩
set_option maxRecDepth 100000 in
theorem mi_SR_requireDecreeArguments : MI yX10_requireDecreeArguments cX10_requireDecreeArguments 4 none 4 := ⟨gt_in 885 (by rfl) rfl, gt_in 70 (by decide +kernel) rfl, by decide +kernel, by decide +kernel⟩
theorem ms_SR_requireDecreeArguments : Cond.static yX10_requireDecreeArguments ∈ GT := gt_in 884 (by decide +kernel) rfl
set_option maxRecDepth 100000 in
theorem mi_SR_requireGuild : MI yX10_requireGuild cX10_requireGuild 1 none 1 := ⟨gt_in 786 (by rfl) rfl, gt_in 70 (by decide +kernel) rfl, by decide +kernel, by decide +kernel⟩
theorem ms_SR_requireGuild : Cond.static yX10_requireGuild ∈ GT := gt_in 785 (by decide +kernel) rfl
set_option maxRecDepth 100000 in
theorem mi_SR_requireSetting : MI yX10_requireSetting cX10_requireSetting 1 none 1 := ⟨gt_in 841 (by rfl) rfl, gt_in 70 (by decide +kernel) rfl, by decide +kernel, by decide +kernel⟩
theorem ms_SR_requireSetting : Cond.static yX10_requireSetting ∈ GT := gt_in 840 (by decide +kernel) rfl
set_option maxRecDepth 100000 in
theorem mi_SR_requireSign : MI yX10_requireSign cX10_requireSign 2 none 1 := ⟨gt_in 736 (by rfl) rfl, gt_in 70 (by decide +kernel) rfl, by decide +kernel, by decide +kernel⟩
theorem mv_SR_requireSign : MV yX10_requireSign := ⟨gt_in 735 (by decide +kernel) rfl, gt_in 14 (by decide +kernel) rfl⟩
set_option maxRecDepth 100000 in
theorem mi_SR_requireSlot : MI yX10_requireSlot cX10_requireSlot 1 none 1 := ⟨gt_in 1047 (by rfl) rfl, gt_in 70 (by decide +kernel) rfl, by decide +kernel, by decide +kernel⟩
theorem ms_SR_requireSlot : Cond.static yX10_requireSlot ∈ GT := gt_in 1046 (by decide +kernel) rfl
set_option maxRecDepth 100000 in
theorem mi_Mo_acts : MI yX11_acts cX11_acts 6 (some .int) 4 := ⟨gt_in 1358 (by rfl) rfl, gt_in 79 (by decide +kernel) rfl, by decide +kernel, by decide +kernel⟩
theorem mv_Mo_acts : MV yX11_acts := ⟨gt_in 1357 (by decide +kernel) rfl, gt_in 57 (by decide +kernel) rfl⟩
set_option maxRecDepth 100000 in
theorem mi_Mo_apartBy : MI yX11_apartBy cX11_apartBy 2 (some .int) 1 := ⟨gt_in 1275 (by rfl) rfl, gt_in 79 (by decide +kernel) rfl, by decide +kernel, by decide +kernel⟩
theorem mv_Mo_apartBy : MV yX11_apartBy := ⟨gt_in 1274 (by decide +kernel) rfl, gt_in 45 (by decide +kernel) rfl⟩
set_option maxRecDepth 100000 in
theorem mi_Mo_apartOf : MI yX11_apartOf cX11_apartOf 9 (some .int) 2 := ⟨gt_in 1279 (by rfl) rfl, gt_in 79 (by decide +kernel) rfl, by decide +kernel, by decide +kernel⟩
theorem mv_Mo_apartOf : MV yX11_apartOf := ⟨gt_in 1278 (by decide +kernel) rfl, gt_in 46 (by decide +kernel) rfl⟩
set_option maxRecDepth 100000 in
theorem mi_Mo_areArguments : MI yX11_areArguments cX11_areArguments 5 (some .boolean) 4 := ⟨gt_in 1235 (by rfl) rfl, gt_in 79 (by decide +kernel) rfl, by decide +kernel, by decide +kernel⟩
theorem ms_Mo_areArguments : Cond.static yX11_areArguments ∈ GT := gt_in 1234 (by decide +kernel) rfl
set_option maxRecDepth 100000 in
theorem mi_Mo_begins : MI yX11_begins cX11_begins 2 none 0 := ⟨gt_in 1079 (by rfl) rfl, gt_in 79 (by decide +kernel) rfl, by decide +kernel, by decide +kernel⟩
theorem mv_Mo_begins : MV yX11_begins := ⟨gt_in 1078 (by decide +kernel) rfl, gt_in 20 (by decide +kernel) rfl⟩
set_option maxRecDepth 100000 in
theorem mi_Mo_comes : MI yX11_comes cX11_comes 5 (some .int) 2 := ⟨gt_in 1200 (by rfl) rfl, gt_in 79 (by decide +kernel) rfl, by decide +kernel, by decide +kernel⟩
theorem mv_Mo_comes : MV yX11_comes := ⟨gt_in 1199 (by decide +kernel) rfl, gt_in 30 (by decide +kernel) rfl⟩
set_option maxRecDepth 100000 in
theorem mi_Mo_costOf : MI yX11_costOf cX11_costOf 2 (some .int) 1 := ⟨gt_in 1271 (by rfl) rfl, gt_in 79 (by decide +kernel) rfl, by decide +kernel, by decide +kernel⟩
theorem mv_Mo_costOf : MV yX11_costOf := ⟨gt_in 1270 (by decide +kernel) rfl, gt_in 44 (by decide +kernel) rfl⟩
set_option maxRecDepth 100000 in
theorem mi_Mo_does : MI yX11_does cX11_does 1 (some .int) 0 := ⟨gt_in 1185 (by rfl) rfl, gt_in 79 (by decide +kernel) rfl, by decide +kernel, by decide +kernel⟩
theorem mv_Mo_does : MV yX11_does := ⟨gt_in 1184 (by decide +kernel) rfl, gt_in 28 (by decide +kernel) rfl⟩
set_option maxRecDepth 100000 in
theorem mi_Mo_errorOfAmnesty : MI yX11_errorOfAmnesty cX11_errorOfAmnesty 3 (some .int) 1 := ⟨gt_in 1294 (by rfl) rfl, gt_in 79 (by decide +kernel) rfl, by decide +kernel, by decide +kernel⟩
theorem mv_Mo_errorOfAmnesty : MV yX11_errorOfAmnesty := ⟨gt_in 1293 (by decide +kernel) rfl, gt_in 49 (by decide +kernel) rfl⟩
set_option maxRecDepth 100000 in
theorem mi_Mo_errorOfDecree : MI yX11_errorOfDecree cX11_errorOfDecree 5 (some .int) 4 := ⟨gt_in 1232 (by rfl) rfl, gt_in 79 (by decide +kernel) rfl, by decide +kernel, by decide +kernel⟩
theorem mv_Mo_errorOfDecree : MV yX11_errorOfDecree := ⟨gt_in 1231 (by decide +kernel) rfl, gt_in 35 (by decide +kernel) rfl⟩
set_option maxRecDepth 100000 in
theorem mi_Mo_errorOfSign : MI yX11_errorOfSign cX11_errorOfSign 3 (some .int) 2 := ⟨gt_in 1189 (by rfl) rfl, gt_in 79 (by decide +kernel) rfl, by decide +kernel, by decide +kernel⟩
theorem mv_Mo_errorOfSign : MV yX11_errorOfSign := ⟨gt_in 1188 (by decide +kernel) rfl, gt_in 29 (by decide +kernel) rfl⟩
set_option maxRecDepth 100000 in
theorem mi_Mo_gives : MI yX11_gives cX11_gives 6 (some .int) 4 := ⟨gt_in 1239 (by rfl) rfl, gt_in 79 (by decide +kernel) rfl, by decide +kernel, by decide +kernel⟩
theorem mv_Mo_gives : MV yX11_gives := ⟨gt_in 1238 (by decide +kernel) rfl, gt_in 36 (by decide +kernel) rfl⟩
set_option maxRecDepth 100000 in
theorem mi_Mo_goesOn : MI yX11_goesOn cX11_goesOn 6 (some .int) 1 := ⟨gt_in 1286 (by rfl) rfl, gt_in 79 (by decide +kernel) rfl, by decide +kernel, by decide +kernel⟩
theorem mv_Mo_goesOn : MV yX11_goesOn := ⟨gt_in 1285 (by decide +kernel) rfl, gt_in 47 (by decide +kernel) rfl⟩
set_option maxRecDepth 100000 in
theorem mi_Mo_goesThrough : MI yX11_goesThrough cX11_goesThrough 5 (some .int) 1 := ⟨gt_in 1161 (by rfl) rfl, gt_in 79 (by decide +kernel) rfl, by decide +kernel, by decide +kernel⟩
theorem mv_Mo_goesThrough : MV yX11_goesThrough := ⟨gt_in 1160 (by decide +kernel) rfl, gt_in 22 (by decide +kernel) rfl⟩
set_option maxRecDepth 100000 in
theorem mi_Mo_hasReasons : MI yX11_hasReasons cX11_hasReasons 1 (some .boolean) 0 := ⟨gt_in 1306 (by rfl) rfl, gt_in 79 (by decide +kernel) rfl, by decide +kernel, by decide +kernel⟩
theorem mv_Mo_hasReasons : MV yX11_hasReasons := ⟨gt_in 1305 (by decide +kernel) rfl, gt_in 52 (by decide +kernel) rfl⟩
set_option maxRecDepth 100000 in
theorem mi_Mo_hindrance : MI yX11_hindrance cX11_hindrance 6 (some .int) 0 := ⟨gt_in 1224 (by rfl) rfl, gt_in 79 (by decide +kernel) rfl, by decide +kernel, by decide +kernel⟩
theorem mv_Mo_hindrance : MV yX11_hindrance := ⟨gt_in 1223 (by decide +kernel) rfl, gt_in 33 (by decide +kernel) rfl⟩
set_option maxRecDepth 100000 in
theorem mi_Mo_holds : MI yX11_holds cX11_holds 2 (some .boolean) 1 := ⟨gt_in 1149 (by rfl) rfl, gt_in 79 (by decide +kernel) rfl, by decide +kernel, by decide +kernel⟩
theorem mv_Mo_holds : MV yX11_holds := ⟨gt_in 1148 (by decide +kernel) rfl, gt_in 21 (by decide +kernel) rfl⟩
set_option maxRecDepth 100000 in
theorem mi_Mo_in : MI yX11_in cX11_in 3 (some .boolean) 3 := ⟨gt_in 1145 (by rfl) rfl, gt_in 79 (by decide +kernel) rfl, by decide +kernel, by decide +kernel⟩
theorem ms_Mo_in : Cond.static yX11_in ∈ GT := gt_in 1144 (by decide +kernel) rfl
set_option maxRecDepth 100000 in
theorem mi_Mo_isDecree : MI yX11_isDecree cX11_isDecree 2 (some .boolean) 1 := ⟨gt_in 1247 (by rfl) rfl, gt_in 79 (by decide +kernel) rfl, by decide +kernel, by decide +kernel⟩
theorem mv_Mo_isDecree : MV yX11_isDecree := ⟨gt_in 1246 (by decide +kernel) rfl, gt_in 38 (by decide +kernel) rfl⟩
set_option maxRecDepth 100000 in
theorem mi_Mo_isLetter : MI yX11_isLetter cX11_isLetter 1 (some .boolean) 1 := ⟨gt_in 1196 (by rfl) rfl, gt_in 79 (by decide +kernel) rfl, by decide +kernel, by decide +kernel⟩
theorem ms_Mo_isLetter : Cond.static yX11_isLetter ∈ GT := gt_in 1195 (by decide +kernel) rfl
set_option maxRecDepth 100000 in
theorem mi_Mo_isNext : MI yX11_isNext cX11_isNext 3 (some .boolean) 2 := ⟨gt_in 1169 (by rfl) rfl, gt_in 79 (by decide +kernel) rfl, by decide +kernel, by decide +kernel⟩
theorem mv_Mo_isNext : MV yX11_isNext := ⟨gt_in 1168 (by decide +kernel) rfl, gt_in 24 (by decide +kernel) rfl⟩
set_option maxRecDepth 100000 in
theorem mi_Mo_isSign : MI yX11_isSign cX11_isSign 2 (some .boolean) 1 := ⟨gt_in 1263 (by rfl) rfl, gt_in 79 (by decide +kernel) rfl, by decide +kernel, by decide +kernel⟩
theorem mv_Mo_isSign : MV yX11_isSign := ⟨gt_in 1262 (by decide +kernel) rfl, gt_in 42 (by decide +kernel) rfl⟩
set_option maxRecDepth 100000 in
theorem mi_Mo_isWord : MI yX11_isWord cX11_isWord 3 (some .boolean) 1 := ⟨gt_in 1192 (by rfl) rfl, gt_in 79 (by decide +kernel) rfl, by decide +kernel, by decide +kernel⟩
theorem ms_Mo_isWord : Cond.static yX11_isWord ∈ GT := gt_in 1191 (by decide +kernel) rfl
set_option maxRecDepth 100000 in
theorem mi_Mo_isWrong : MI yX11_isWrong cX11_isWrong 2 (some .boolean) 1 := ⟨gt_in 1290 (by rfl) rfl, gt_in 79 (by decide +kernel) rfl, by decide +kernel, by decide +kernel⟩
theorem mv_Mo_isWrong : MV yX11_isWrong := ⟨gt_in 1289 (by decide +kernel) rfl, gt_in 48 (by decide +kernel) rfl⟩
set_option maxRecDepth 100000 in
theorem mi_Mo_keepsDecrees : MI yX11_keepsDecrees cX11_keepsDecrees 2 none 0 := ⟨gt_in 1255 (by rfl) rfl, gt_in 79 (by decide +kernel) rfl, by decide +kernel, by decide +kernel⟩
theorem mv_Mo_keepsDecrees : MV yX11_keepsDecrees := ⟨gt_in 1254 (by decide +kernel) rfl, gt_in 40 (by decide +kernel) rfl⟩
set_option maxRecDepth 100000 in
theorem mi_Mo_lesser : MI yX11_lesser cX11_lesser 2 (some .int) 2 := ⟨gt_in 1282 (by rfl) rfl, gt_in 79 (by decide +kernel) rfl, by decide +kernel, by decide +kernel⟩
theorem ms_Mo_lesser : Cond.static yX11_lesser ∈ GT := gt_in 1281 (by decide +kernel) rfl
set_option maxRecDepth 100000 in
theorem mi_Mo_letterAt : MI yX11_letterAt cX11_letterAt 4 (some .int) 2 := ⟨gt_in 1220 (by rfl) rfl, gt_in 79 (by decide +kernel) rfl, by decide +kernel, by decide +kernel⟩
theorem ms_Mo_letterAt : Cond.static yX11_letterAt ∈ GT := gt_in 1219 (by decide +kernel) rfl
set_option maxRecDepth 100000 in
theorem mi_Mo_lettersOf : MI yX11_lettersOf cX11_lettersOf 3 (some .int) 1 := ⟨gt_in 1217 (by rfl) rfl, gt_in 79 (by decide +kernel) rfl, by decide +kernel, by decide +kernel⟩
theorem ms_Mo_lettersOf : Cond.static yX11_lettersOf ∈ GT := gt_in 1216 (by decide +kernel) rfl
set_option maxRecDepth 100000 in
theorem mi_Mo_made : MI yX11_made cX11_made 14 (some .int) 2 := ⟨gt_in 1211 (by rfl) rfl, gt_in 79 (by decide +kernel) rfl, by decide +kernel, by decide +kernel⟩
theorem mv_Mo_made : MV yX11_made := ⟨gt_in 1210 (by decide +kernel) rfl, gt_in 32 (by decide +kernel) rfl⟩
set_option maxRecDepth 100000 in
theorem mi_Mo_of : MI yX11_of cX11_of 2 (some .int) 2 := ⟨gt_in 1203 (by rfl) rfl, gt_in 79 (by decide +kernel) rfl, by decide +kernel, by decide +kernel⟩
theorem ms_Mo_of : Cond.static yX11_of ∈ GT := gt_in 1202 (by decide +kernel) rfl
set_option maxRecDepth 100000 in
theorem mi_Mo_ofDecree : MI yX11_ofDecree cX11_ofDecree 2 (some .int) 2 := ⟨gt_in 1214 (by rfl) rfl, gt_in 79 (by decide +kernel) rfl, by decide +kernel, by decide +kernel⟩
theorem ms_Mo_ofDecree : Cond.static yX11_ofDecree ∈ GT := gt_in 1213 (by decide +kernel) rfl
set_option maxRecDepth 100000 in
theorem mi_Mo_ofGuild : MI yX11_ofGuild cX11_ofGuild 5 (some .int) 2 := ⟨gt_in 1342 (by rfl) rfl, gt_in 79 (by decide +kernel) rfl, by decide +kernel, by decide +kernel⟩
theorem mv_Mo_ofGuild : MV yX11_ofGuild := ⟨gt_in 1341 (by decide +kernel) rfl, gt_in 56 (by decide +kernel) rfl⟩
set_option maxRecDepth 100000 in
theorem mi_Mo_ofSign : MI yX11_ofSign cX11_ofSign 3 (some .int) 2 := ⟨gt_in 1330 (by rfl) rfl, gt_in 79 (by decide +kernel) rfl, by decide +kernel, by decide +kernel⟩
theorem mv_Mo_ofSign : MV yX11_ofSign := ⟨gt_in 1329 (by decide +kernel) rfl, gt_in 55 (by decide +kernel) rfl⟩
set_option maxRecDepth 100000 in
theorem mi_Mo_paidBy : MI yX11_paidBy cX11_paidBy 9 (some .int) 1 := ⟨gt_in 1418 (by rfl) rfl, gt_in 79 (by decide +kernel) rfl, by decide +kernel, by decide +kernel⟩
theorem mv_Mo_paidBy : MV yX11_paidBy := ⟨gt_in 1417 (by decide +kernel) rfl, gt_in 61 (by decide +kernel) rfl⟩
set_option maxRecDepth 100000 in
theorem mi_Mo_paints : MI yX11_paints cX11_paints 3 (some .int) 1 := ⟨gt_in 1267 (by rfl) rfl, gt_in 79 (by decide +kernel) rfl, by decide +kernel, by decide +kernel⟩
theorem mv_Mo_paints : MV yX11_paints := ⟨gt_in 1266 (by decide +kernel) rfl, gt_in 43 (by decide +kernel) rfl⟩
set_option maxRecDepth 100000 in
theorem mi_Mo_putAside : MI yX11_putAside cX11_putAside 2 none 0 := ⟨gt_in 1442 (by rfl) rfl, gt_in 79 (by decide +kernel) rfl, by decide +kernel, by decide +kernel⟩
theorem mv_Mo_putAside : MV yX11_putAside := ⟨gt_in 1441 (by decide +kernel) rfl, gt_in 64 (by decide +kernel) rfl⟩
set_option maxRecDepth 100000 in
theorem mi_Mo_putBack : MI yX11_putBack cX11_putBack 2 none 0 := ⟨gt_in 1450 (by rfl) rfl, gt_in 79 (by decide +kernel) rfl, by decide +kernel, by decide +kernel⟩
theorem mv_Mo_putBack : MV yX11_putBack := ⟨gt_in 1449 (by decide +kernel) rfl, gt_in 66 (by decide +kernel) rfl⟩
set_option maxRecDepth 100000 in
theorem mi_Mo_putsDecree : MI yX11_putsDecree cX11_putsDecree 6 none 4 := ⟨gt_in 1243 (by rfl) rfl, gt_in 79 (by decide +kernel) rfl, by decide +kernel, by decide +kernel⟩
theorem mv_Mo_putsDecree : MV yX11_putsDecree := ⟨gt_in 1242 (by decide +kernel) rfl, gt_in 37 (by decide +kernel) rfl⟩
set_option maxRecDepth 100000 in
theorem mi_Mo_readCommand : MI yX11_readCommand cX11_readCommand 1 none 0 := ⟨gt_in 1173 (by rfl) rfl, gt_in 79 (by decide +kernel) rfl, by decide +kernel, by decide +kernel⟩
theorem mv_Mo_readCommand : MV yX11_readCommand := ⟨gt_in 1172 (by decide +kernel) rfl, gt_in 25 (by decide +kernel) rfl⟩
set_option maxRecDepth 100000 in
theorem mi_Mo_readMonths : MI yX11_readMonths cX11_readMonths 2 (some .int) 0 := ⟨gt_in 1181 (by rfl) rfl, gt_in 79 (by decide +kernel) rfl, by decide +kernel, by decide +kernel⟩
theorem mv_Mo_readMonths : MV yX11_readMonths := ⟨gt_in 1180 (by decide +kernel) rfl, gt_in 27 (by decide +kernel) rfl⟩
set_option maxRecDepth 100000 in
theorem mi_Mo_readWord : MI yX11_readWord cX11_readWord 3 (some .int) 0 := ⟨gt_in 1177 (by rfl) rfl, gt_in 79 (by decide +kernel) rfl, by decide +kernel, by decide +kernel⟩
theorem mv_Mo_readWord : MV yX11_readWord := ⟨gt_in 1176 (by decide +kernel) rfl, gt_in 26 (by decide +kernel) rfl⟩
set_option maxRecDepth 100000 in
theorem mi_Mo_remember : MI yX11_remember cX11_remember 2 none 0 := ⟨gt_in 1362 (by rfl) rfl, gt_in 79 (by decide +kernel) rfl, by decide +kernel, by decide +kernel⟩
theorem mv_Mo_remember : MV yX11_remember := ⟨gt_in 1361 (by decide +kernel) rfl, gt_in 58 (by decide +kernel) rfl⟩
set_option maxRecDepth 100000 in
theorem mi_Mo_restoresDecrees : MI yX11_restoresDecrees cX11_restoresDecrees 2 none 0 := ⟨gt_in 1259 (by rfl) rfl, gt_in 79 (by decide +kernel) rfl, by decide +kernel, by decide +kernel⟩
theorem mv_Mo_restoresDecrees : MV yX11_restoresDecrees := ⟨gt_in 1258 (by decide +kernel) rfl, gt_in 41 (by decide +kernel) rfl⟩
set_option maxRecDepth 100000 in
theorem mi_Mo_revokes : MI yX11_revokes cX11_revokes 3 (some .int) 1 := ⟨gt_in 1251 (by rfl) rfl, gt_in 79 (by decide +kernel) rfl, by decide +kernel, by decide +kernel⟩
theorem mv_Mo_revokes : MV yX11_revokes := ⟨gt_in 1250 (by decide +kernel) rfl, gt_in 39 (by decide +kernel) rfl⟩
set_option maxRecDepth 100000 in
theorem mi_Mo_rightOf : MI yX11_rightOf cX11_rightOf 2 (some .int) 1 := ⟨gt_in 1228 (by rfl) rfl, gt_in 79 (by decide +kernel) rfl, by decide +kernel, by decide +kernel⟩
theorem mv_Mo_rightOf : MV yX11_rightOf := ⟨gt_in 1227 (by decide +kernel) rfl, gt_in 34 (by decide +kernel) rfl⟩
set_option maxRecDepth 100000 in
theorem mi_Mo_runs : MI yX11_runs cX11_runs 9 (some .int) 2 := ⟨gt_in 1438 (by rfl) rfl, gt_in 79 (by decide +kernel) rfl, by decide +kernel, by decide +kernel⟩
theorem mv_Mo_runs : MV yX11_runs := ⟨gt_in 1437 (by decide +kernel) rfl, gt_in 63 (by decide +kernel) rfl⟩
set_option maxRecDepth 100000 in
theorem mi_Mo_simulates : MI yX11_simulates cX11_simulates 8 (some .int) 2 := ⟨gt_in 1458 (by rfl) rfl, gt_in 79 (by decide +kernel) rfl, by decide +kernel, by decide +kernel⟩
theorem mv_Mo_simulates : MV yX11_simulates := ⟨gt_in 1457 (by decide +kernel) rfl, gt_in 67 (by decide +kernel) rfl⟩
set_option maxRecDepth 100000 in
theorem mi_Mo_spares : MI yX11_spares cX11_spares 2 (some .int) 1 := ⟨gt_in 1298 (by rfl) rfl, gt_in 79 (by decide +kernel) rfl, by decide +kernel, by decide +kernel⟩
theorem mv_Mo_spares : MV yX11_spares := ⟨gt_in 1297 (by decide +kernel) rfl, gt_in 50 (by decide +kernel) rfl⟩
set_option maxRecDepth 100000 in
theorem mi_Mo_spelled : MI yX11_spelled cX11_spelled 4 (some .int) 1 := ⟨gt_in 1207 (by rfl) rfl, gt_in 79 (by decide +kernel) rfl, by decide +kernel, by decide +kernel⟩
theorem mv_Mo_spelled : MV yX11_spelled := ⟨gt_in 1206 (by decide +kernel) rfl, gt_in 31 (by decide +kernel) rfl⟩
set_option maxRecDepth 100000 in
theorem mi_Mo_succeeds : MI yX11_succeeds cX11_succeeds 5 (some .boolean) 1 := ⟨gt_in 1446 (by rfl) rfl, gt_in 79 (by decide +kernel) rfl, by decide +kernel, by decide +kernel⟩
theorem mv_Mo_succeeds : MV yX11_succeeds := ⟨gt_in 1445 (by decide +kernel) rfl, gt_in 65 (by decide +kernel) rfl⟩
set_option maxRecDepth 100000 in
theorem mi_Mo_sumOf : MI yX11_sumOf cX11_sumOf 4 (some .int) 1 := ⟨gt_in 1322 (by rfl) rfl, gt_in 79 (by decide +kernel) rfl, by decide +kernel, by decide +kernel⟩
theorem mv_Mo_sumOf : MV yX11_sumOf := ⟨gt_in 1321 (by decide +kernel) rfl, gt_in 54 (by decide +kernel) rfl⟩
set_option maxRecDepth 100000 in
theorem mi_Mo_takes : MI yX11_takes cX11_takes 5 (some .int) 2 := ⟨gt_in 1165 (by rfl) rfl, gt_in 79 (by decide +kernel) rfl, by decide +kernel, by decide +kernel⟩
theorem mv_Mo_takes : MV yX11_takes := ⟨gt_in 1164 (by decide +kernel) rfl, gt_in 23 (by decide +kernel) rfl⟩
set_option maxRecDepth 100000 in
theorem mi_Mo_told : MI yX11_told cX11_told 2 (some .int) 1 := ⟨gt_in 1318 (by rfl) rfl, gt_in 79 (by decide +kernel) rfl, by decide +kernel, by decide +kernel⟩
theorem mv_Mo_told : MV yX11_told := ⟨gt_in 1317 (by decide +kernel) rfl, gt_in 53 (by decide +kernel) rfl⟩
set_option maxRecDepth 100000 in
theorem mi_Mo_turns : MI yX11_turns cX11_turns 3 (some .int) 1 := ⟨gt_in 1464 (by rfl) rfl, gt_in 79 (by decide +kernel) rfl, by decide +kernel, by decide +kernel⟩
theorem mv_Mo_turns : MV yX11_turns := ⟨gt_in 1463 (by decide +kernel) rfl, gt_in 68 (by decide +kernel) rfl⟩
set_option maxRecDepth 100000 in
theorem mi_Mo_wordBy : MI yX11_wordBy cX11_wordBy 5 (some .int) 1 := ⟨gt_in 1467 (by rfl) rfl, gt_in 79 (by decide +kernel) rfl, by decide +kernel, by decide +kernel⟩
theorem ms_Mo_wordBy : Cond.static yX11_wordBy ∈ GT := gt_in 1466 (by decide +kernel) rfl
set_option maxRecDepth 100000 in
theorem mi_Mo_worthBehind : MI yX11_worthBehind cX11_worthBehind 5 (some .int) 1 := ⟨gt_in 1426 (by rfl) rfl, gt_in 79 (by decide +kernel) rfl, by decide +kernel, by decide +kernel⟩
theorem mv_Mo_worthBehind : MV yX11_worthBehind := ⟨gt_in 1425 (by decide +kernel) rfl, gt_in 62 (by decide +kernel) rfl⟩
set_option maxRecDepth 100000 in
theorem mi_Mo_wouldHinder : MI yX11_wouldHinder cX11_wouldHinder 6 (some .int) 4 := ⟨gt_in 1398 (by rfl) rfl, gt_in 79 (by decide +kernel) rfl, by decide +kernel, by decide +kernel⟩
theorem mv_Mo_wouldHinder : MV yX11_wouldHinder := ⟨gt_in 1397 (by decide +kernel) rfl, gt_in 59 (by decide +kernel) rfl⟩
set_option maxRecDepth 100000 in
theorem mi_Mo_wouldHinderMore : MI yX11_wouldHinderMore cX11_wouldHinderMore 7 (some .int) 4 := ⟨gt_in 1402 (by rfl) rfl, gt_in 79 (by decide +kernel) rfl, by decide +kernel, by decide +kernel⟩
theorem mv_Mo_wouldHinderMore : MV yX11_wouldHinderMore := ⟨gt_in 1401 (by decide +kernel) rfl, gt_in 60 (by decide +kernel) rfl⟩
set_option maxRecDepth 100000 in
theorem mi_Mo_wrongs : MI yX11_wrongs cX11_wrongs 3 (some .int) 0 := ⟨gt_in 1302 (by rfl) rfl, gt_in 79 (by decide +kernel) rfl, by decide +kernel, by decide +kernel⟩
theorem mv_Mo_wrongs : MV yX11_wrongs := ⟨gt_in 1301 (by decide +kernel) rfl, gt_in 51 (by decide +kernel) rfl⟩
set_option maxRecDepth 100000 in
theorem mi_Fl_joinedTo : MI yX1_joinedTo cX1_joinedTo 5 (some .int) 2 := ⟨gt_in 831 (by rfl) rfl, gt_in 77 (by decide +kernel) rfl, by decide +kernel, by decide +kernel⟩
theorem ms_Fl_joinedTo : Cond.static yX1_joinedTo ∈ GT := gt_in 830 (by decide +kernel) rfl
set_option maxRecDepth 100000 in
theorem mi_Fl_let : MI yX1_let cX1_let 7 (some .int) 3 := ⟨gt_in 827 (by rfl) rfl, gt_in 77 (by decide +kernel) rfl, by decide +kernel, by decide +kernel⟩
theorem mv_Fl_let : MV yX1_let := ⟨gt_in 826 (by decide +kernel) rfl, gt_in 19 (by decide +kernel) rfl⟩
set_option maxRecDepth 100000 in
theorem mi_Fl_pastDecree : MI yX1_pastDecree cX1_pastDecree 7 (some .int) 3 := ⟨gt_in 823 (by rfl) rfl, gt_in 77 (by decide +kernel) rfl, by decide +kernel, by decide +kernel⟩
theorem mv_Fl_pastDecree : MV yX1_pastDecree := ⟨gt_in 822 (by decide +kernel) rfl, gt_in 18 (by decide +kernel) rfl⟩
set_option maxRecDepth 100000 in
theorem mi_Fl_spellingOf : MI yX1_spellingOf cX1_spellingOf 6 (some .int) 2 := ⟨gt_in 812 (by rfl) rfl, gt_in 77 (by decide +kernel) rfl, by decide +kernel, by decide +kernel⟩
theorem mv_Fl_spellingOf : MV yX1_spellingOf := ⟨gt_in 810 (by decide +kernel) rfl, gt_in 811 (by decide +kernel) rfl⟩
set_option maxRecDepth 100000 in
theorem mi_Fl_through : MI yX1_through cX1_through 6 (some .int) 3 := ⟨gt_in 818 (by rfl) rfl, gt_in 77 (by decide +kernel) rfl, by decide +kernel, by decide +kernel⟩
theorem mv_Fl_through : MV yX1_through := ⟨gt_in 817 (by decide +kernel) rfl, gt_in 17 (by decide +kernel) rfl⟩
set_option maxRecDepth 100000 in
theorem mi_Me_copySlot : MI yX2_copySlot cX2_copySlot 4 none 2 := ⟨gt_in 1068 (by rfl) rfl, gt_in 78 (by decide +kernel) rfl, by decide +kernel, by decide +kernel⟩
theorem mv_Me_copySlot : MV yX2_copySlot := ⟨gt_in 1066 (by decide +kernel) rfl, gt_in 1067 (by decide +kernel) rfl⟩
set_option maxRecDepth 100000 in
theorem mi_Me_emptySlots : MI yX2_emptySlots cX2_emptySlots 2 none 0 := ⟨gt_in 584 (by rfl) rfl, gt_in 78 (by decide +kernel) rfl, by decide +kernel, by decide +kernel⟩
theorem mv_Me_emptySlots : MV yX2_emptySlots := ⟨gt_in 582 (by decide +kernel) rfl, gt_in 583 (by decide +kernel) rfl⟩
set_option maxRecDepth 100000 in
theorem mi_Me_fillSlot : MI yX2_fillSlot cX2_fillSlot 4 none 2 := ⟨gt_in 1052 (by rfl) rfl, gt_in 78 (by decide +kernel) rfl, by decide +kernel, by decide +kernel⟩
theorem mv_Me_fillSlot : MV yX2_fillSlot := ⟨gt_in 1050 (by decide +kernel) rfl, gt_in 1051 (by decide +kernel) rfl⟩
set_option maxRecDepth 100000 in
theorem mi_Me_forgetStates : MI yX2_forgetStates cX2_forgetStates 1 none 0 := ⟨gt_in 580 (by rfl) rfl, gt_in 78 (by decide +kernel) rfl, by decide +kernel, by decide +kernel⟩
theorem mv_Me_forgetStates : MV yX2_forgetStates := ⟨gt_in 578 (by decide +kernel) rfl, gt_in 579 (by decide +kernel) rfl⟩
set_option maxRecDepth 100000 in
theorem mi_Me_isFilled : MI yX2_isFilled cX2_isFilled 2 (some .boolean) 1 := ⟨gt_in 1063 (by rfl) rfl, gt_in 78 (by decide +kernel) rfl, by decide +kernel, by decide +kernel⟩
theorem mv_Me_isFilled : MV yX2_isFilled := ⟨gt_in 1061 (by decide +kernel) rfl, gt_in 1062 (by decide +kernel) rfl⟩
set_option maxRecDepth 100000 in
theorem mi_Me_remember : MI yX2_remember cX2_remember 3 none 1 := ⟨gt_in 862 (by rfl) rfl, gt_in 78 (by decide +kernel) rfl, by decide +kernel, by decide +kernel⟩
theorem mv_Me_remember : MV yX2_remember := ⟨gt_in 860 (by decide +kernel) rfl, gt_in 861 (by decide +kernel) rfl⟩
set_option maxRecDepth 100000 in
theorem mi_Me_takeBack : MI yX2_takeBack cX2_takeBack 3 none 1 := ⟨gt_in 942 (by rfl) rfl, gt_in 78 (by decide +kernel) rfl, by decide +kernel, by decide +kernel⟩
theorem mv_Me_takeBack : MV yX2_takeBack := ⟨gt_in 940 (by decide +kernel) rfl, gt_in 941 (by decide +kernel) rfl⟩
set_option maxRecDepth 100000 in
theorem mi_Tx_firstError : MI yX3_firstError cX3_firstError 2 (some .int) 0 := ⟨gt_in 320 (by rfl) rfl, gt_in 71 (by decide +kernel) rfl, by decide +kernel, by decide +kernel⟩
theorem mv_Tx_firstError : MV yX3_firstError := ⟨gt_in 318 (by decide +kernel) rfl, gt_in 319 (by decide +kernel) rfl⟩
set_option maxRecDepth 100000 in
theorem mi_Tx_hasMore : MI yX3_hasMore cX3_hasMore 1 (some .boolean) 0 := ⟨gt_in 332 (by rfl) rfl, gt_in 71 (by decide +kernel) rfl, by decide +kernel, by decide +kernel⟩
theorem mv_Tx_hasMore : MV yX3_hasMore := ⟨gt_in 330 (by decide +kernel) rfl, gt_in 331 (by decide +kernel) rfl⟩
set_option maxRecDepth 100000 in
theorem mi_Tx_put : MI yX3_put cX3_put 2 none 1 := ⟨gt_in 567 (by rfl) rfl, gt_in 71 (by decide +kernel) rfl, by decide +kernel, by decide +kernel⟩
theorem mv_Tx_put : MV yX3_put := ⟨gt_in 565 (by decide +kernel) rfl, gt_in 566 (by decide +kernel) rfl⟩
set_option maxRecDepth 100000 in
theorem mi_Tx_readCommand : MI yX3_readCommand cX3_readCommand 1 (some .boolean) 0 := ⟨gt_in 336 (by rfl) rfl, gt_in 71 (by decide +kernel) rfl, by decide +kernel, by decide +kernel⟩
theorem mv_Tx_readCommand : MV yX3_readCommand := ⟨gt_in 334 (by decide +kernel) rfl, gt_in 335 (by decide +kernel) rfl⟩
set_option maxRecDepth 100000 in
theorem mi_Tx_readDigit : MI yX3_readDigit cX3_readDigit 4 (some .boolean) 2 := ⟨gt_in 427 (by rfl) rfl, gt_in 71 (by decide +kernel) rfl, by decide +kernel, by decide +kernel⟩
theorem mv_Tx_readDigit : MV yX3_readDigit := ⟨gt_in 426 (by decide +kernel) rfl, gt_in 1 (by decide +kernel) rfl⟩
set_option maxRecDepth 100000 in
theorem mi_Tx_readLetter : MI yX3_readLetter cX3_readLetter 1 (some .boolean) 0 := ⟨gt_in 435 (by rfl) rfl, gt_in 71 (by decide +kernel) rfl, by decide +kernel, by decide +kernel⟩
theorem mv_Tx_readLetter : MV yX3_readLetter := ⟨gt_in 434 (by decide +kernel) rfl, gt_in 3 (by decide +kernel) rfl⟩
set_option maxRecDepth 100000 in
theorem mi_Tx_readMark : MI yX3_readMark cX3_readMark 2 (some .boolean) 1 := ⟨gt_in 328 (by rfl) rfl, gt_in 71 (by decide +kernel) rfl, by decide +kernel, by decide +kernel⟩
theorem mv_Tx_readMark : MV yX3_readMark := ⟨gt_in 327 (by decide +kernel) rfl, gt_in 0 (by decide +kernel) rfl⟩
set_option maxRecDepth 100000 in
theorem mi_Tx_readMonths : MI yX3_readMonths cX3_readMonths 1 (some .boolean) 0 := ⟨gt_in 439 (by rfl) rfl, gt_in 71 (by decide +kernel) rfl, by decide +kernel, by decide +kernel⟩
theorem mv_Tx_readMonths : MV yX3_readMonths := ⟨gt_in 438 (by decide +kernel) rfl, gt_in 4 (by decide +kernel) rfl⟩
set_option maxRecDepth 100000 in
theorem mi_Tx_readWord : MI yX3_readWord cX3_readWord 2 (some .boolean) 0 := ⟨gt_in 431 (by rfl) rfl, gt_in 71 (by decide +kernel) rfl, by decide +kernel, by decide +kernel⟩
theorem mv_Tx_readWord : MV yX3_readWord := ⟨gt_in 430 (by decide +kernel) rfl, gt_in 2 (by decide +kernel) rfl⟩
set_option maxRecDepth 100000 in
theorem mi_Tx_restart : MI yX3_restart cX3_restart 1 (some .boolean) 0 := ⟨gt_in 324 (by rfl) rfl, gt_in 71 (by decide +kernel) rfl, by decide +kernel, by decide +kernel⟩
theorem mv_Tx_restart : MV yX3_restart := ⟨gt_in 322 (by decide +kernel) rfl, gt_in 323 (by decide +kernel) rfl⟩
set_option maxRecDepth 100000 in
theorem mi_Ru_lastOfNextRow : MI yX4_lastOfNextRow cX4_lastOfNextRow 8 (some .int) 2 := ⟨gt_in 663 (by rfl) rfl, gt_in 76 (by decide +kernel) rfl, by decide +kernel, by decide +kernel⟩
theorem mv_Ru_lastOfNextRow : MV yX4_lastOfNextRow := ⟨gt_in 662 (by decide +kernel) rfl, gt_in 9 (by decide +kernel) rfl⟩
set_option maxRecDepth 100000 in
theorem mi_Ru_measured : MI yX4_measured cX4_measured 6 (some .int) 2 := ⟨gt_in 656 (by rfl) rfl, gt_in 76 (by decide +kernel) rfl, by decide +kernel, by decide +kernel⟩
theorem mv_Ru_measured : MV yX4_measured := ⟨gt_in 654 (by decide +kernel) rfl, gt_in 655 (by decide +kernel) rfl⟩
set_option maxRecDepth 100000 in
theorem mi_Sc_isGiven : MI yX5_isGiven cX5_isGiven 5 (some .boolean) 5 := ⟨gt_in 1000 (by rfl) rfl, gt_in 94 (by decide +kernel) rfl, by decide +kernel, by decide +kernel⟩
theorem ms_Sc_isGiven : Cond.static yX5_isGiven ∈ GT := gt_in 999 (by decide +kernel) rfl
set_option maxRecDepth 100000 in
theorem mi_Sc_monthsPass : MI yX5_monthsPass cX5_monthsPass 2 (some .boolean) 2 := ⟨gt_in 1007 (by rfl) rfl, gt_in 94 (by decide +kernel) rfl, by decide +kernel, by decide +kernel⟩
theorem ms_Sc_monthsPass : Cond.static yX5_monthsPass ∈ GT := gt_in 1006 (by decide +kernel) rfl
set_option maxRecDepth 100000 in
theorem mi_Sc_succeeds : MI yX5_succeeds cX5_succeeds 6 (some .boolean) 2 := ⟨gt_in 997 (by rfl) rfl, gt_in 94 (by decide +kernel) rfl, by decide +kernel, by decide +kernel⟩
theorem ms_Sc_succeeds : Cond.static yX5_succeeds ∈ GT := gt_in 996 (by decide +kernel) rfl
set_option maxRecDepth 100000 in
theorem mi_Si_takeTurn : MI yX6_takeTurn cX6_takeTurn 3 none 2 := ⟨gt_in 1026 (by rfl) rfl, gt_in 95 (by decide +kernel) rfl, by decide +kernel, by decide +kernel⟩
theorem ms_Si_takeTurn : Cond.static yX6_takeTurn ∈ GT := gt_in 1025 (by decide +kernel) rfl
set_option maxRecDepth 100000 in
theorem mi_Si_wordFrom : MI yX6_wordFrom cX6_wordFrom 5 (some .int) 1 := ⟨gt_in 1029 (by rfl) rfl, gt_in 95 (by decide +kernel) rfl, by decide +kernel, by decide +kernel⟩
theorem ms_Si_wordFrom : Cond.static yX6_wordFrom ∈ GT := gt_in 1028 (by decide +kernel) rfl
set_option maxRecDepth 100000 in
theorem mi_St_clear : MI yX7_clear cX7_clear 1 none 0 := ⟨gt_in 164 (by rfl) rfl, gt_in 73 (by decide +kernel) rfl, by decide +kernel, by decide +kernel⟩
theorem mv_St_clear : MV yX7_clear := ⟨gt_in 162 (by decide +kernel) rfl, gt_in 163 (by decide +kernel) rfl⟩
set_option maxRecDepth 100000 in
theorem mi_St_copyFrom : MI yX7_copyFrom cX7_copyFrom 2 none 1 := ⟨gt_in 866 (by rfl) rfl, gt_in 73 (by decide +kernel) rfl, by decide +kernel, by decide +kernel⟩
theorem mv_St_copyFrom : MV yX7_copyFrom := ⟨gt_in 864 (by decide +kernel) rfl, gt_in 865 (by decide +kernel) rfl⟩
set_option maxRecDepth 100000 in
theorem mi_Tw_allFines : MI yX8_allFines cX8_allFines 1 (some .int) 0 := ⟨gt_in 676 (by rfl) rfl, gt_in 72 (by decide +kernel) rfl, by decide +kernel, by decide +kernel⟩
theorem mv_Tw_allFines : MV yX8_allFines := ⟨gt_in 674 (by decide +kernel) rfl, gt_in 675 (by decide +kernel) rfl⟩
set_option maxRecDepth 100000 in
theorem mi_Tw_bringSign : MI yX8_bringSign cX8_bringSign 6 (some .int) 2 := ⟨gt_in 595 (by rfl) rfl, gt_in 72 (by decide +kernel) rfl, by decide +kernel, by decide +kernel⟩
theorem mv_Tw_bringSign : MV yX8_bringSign := ⟨gt_in 593 (by decide +kernel) rfl, gt_in 594 (by decide +kernel) rfl⟩
set_option maxRecDepth 100000 in
theorem mi_Tw_canForgive : MI yX8_canForgive cX8_canForgive 1 (some .boolean) 0 := ⟨gt_in 695 (by rfl) rfl, gt_in 72 (by decide +kernel) rfl, by decide +kernel, by decide +kernel⟩
theorem mv_Tw_canForgive : MV yX8_canForgive := ⟨gt_in 693 (by decide +kernel) rfl, gt_in 694 (by decide +kernel) rfl⟩
set_option maxRecDepth 100000 in
theorem mi_Tw_charge : MI yX8_charge cX8_charge 5 none 3 := ⟨gt_in 668 (by rfl) rfl, gt_in 72 (by decide +kernel) rfl, by decide +kernel, by decide +kernel⟩
theorem mv_Tw_charge : MV yX8_charge := ⟨gt_in 667 (by decide +kernel) rfl, gt_in 10 (by decide +kernel) rfl⟩
set_option maxRecDepth 100000 in
theorem mi_Tw_costOf : MI yX8_costOf cX8_costOf 2 (some .int) 1 := ⟨gt_in 648 (by rfl) rfl, gt_in 72 (by decide +kernel) rfl, by decide +kernel, by decide +kernel⟩
theorem mv_Tw_costOf : MV yX8_costOf := ⟨gt_in 646 (by decide +kernel) rfl, gt_in 647 (by decide +kernel) rfl⟩
set_option maxRecDepth 100000 in
theorem mi_Tw_costOfAll : MI yX8_costOfAll cX8_costOfAll 3 (some .int) 0 := ⟨gt_in 724 (by rfl) rfl, gt_in 72 (by decide +kernel) rfl, by decide +kernel, by decide +kernel⟩
theorem mv_Tw_costOfAll : MV yX8_costOfAll := ⟨gt_in 723 (by decide +kernel) rfl, gt_in 13 (by decide +kernel) rfl⟩
set_option maxRecDepth 100000 in
theorem mi_Tw_counted : MI yX8_counted cX8_counted 2 (some .int) 1 := ⟨gt_in 875 (by rfl) rfl, gt_in 72 (by decide +kernel) rfl, by decide +kernel, by decide +kernel⟩
theorem mv_Tw_counted : MV yX8_counted := ⟨gt_in 873 (by decide +kernel) rfl, gt_in 874 (by decide +kernel) rfl⟩
set_option maxRecDepth 100000 in
theorem mi_Tw_fineWrongSigns : MI yX8_fineWrongSigns cX8_fineWrongSigns 3 none 0 := ⟨gt_in 683 (by rfl) rfl, gt_in 72 (by decide +kernel) rfl, by decide +kernel, by decide +kernel⟩
theorem mv_Tw_fineWrongSigns : MV yX8_fineWrongSigns := ⟨gt_in 682 (by decide +kernel) rfl, gt_in 11 (by decide +kernel) rfl⟩
set_option maxRecDepth 100000 in
theorem mi_Tw_forgive : MI yX8_forgive cX8_forgive 2 (some .int) 1 := ⟨gt_in 691 (by rfl) rfl, gt_in 72 (by decide +kernel) rfl, by decide +kernel, by decide +kernel⟩
theorem mv_Tw_forgive : MV yX8_forgive := ⟨gt_in 689 (by decide +kernel) rfl, gt_in 690 (by decide +kernel) rfl⟩
set_option maxRecDepth 100000 in
theorem mi_Tw_giveDecree : MI yX8_giveDecree cX8_giveDecree 6 (some .int) 4 := ⟨gt_in 616 (by rfl) rfl, gt_in 72 (by decide +kernel) rfl, by decide +kernel, by decide +kernel⟩
theorem mv_Tw_giveDecree : MV yX8_giveDecree := ⟨gt_in 614 (by decide +kernel) rfl, gt_in 615 (by decide +kernel) rfl⟩
set_option maxRecDepth 100000 in
theorem mi_Tw_hasSign : MI yX8_hasSign cX8_hasSign 2 (some .boolean) 1 := ⟨gt_in 452 (by rfl) rfl, gt_in 72 (by decide +kernel) rfl, by decide +kernel, by decide +kernel⟩
theorem mv_Tw_hasSign : MV yX8_hasSign := ⟨gt_in 450 (by decide +kernel) rfl, gt_in 451 (by decide +kernel) rfl⟩
set_option maxRecDepth 100000 in
theorem mi_Tw_isWrong : MI yX8_isWrong cX8_isWrong 2 (some .boolean) 1 := ⟨gt_in 687 (by rfl) rfl, gt_in 72 (by decide +kernel) rfl, by decide +kernel, by decide +kernel⟩
theorem mv_Tw_isWrong : MV yX8_isWrong := ⟨gt_in 685 (by decide +kernel) rfl, gt_in 686 (by decide +kernel) rfl⟩
set_option maxRecDepth 100000 in
theorem mi_Tw_lettersOf : MI yX8_lettersOf cX8_lettersOf 4 (some .int) 1 := ⟨gt_in 715 (by rfl) rfl, gt_in 72 (by decide +kernel) rfl, by decide +kernel, by decide +kernel⟩
theorem mv_Tw_lettersOf : MV yX8_lettersOf := ⟨gt_in 714 (by decide +kernel) rfl, gt_in 12 (by decide +kernel) rfl⟩
set_option maxRecDepth 100000 in
theorem mi_Tw_lettersOfRights : MI yX8_lettersOfRights cX8_lettersOfRights 1 (some .int) 0 := ⟨gt_in 720 (by rfl) rfl, gt_in 72 (by decide +kernel) rfl, by decide +kernel, by decide +kernel⟩
theorem mv_Tw_lettersOfRights : MV yX8_lettersOfRights := ⟨gt_in 718 (by decide +kernel) rfl, gt_in 719 (by decide +kernel) rfl⟩
set_option maxRecDepth 100000 in
theorem mi_Tw_lettersWrong : MI yX8_lettersWrong cX8_lettersWrong 2 (some .int) 1 := ⟨gt_in 652 (by rfl) rfl, gt_in 72 (by decide +kernel) rfl, by decide +kernel, by decide +kernel⟩
theorem mv_Tw_lettersWrong : MV yX8_lettersWrong := ⟨gt_in 650 (by decide +kernel) rfl, gt_in 651 (by decide +kernel) rfl⟩
set_option maxRecDepth 100000 in
theorem mi_Tw_monthsTillFinesAreMore : MI yX8_monthsTillFinesAreMore cX8_monthsTillFinesAreMore 5 (some .int) 1 := ⟨gt_in 983 (by rfl) rfl, gt_in 72 (by decide +kernel) rfl, by decide +kernel, by decide +kernel⟩
theorem mv_Tw_monthsTillFinesAreMore : MV yX8_monthsTillFinesAreMore := ⟨gt_in 981 (by decide +kernel) rfl, gt_in 982 (by decide +kernel) rfl⟩
set_option maxRecDepth 100000 in
theorem mi_Tw_numberOfGuild : MI yX8_numberOfGuild cX8_numberOfGuild 3 (some .int) 2 := ⟨gt_in 792 (by rfl) rfl, gt_in 72 (by decide +kernel) rfl, by decide +kernel, by decide +kernel⟩
theorem mv_Tw_numberOfGuild : MV yX8_numberOfGuild := ⟨gt_in 790 (by decide +kernel) rfl, gt_in 791 (by decide +kernel) rfl⟩
set_option maxRecDepth 100000 in
theorem mi_Tw_numberOfSign : MI yX8_numberOfSign cX8_numberOfSign 3 (some .int) 2 := ⟨gt_in 758 (by rfl) rfl, gt_in 72 (by decide +kernel) rfl, by decide +kernel, by decide +kernel⟩
theorem mv_Tw_numberOfSign : MV yX8_numberOfSign := ⟨gt_in 756 (by decide +kernel) rfl, gt_in 757 (by decide +kernel) rfl⟩
set_option maxRecDepth 100000 in
theorem mi_Tw_numberOfTown : MI yX8_numberOfTown cX8_numberOfTown 2 (some .int) 1 := ⟨gt_in 711 (by rfl) rfl, gt_in 72 (by decide +kernel) rfl, by decide +kernel, by decide +kernel⟩
theorem mv_Tw_numberOfTown : MV yX8_numberOfTown := ⟨gt_in 709 (by decide +kernel) rfl, gt_in 710 (by decide +kernel) rfl⟩
set_option maxRecDepth 100000 in
theorem mi_Tw_passMonths : MI yX8_passMonths cX8_passMonths 4 (some .int) 1 := ⟨gt_in 672 (by rfl) rfl, gt_in 72 (by decide +kernel) rfl, by decide +kernel, by decide +kernel⟩
theorem mv_Tw_passMonths : MV yX8_passMonths := ⟨gt_in 670 (by decide +kernel) rfl, gt_in 671 (by decide +kernel) rfl⟩
set_option maxRecDepth 100000 in
theorem mi_Tw_reasonAgainstDecree : MI yX8_reasonAgainstDecree cX8_reasonAgainstDecree 6 (some .int) 4 := ⟨gt_in 448 (by rfl) rfl, gt_in 72 (by decide +kernel) rfl, by decide +kernel, by decide +kernel⟩
theorem mv_Tw_reasonAgainstDecree : MV yX8_reasonAgainstDecree := ⟨gt_in 446 (by decide +kernel) rfl, gt_in 447 (by decide +kernel) rfl⟩
set_option maxRecDepth 100000 in
theorem mi_Tw_reasonAgainstPlan : MI yX8_reasonAgainstPlan cX8_reasonAgainstPlan 3 (some .int) 0 := ⟨gt_in 471 (by rfl) rfl, gt_in 72 (by decide +kernel) rfl, by decide +kernel, by decide +kernel⟩
theorem mv_Tw_reasonAgainstPlan : MV yX8_reasonAgainstPlan := ⟨gt_in 470 (by decide +kernel) rfl, gt_in 5 (by decide +kernel) rfl⟩
set_option maxRecDepth 100000 in
theorem mi_Tw_reasonAgainstSign : MI yX8_reasonAgainstSign cX8_reasonAgainstSign 4 (some .int) 2 := ⟨gt_in 612 (by rfl) rfl, gt_in 72 (by decide +kernel) rfl, by decide +kernel, by decide +kernel⟩
theorem mv_Tw_reasonAgainstSign : MV yX8_reasonAgainstSign := ⟨gt_in 611 (by decide +kernel) rfl, gt_in 8 (by decide +kernel) rfl⟩
set_option maxRecDepth 100000 in
theorem mi_Tw_repaint : MI yX8_repaint cX8_repaint 3 (some .int) 1 := ⟨gt_in 644 (by rfl) rfl, gt_in 72 (by decide +kernel) rfl, by decide +kernel, by decide +kernel⟩
theorem mv_Tw_repaint : MV yX8_repaint := ⟨gt_in 642 (by decide +kernel) rfl, gt_in 643 (by decide +kernel) rfl⟩
set_option maxRecDepth 100000 in
theorem mi_Tw_signsOfGuild : MI yX8_signsOfGuild cX8_signsOfGuild 5 (some .int) 2 := ⟨gt_in 796 (by rfl) rfl, gt_in 72 (by decide +kernel) rfl, by decide +kernel, by decide +kernel⟩
theorem mv_Tw_signsOfGuild : MV yX8_signsOfGuild := ⟨gt_in 795 (by decide +kernel) rfl, gt_in 16 (by decide +kernel) rfl⟩
set_option maxRecDepth 100000 in
theorem mi_Tw_signsPaidBy : MI yX8_signsPaidBy cX8_signsPaidBy 7 (some .int) 1 := ⟨gt_in 972 (by rfl) rfl, gt_in 72 (by decide +kernel) rfl, by decide +kernel, by decide +kernel⟩
theorem mv_Tw_signsPaidBy : MV yX8_signsPaidBy := ⟨gt_in 970 (by decide +kernel) rfl, gt_in 971 (by decide +kernel) rfl⟩
set_option maxRecDepth 100000 in
theorem mi_Tw_spelled : MI yX8_spelled cX8_spelled 4 (some .int) 2 := ⟨gt_in 808 (by rfl) rfl, gt_in 72 (by decide +kernel) rfl, by decide +kernel, by decide +kernel⟩
theorem mv_Tw_spelled : MV yX8_spelled := ⟨gt_in 806 (by decide +kernel) rfl, gt_in 807 (by decide +kernel) rfl⟩
set_option maxRecDepth 100000 in
theorem mi_Tw_spellingsApart : MI yX8_spellingsApart cX8_spellingsApart 3 (some .int) 2 := ⟨gt_in 960 (by rfl) rfl, gt_in 72 (by decide +kernel) rfl, by decide +kernel, by decide +kernel⟩
theorem mv_Tw_spellingsApart : MV yX8_spellingsApart := ⟨gt_in 958 (by decide +kernel) rfl, gt_in 959 (by decide +kernel) rfl⟩
set_option maxRecDepth 100000 in
theorem mi_Tw_sum : MI yX8_sum cX8_sum 6 (some .int) 1 := ⟨gt_in 679 (by rfl) rfl, gt_in 72 (by decide +kernel) rfl, by decide +kernel, by decide +kernel⟩
theorem ms_Tw_sum : Cond.static yX8_sum ∈ GT := gt_in 678 (by decide +kernel) rfl
set_option maxRecDepth 100000 in
theorem mi_Tw_takeDecree : MI yX8_takeDecree cX8_takeDecree 3 (some .int) 1 := ⟨gt_in 633 (by rfl) rfl, gt_in 72 (by decide +kernel) rfl, by decide +kernel, by decide +kernel⟩
theorem mv_Tw_takeDecree : MV yX8_takeDecree := ⟨gt_in 631 (by decide +kernel) rfl, gt_in 632 (by decide +kernel) rfl⟩
set_option maxRecDepth 100000 in
theorem mi_Tw_wrongSigns : MI yX8_wrongSigns cX8_wrongSigns 3 (some .int) 0 := ⟨gt_in 699 (by rfl) rfl, gt_in 72 (by decide +kernel) rfl, by decide +kernel, by decide +kernel⟩
theorem mv_Tw_wrongSigns : MV yX8_wrongSigns := ⟨gt_in 697 (by decide +kernel) rfl, gt_in 698 (by decide +kernel) rfl⟩
set_option maxRecDepth 100000 in
theorem mi_Wo_decreed : MI yX9_decreed cX9_decreed 6 (some .int) 5 := ⟨gt_in 455 (by rfl) rfl, gt_in 91 (by decide +kernel) rfl, by decide +kernel, by decide +kernel⟩
theorem ms_Wo_decreed : Cond.static yX9_decreed ∈ GT := gt_in 454 (by decide +kernel) rfl
set_option maxRecDepth 100000 in
theorem mi_Wo_dropped : MI yX9_dropped cX9_dropped 6 (some .int) 2 := ⟨gt_in 461 (by rfl) rfl, gt_in 91 (by decide +kernel) rfl, by decide +kernel, by decide +kernel⟩
theorem ms_Wo_dropped : Cond.static yX9_dropped ∈ GT := gt_in 460 (by decide +kernel) rfl
set_option maxRecDepth 100000 in
theorem mi_Wo_isLetter : MI yX9_isLetter cX9_isLetter 1 (some .boolean) 1 := ⟨gt_in 856 (by rfl) rfl, gt_in 91 (by decide +kernel) rfl, by decide +kernel, by decide +kernel⟩
theorem ms_Wo_isLetter : Cond.static yX9_isLetter ∈ GT := gt_in 855 (by decide +kernel) rfl
set_option maxRecDepth 100000 in
theorem mi_Wo_isWord : MI yX9_isWord cX9_isWord 3 (some .boolean) 1 := ⟨gt_in 852 (by rfl) rfl, gt_in 91 (by decide +kernel) rfl, by decide +kernel, by decide +kernel⟩
theorem ms_Wo_isWord : Cond.static yX9_isWord ∈ GT := gt_in 851 (by decide +kernel) rfl
set_option maxRecDepth 100000 in
theorem mi_Wo_joined : MI yX9_joined cX9_joined 8 (some .int) 4 := ⟨gt_in 464 (by rfl) rfl, gt_in 91 (by decide +kernel) rfl, by decide +kernel, by decide +kernel⟩
theorem ms_Wo_joined : Cond.static yX9_joined ∈ GT := gt_in 463 (by decide +kernel) rfl
set_option maxRecDepth 100000 in
theorem mi_Wo_letters : MI yX9_letters cX9_letters 4 (some .int) 1 := ⟨gt_in 659 (by rfl) rfl, gt_in 91 (by decide +kernel) rfl, by decide +kernel, by decide +kernel⟩
theorem ms_Wo_letters : Cond.static yX9_letters ∈ GT := gt_in 658 (by decide +kernel) rfl
set_option maxRecDepth 100000 in
theorem mi_Wo_mirrored : MI yX9_mirrored cX9_mirrored 4 (some .int) 1 := ⟨gt_in 458 (by rfl) rfl, gt_in 91 (by decide +kernel) rfl, by decide +kernel, by decide +kernel⟩
theorem ms_Wo_mirrored : Cond.static yX9_mirrored ∈ GT := gt_in 457 (by decide +kernel) rfl
set_option maxRecDepth 100000 in
theorem mi_Wo_single : MI yX9_single cX9_single 7 (some .int) 2 := ⟨gt_in 467 (by rfl) rfl, gt_in 91 (by decide +kernel) rfl, by decide +kernel, by decide +kernel⟩
theorem ms_Wo_single : Cond.static yX9_single ∈ GT := gt_in 466 (by decide +kernel) rfl
theorem ts_RX10_33_37 : tsW RX10 33 37 "java/lang/IllegalArgumentException" ["java/lang/RuntimeException", "java/lang/Exception"] = true := by decide +kernel
theorem ts_RX10_44_48 : tsW RX10 44 48 "java/lang/IllegalStateException" ["java/lang/RuntimeException", "java/lang/Exception"] = true := by decide +kernel
theorem ts_RX10_281_285 : tsW RX10 281 285 "java/lang/IndexOutOfBoundsException" ["java/lang/RuntimeException", "java/lang/Exception"] = true := by decide +kernel
theorem sr_RX10_35 : Cond.stringRef RX10 35 "no character code" ∈ lw_tbl := List.mem_of_getElem? (i := 522) (by decide +kernel)
theorem sr_RX10_46 : Cond.stringRef RX10 46 "the text is full" ∈ lw_tbl := List.mem_of_getElem? (i := 557) (by decide +kernel)
theorem sr_RX10_57 : Cond.stringRef RX10 57 "the text is not a reform" ∈ lw_tbl := List.mem_of_getElem? (i := 575) (by decide +kernel)
theorem sr_RX10_117 : Cond.stringRef RX10 117 "no such number of the reform" ∈ lw_tbl := List.mem_of_getElem? (i := 707) (by decide +kernel)
theorem sr_RX10_125 : Cond.stringRef RX10 125 "no such number of a sign" ∈ lw_tbl := List.mem_of_getElem? (i := 754) (by decide +kernel)
theorem sr_RX10_133 : Cond.stringRef RX10 133 "no such number of a decree" ∈ lw_tbl := List.mem_of_getElem? (i := 772) (by decide +kernel)
theorem sr_RX10_146 : Cond.stringRef RX10 146 "no such number of a guild" ∈ lw_tbl := List.mem_of_getElem? (i := 788) (by decide +kernel)
theorem sr_RX10_151 : Cond.stringRef RX10 151 "no such way" ∈ lw_tbl := List.mem_of_getElem? (i := 804) (by decide +kernel)
theorem sr_RX10_170 : Cond.stringRef RX10 170 "no word" ∈ lw_tbl := List.mem_of_getElem? (i := 857) (by decide +kernel)
theorem sr_RX10_175 : Cond.stringRef RX10 175 "there are 8 signs" ∈ lw_tbl := List.mem_of_getElem? (i := 858) (by decide +kernel)
theorem sr_RX10_191 : Cond.stringRef RX10 191 "10 decrees are in force" ∈ lw_tbl := List.mem_of_getElem? (i := 891) (by decide +kernel)
theorem sr_RX10_193 : Cond.stringRef RX10 193 "no such number of months" ∈ lw_tbl := List.mem_of_getElem? (i := 913) (by decide +kernel)
theorem sr_RX10_198 : Cond.stringRef RX10 198 "no amnesty can be given yet" ∈ lw_tbl := List.mem_of_getElem? (i := 922) (by decide +kernel)
theorem sr_RX10_200 : Cond.stringRef RX10 200 "no value of a setting" ∈ lw_tbl := List.mem_of_getElem? (i := 930) (by decide +kernel)
theorem sr_RX10_205 : Cond.stringRef RX10 205 "no state is remembered" ∈ lw_tbl := List.mem_of_getElem? (i := 938) (by decide +kernel)
theorem sr_RX10_216 : Cond.stringRef RX10 216 "no such purse" ∈ lw_tbl := List.mem_of_getElem? (i := 968) (by decide +kernel)
theorem sr_RX10_224 : Cond.stringRef RX10 224 "no such number of commands" ∈ lw_tbl := List.mem_of_getElem? (i := 991) (by decide +kernel)
theorem sr_RX10_228 : Cond.stringRef RX10 228 "no script of so many commands" ∈ lw_tbl := List.mem_of_getElem? (i := 993) (by decide +kernel)
theorem sr_RX10_239 : Cond.stringRef RX10 239 "no such number of turns" ∈ lw_tbl := List.mem_of_getElem? (i := 1020) (by decide +kernel)
theorem sr_RX10_273 : Cond.stringRef RX10 273 "nothing has been saved in the slot" ∈ lw_tbl := List.mem_of_getElem? (i := 1064) (by decide +kernel)
theorem sr_RX10_283 : Cond.stringRef RX10 283 "no such sign" ∈ lw_tbl := List.mem_of_getElem? (i := 747) (by decide +kernel)
theorem sr_RX10_289 : Cond.stringRef RX10 289 "no such decree" ∈ lw_tbl := List.mem_of_getElem? (i := 771) (by decide +kernel)
theorem sr_RX10_291 : Cond.stringRef RX10 291 "no such guild" ∈ lw_tbl := List.mem_of_getElem? (i := 787) (by decide +kernel)
theorem sr_RX10_293 : Cond.stringRef RX10 293 "no such save slot" ∈ lw_tbl := List.mem_of_getElem? (i := 1048) (by decide +kernel)
theorem sr_RX10_295 : Cond.stringRef RX10 295 "no such setting" ∈ lw_tbl := List.mem_of_getElem? (i := 842) (by decide +kernel)
theorem mathmin : Cond.static Lib.Math.min.name ∈ GT ∧ Cond.initialized "java/lang/Math" ∈ GT ∧ Cond.code Lib.Math.min.name Lib.Math.min.code 2 (some .int) ∈ GT := ⟨gt_in 370 (by decide +kernel) rfl, gt_in 87 (by decide +kernel) rfl, gt_in 371 (by decide +kernel) rfl⟩
theorem mathmax : Cond.static Lib.Math.max.name ∈ GT ∧ Cond.initialized "java/lang/Math" ∈ GT ∧ Cond.code Lib.Math.max.name Lib.Math.max.code 2 (some .int) ∈ GT := ⟨gt_in 367 (by decide +kernel) rfl, gt_in 87 (by decide +kernel) rfl, gt_in 368 (by decide +kernel) rfl⟩
theorem syscopy : Cond.native arraycopyName ∈ GT ∧ Cond.static arraycopyName ∈ GT ∧ Cond.initialized "java/lang/System" ∈ GT := ⟨gt_in 629 (by decide +kernel) rfl, gt_in 628 (by decide +kernel) rfl, gt_in 92 (by decide +kernel) rfl⟩
