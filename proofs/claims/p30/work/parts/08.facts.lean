/-! WORDS of the tables that the walks use; constants -/
theorem cI_m1 : Int32.ofInt (-1) = (-1) := by decide
theorem cI_0 : Int32.ofInt 0 = 0 := by decide
theorem cI_1 : Int32.ofInt 1 = 1 := by decide
theorem cI_2 : Int32.ofInt 2 = 2 := by decide
theorem cI_3 : Int32.ofInt 3 = 3 := by decide
theorem cI_4 : Int32.ofInt 4 = 4 := by decide
theorem cI_5 : Int32.ofInt 5 = 5 := by decide
theorem cI_6 : Int32.ofInt 6 = 6 := by decide
theorem cI_7 : Int32.ofInt 7 = 7 := by decide
theorem cI_8 : Int32.ofInt 8 = 8 := by decide
theorem cI_9 : Int32.ofInt 9 = 9 := by decide
theorem cI_10 : Int32.ofInt 10 = 10 := by decide
theorem cB_6 : (Int8.ofInt 6).toInt32 = 6 := by decide
theorem cB_7 : (Int8.ofInt 7).toInt32 = 7 := by decide
theorem cB_8 : (Int8.ofInt 8).toInt32 = 8 := by decide
theorem cB_9 : (Int8.ofInt 9).toInt32 = 9 := by decide
theorem cB_10 : (Int8.ofInt 10).toInt32 = 10 := by decide
theorem cB_11 : (Int8.ofInt 11).toInt32 = 11 := by decide
theorem cB_12 : (Int8.ofInt 12).toInt32 = 12 := by decide
theorem cB_13 : (Int8.ofInt 13).toInt32 = 13 := by decide
theorem cB_14 : (Int8.ofInt 14).toInt32 = 14 := by decide
theorem cB_16 : (Int8.ofInt 16).toInt32 = 16 := by decide
theorem cB_17 : (Int8.ofInt 17).toInt32 = 17 := by decide
theorem cB_19 : (Int8.ofInt 19).toInt32 = 19 := by decide
theorem cB_20 : (Int8.ofInt 20).toInt32 = 20 := by decide
theorem cB_21 : (Int8.ofInt 21).toInt32 = 21 := by decide
theorem cB_22 : (Int8.ofInt 22).toInt32 = 22 := by decide
theorem cB_23 : (Int8.ofInt 23).toInt32 = 23 := by decide
theorem cB_25 : (Int8.ofInt 25).toInt32 = 25 := by decide
theorem cB_32 : (Int8.ofInt 32).toInt32 = 32 := by decide
theorem cB_60 : (Int8.ofInt 60).toInt32 = 60 := by decide
theorem cB_61 : (Int8.ofInt 61).toInt32 = 61 := by decide
theorem cB_70 : (Int8.ofInt 70).toInt32 = 70 := by decide
theorem cB_100 : (Int8.ofInt 100).toInt32 = 100 := by decide
theorem cS_200 : (Int16.ofInt 200).toInt32 = 200 := by decide
theorem cS_700 : (Int16.ofInt 700).toInt32 = 700 := by decide
theorem cS_999 : (Int16.ofInt 999).toInt32 = 999 := by decide
theorem czI_3 : ¬ (3 : Int32) = 0 := by decide
theorem czI_4 : ¬ (4 : Int32) = 0 := by decide
theorem czI_5 : ¬ (5 : Int32) = 0 := by decide
theorem czI_8 : ¬ (8 : Int32) = 0 := by decide
theorem czI_10 : ¬ (10 : Int32) = 0 := by decide
theorem czI_14 : ¬ (14 : Int32) = 0 := by decide
theorem czI_100 : ¬ (100 : Int32) = 0 := by decide
theorem ld_RL_7 : Cond.constant RL 7 2147483647 ∈ GT := gt_in 370 (by decide +kernel) rfl
theorem ld_RX9_9 : Cond.constant RX9 9 66666666 ∈ GT := gt_in 448 (by decide +kernel) rfl
theorem fl_RX0_11 : Cond.fieldLink RX0 11 (TX0 1).1 (TX0 1).2.1 (TX0 1).2.2.1 ∈ GT := gt_in 83 (by decide +kernel) rfl
theorem fl_RX0_21 : Cond.fieldLink RX0 21 (TX0 0).1 (TX0 0).2.1 (TX0 0).2.2.1 ∈ GT := gt_in 81 (by decide +kernel) rfl
theorem fl_RX1_9 : Cond.fieldLink RX1 9 (TX1 0).1 (TX1 0).2.1 (TX1 0).2.2.1 ∈ GT := gt_in 176 (by decide +kernel) rfl
theorem fl_RX10_19 : Cond.fieldLink RX10 19 (TX10 1).1 (TX10 1).2.1 (TX10 1).2.2.1 ∈ GT := gt_in 222 (by decide +kernel) rfl
theorem fl_RX10_29 : Cond.fieldLink RX10 29 (TX10 3).1 (TX10 3).2.1 (TX10 3).2.2.1 ∈ GT := gt_in 224 (by decide +kernel) rfl
theorem fl_RX10_59 : Cond.fieldLink RX10 59 (TX8 0).1 (TX8 0).2.1 (TX8 0).2.2.1 ∈ GT := gt_in 181 (by decide +kernel) rfl
theorem fl_RX10_135 : Cond.fieldLink RX10 135 (TX7 0).1 (TX7 0).2.1 (TX7 0).2.2.1 ∈ GT := gt_in 98 (by decide +kernel) rfl
theorem fl_RX10_160 : Cond.fieldLink RX10 160 (TX7 10).1 (TX7 10).2.1 (TX7 10).2.2.1 ∈ GT := gt_in 120 (by decide +kernel) rfl
theorem fl_RX10_172 : Cond.fieldLink RX10 172 (TX7 1).1 (TX7 1).2.1 (TX7 1).2.2.1 ∈ GT := gt_in 101 (by decide +kernel) rfl
theorem fl_RX10_202 : Cond.fieldLinkNest RX10 202 (TX2 2).1 (TX2 2).2.1 (TX2 2).2.2.1 "SignReforms" ∈ lw_tbl := List.mem_of_getElem? (i := 206) (by decide +kernel)
theorem fl_RX2_11 : Cond.fieldLink RX2 11 (TX2 0).1 (TX2 0).2.1 (TX2 0).2.2.1 ∈ GT := gt_in 203 (by decide +kernel) rfl
theorem fl_RX2_25 : Cond.fieldLink RX2 25 (TX2 1).1 (TX2 1).2.1 (TX2 1).2.2.1 ∈ GT := gt_in 204 (by decide +kernel) rfl
theorem fl_RX2_29 : Cond.fieldLink RX2 29 (TX2 2).1 (TX2 2).2.1 (TX2 2).2.2.1 ∈ GT := gt_in 205 (by decide +kernel) rfl
theorem fl_RX4_9 : Cond.fieldLink RX4 9 (TX4 0).1 (TX4 0).2.1 (TX4 0).2.2.1 ∈ GT := gt_in 166 (by decide +kernel) rfl
theorem fl_RX7_12 : Cond.fieldLink RX7 12 (TX7 0).1 (TX7 0).2.1 (TX7 0).2.2.1 ∈ GT := gt_in 96 (by decide +kernel) rfl
theorem fl_RX7_18 : Cond.fieldLink RX7 18 (TX7 2).1 (TX7 2).2.1 (TX7 2).2.2.1 ∈ GT := gt_in 102 (by decide +kernel) rfl
theorem fl_RX7_22 : Cond.fieldLink RX7 22 (TX7 3).1 (TX7 3).2.1 (TX7 3).2.2.1 ∈ GT := gt_in 104 (by decide +kernel) rfl
theorem fl_RX7_25 : Cond.fieldLink RX7 25 (TX7 4).1 (TX7 4).2.1 (TX7 4).2.2.1 ∈ GT := gt_in 106 (by decide +kernel) rfl
theorem fl_RX7_28 : Cond.fieldLink RX7 28 (TX7 5).1 (TX7 5).2.1 (TX7 5).2.2.1 ∈ GT := gt_in 108 (by decide +kernel) rfl
theorem fl_RX7_31 : Cond.fieldLink RX7 31 (TX7 6).1 (TX7 6).2.1 (TX7 6).2.2.1 ∈ GT := gt_in 110 (by decide +kernel) rfl
theorem fl_RX7_34 : Cond.fieldLink RX7 34 (TX7 7).1 (TX7 7).2.1 (TX7 7).2.2.1 ∈ GT := gt_in 112 (by decide +kernel) rfl
theorem fl_RX7_37 : Cond.fieldLink RX7 37 (TX7 8).1 (TX7 8).2.1 (TX7 8).2.2.1 ∈ GT := gt_in 114 (by decide +kernel) rfl
theorem fl_RX7_40 : Cond.fieldLink RX7 40 (TX7 9).1 (TX7 9).2.1 (TX7 9).2.2.1 ∈ GT := gt_in 116 (by decide +kernel) rfl
theorem fl_RX7_43 : Cond.fieldLink RX7 43 (TX7 10).1 (TX7 10).2.1 (TX7 10).2.2.1 ∈ GT := gt_in 118 (by decide +kernel) rfl
theorem fl_RX7_49 : Cond.fieldLinkNest RX7 49 (TX0 0).1 (TX0 0).2.1 (TX0 0).2.2.1 "SignReforms" ∈ lw_tbl := List.mem_of_getElem? (i := 80) (by decide +kernel)
theorem fl_RX7_53 : Cond.fieldLink RX7 53 (TX7 1).1 (TX7 1).2.1 (TX7 1).2.2.1 ∈ GT := gt_in 100 (by decide +kernel) rfl
theorem fl_RX7_62 : Cond.fieldLink RX7 62 (TX7 11).1 (TX7 11).2.1 (TX7 11).2.2.1 ∈ GT := gt_in 121 (by decide +kernel) rfl
theorem fl_RX7_65 : Cond.fieldLink RX7 65 (TX7 12).1 (TX7 12).2.1 (TX7 12).2.2.1 ∈ GT := gt_in 123 (by decide +kernel) rfl
theorem fl_RX7_68 : Cond.fieldLink RX7 68 (TX7 13).1 (TX7 13).2.1 (TX7 13).2.2.1 ∈ GT := gt_in 125 (by decide +kernel) rfl
theorem fl_RX7_71 : Cond.fieldLink RX7 71 (TX7 14).1 (TX7 14).2.1 (TX7 14).2.2.1 ∈ GT := gt_in 127 (by decide +kernel) rfl
theorem fl_RX8_12 : Cond.fieldLink RX8 12 (TX8 0).1 (TX8 0).2.1 (TX8 0).2.2.1 ∈ GT := gt_in 180 (by decide +kernel) rfl
theorem fl_RX8_21 : Cond.fieldLink RX8 21 (TX8 1).1 (TX8 1).2.1 (TX8 1).2.2.1 ∈ GT := gt_in 182 (by decide +kernel) rfl
theorem fl_RX8_28 : Cond.fieldLink RX8 28 (TX8 2).1 (TX8 2).2.1 (TX8 2).2.2.1 ∈ GT := gt_in 183 (by decide +kernel) rfl
theorem fl_RX8_32 : Cond.fieldLink RX8 32 (TX8 3).1 (TX8 3).2.1 (TX8 3).2.2.1 ∈ GT := gt_in 184 (by decide +kernel) rfl
theorem fl_RX8_36 : Cond.fieldLink RX8 36 (TX7 1).1 (TX7 1).2.1 (TX7 1).2.2.1 ∈ GT := gt_in 99 (by decide +kernel) rfl
theorem fl_RX8_44 : Cond.fieldLink RX8 44 (TX7 4).1 (TX7 4).2.1 (TX7 4).2.2.1 ∈ GT := gt_in 107 (by decide +kernel) rfl
theorem fl_RX8_47 : Cond.fieldLink RX8 47 (TX7 5).1 (TX7 5).2.1 (TX7 5).2.2.1 ∈ GT := gt_in 109 (by decide +kernel) rfl
theorem fl_RX8_58 : Cond.fieldLink RX8 58 (TX7 10).1 (TX7 10).2.1 (TX7 10).2.2.1 ∈ GT := gt_in 119 (by decide +kernel) rfl
theorem fl_RX8_61 : Cond.fieldLink RX8 61 (TX7 3).1 (TX7 3).2.1 (TX7 3).2.2.1 ∈ GT := gt_in 105 (by decide +kernel) rfl
theorem fl_RX8_64 : Cond.fieldLink RX8 64 (TX7 0).1 (TX7 0).2.1 (TX7 0).2.2.1 ∈ GT := gt_in 97 (by decide +kernel) rfl
theorem fl_RX8_79 : Cond.fieldLink RX8 79 (TX7 2).1 (TX7 2).2.1 (TX7 2).2.2.1 ∈ GT := gt_in 103 (by decide +kernel) rfl
theorem fl_RX8_82 : Cond.fieldLink RX8 82 (TX7 6).1 (TX7 6).2.1 (TX7 6).2.2.1 ∈ GT := gt_in 111 (by decide +kernel) rfl
theorem fl_RX8_85 : Cond.fieldLink RX8 85 (TX7 7).1 (TX7 7).2.1 (TX7 7).2.2.1 ∈ GT := gt_in 113 (by decide +kernel) rfl
theorem fl_RX8_96 : Cond.fieldLink RX8 96 (TX7 11).1 (TX7 11).2.1 (TX7 11).2.2.1 ∈ GT := gt_in 122 (by decide +kernel) rfl
theorem fl_RX8_129 : Cond.fieldLink RX8 129 (TX7 14).1 (TX7 14).2.1 (TX7 14).2.2.1 ∈ GT := gt_in 128 (by decide +kernel) rfl
theorem fl_RX8_135 : Cond.fieldLink RX8 135 (TX7 9).1 (TX7 9).2.1 (TX7 9).2.2.1 ∈ GT := gt_in 117 (by decide +kernel) rfl
theorem fl_RX8_145 : Cond.fieldLink RX8 145 (TX7 12).1 (TX7 12).2.1 (TX7 12).2.2.1 ∈ GT := gt_in 124 (by decide +kernel) rfl
theorem fl_RX8_154 : Cond.fieldLink RX8 154 (TX7 8).1 (TX7 8).2.1 (TX7 8).2.2.1 ∈ GT := gt_in 115 (by decide +kernel) rfl
theorem fl_RX8_157 : Cond.fieldLink RX8 157 (TX7 13).1 (TX7 13).2.1 (TX7 13).2.2.1 ∈ GT := gt_in 126 (by decide +kernel) rfl
theorem fl_RX8_176 : Cond.fieldLinkNest RX8 176 (TX0 0).1 (TX0 0).2.1 (TX0 0).2.2.1 "SignReforms" ∈ lw_tbl := List.mem_of_getElem? (i := 82) (by decide +kernel)
theorem ml_RL_8 : Cond.methodLink RL 8 yX10_sign ∈ GT := gt_in 422 (by decide +kernel) rfl
theorem ml_RL_14 : Cond.methodLink RL 14 yX10_revoke ∈ GT := gt_in 497 (by decide +kernel) rfl
theorem ml_RL_18 : Cond.methodLink RL 18 yX10_paint ∈ GT := gt_in 522 (by decide +kernel) rfl
theorem ml_RL_21 : Cond.methodLink RL 21 yX10_months ∈ GT := gt_in 540 (by decide +kernel) rfl
theorem ml_RL_24 : Cond.methodLink RL 24 yX10_amnesty ∈ GT := gt_in 553 (by decide +kernel) rfl
theorem ml_RL_27 : Cond.methodLink RL 27 yX10_set ∈ GT := gt_in 567 (by decide +kernel) rfl
theorem ml_RL_36 : Cond.methodLink RL 36 yX10_decree ∈ GT := gt_in 579 (by decide +kernel) rfl
theorem ml_RL_40 : Cond.methodLink RL 40 yX10_undo ∈ GT := gt_in 375 (by decide +kernel) rfl
theorem ml_RL_44 : Cond.methodLink RL 44 yL_low ∈ GT := gt_in 367 (by decide +kernel) rfl
theorem ml_RL_49 : Cond.methodLink RL 49 yL_word ∈ GT := gt_in 414 (by decide +kernel) rfl
theorem ml_RL_52 : Cond.methodLink RL 52 yL_changes ∈ GT := gt_in 417 (by decide +kernel) rfl
theorem ml_RL_56 : Cond.methodLink RL 56 yL_decrees ∈ GT := gt_in 576 (by decide +kernel) rfl
theorem ml_RL_60 : Cond.methodLink RL 60 yX10_about ∈ GT := gt_in 234 (by decide +kernel) rfl
theorem ml_RL_63 : Cond.methodLink RL 63 yX10_setting ∈ GT := gt_in 613 (by decide +kernel) rfl
theorem ml_RL_66 : Cond.methodLink RL 66 yX10_signOf ∈ GT := gt_in 617 (by decide +kernel) rfl
theorem ml_RL_69 : Cond.methodLink RL 69 yX10_decreeOf ∈ GT := gt_in 626 (by decide +kernel) rfl
theorem ml_RL_72 : Cond.methodLink RL 72 yX10_guildOf ∈ GT := gt_in 635 (by decide +kernel) rfl
theorem ml_RL_75 : Cond.methodLink RL 75 yX10_right ∈ GT := gt_in 651 (by decide +kernel) rfl
theorem ml_RL_78 : Cond.methodLink RL 78 yL_letters ∈ GT := gt_in 683 (by decide +kernel) rfl
theorem ml_RL_81 : Cond.methodLink RL 81 yX10_apart ∈ GT := gt_in 686 (by decide +kernel) rfl
theorem ml_RL_84 : Cond.methodLink RL 84 yX10_payable ∈ GT := gt_in 694 (by decide +kernel) rfl
theorem ml_RL_87 : Cond.methodLink RL 87 yX10_why ∈ GT := gt_in 706 (by decide +kernel) rfl
theorem ml_RL_90 : Cond.methodLink RL 90 yX10_droppable ∈ GT := gt_in 711 (by decide +kernel) rfl
theorem ml_RL_93 : Cond.methodLink RL 93 yL_undoes ∈ GT := gt_in 371 (by decide +kernel) rfl
theorem ml_RL_97 : Cond.methodLink RL 97 yX10_worthIn ∈ GT := gt_in 718 (by decide +kernel) rfl
theorem ml_RL_105 : Cond.methodLink RL 105 yL_act ∈ GT := gt_in 411 (by decide +kernel) rfl
theorem ml_RL_109 : Cond.methodLink RL 109 yL_areAlike ∈ GT := gt_in 610 (by decide +kernel) rfl
theorem ml_RL_113 : Cond.methodLink RL 113 yL_areSums ∈ GT := gt_in 648 (by decide +kernel) rfl
theorem ml_RL_117 : Cond.methodLink RL 117 yL_isWhySo ∈ GT := gt_in 703 (by decide +kernel) rfl
theorem ml_RL_121 : Cond.methodLink RL 121 yL_isWorthSo ∈ GT := gt_in 715 (by decide +kernel) rfl
theorem ml_RX0_15 : Cond.methodLink RX0 15 yX9_isLetter ∈ GT := gt_in 589 (by decide +kernel) rfl
theorem ml_RX0_25 : Cond.methodLink RX0 25 yX0_has ∈ GT := gt_in 470 (by decide +kernel) rfl
theorem ml_RX0_28 : Cond.methodLink RX0 28 yX0_areFull ∈ GT := gt_in 609 (by decide +kernel) rfl
theorem ml_RX0_32 : Cond.methodLink RX0 32 arraycopyName ∈ GT := gt_in 407 (by decide +kernel) rfl
theorem ml_RX0_38 : Cond.methodLink RX0 38 yX0_spellingWithout ∈ GT := gt_in 466 (by decide +kernel) rfl
theorem ml_RX0_42 : Cond.methodLink RX0 42 yX9_decreed ∈ GT := gt_in 474 (by decide +kernel) rfl
theorem ml_RX1_15 : Cond.methodLink RX1 15 yJ7_fill_53178 ∈ GT := gt_in 664 (by decide +kernel) rfl
theorem ml_RX1_21 : Cond.methodLink RX1 21 yX9_mirrored ∈ GT := gt_in 665 (by decide +kernel) rfl
theorem ml_RX1_27 : Cond.methodLink RX1 27 yX1_through ∈ GT := gt_in 666 (by decide +kernel) rfl
theorem ml_RX1_31 : Cond.methodLink RX1 31 yX1_joinedTo ∈ GT := gt_in 680 (by decide +kernel) rfl
theorem ml_RX1_35 : Cond.methodLink RX1 35 yX0_has ∈ GT := gt_in 670 (by decide +kernel) rfl
theorem ml_RX1_41 : Cond.methodLink RX1 41 yX1_pastDecree ∈ GT := gt_in 671 (by decide +kernel) rfl
theorem ml_RX1_45 : Cond.methodLink RX1 45 yX1_let ∈ GT := gt_in 675 (by decide +kernel) rfl
theorem ml_RX1_48 : Cond.methodLink RX1 48 yX0_number ∈ GT := gt_in 679 (by decide +kernel) rfl
theorem ml_RX10_96 : Cond.methodLink RX10 96 yX8_bringSign ∈ GT := gt_in 458 (by decide +kernel) rfl
theorem ml_RX10_100 : Cond.methodLink RX10 100 yX8_giveDecree ∈ GT := gt_in 595 (by decide +kernel) rfl
theorem ml_RX10_104 : Cond.methodLink RX10 104 yX8_takeDecree ∈ GT := gt_in 507 (by decide +kernel) rfl
theorem ml_RX10_108 : Cond.methodLink RX10 108 yX8_repaint ∈ GT := gt_in 532 (by decide +kernel) rfl
theorem ml_RX10_111 : Cond.methodLink RX10 111 yX8_passMonths ∈ GT := gt_in 545 (by decide +kernel) rfl
theorem ml_RX10_114 : Cond.methodLink RX10 114 yX8_forgive ∈ GT := gt_in 562 (by decide +kernel) rfl
theorem ml_RX10_119 : Cond.methodLink RX10 119 yX8_numberOfTown ∈ GT := gt_in 306 (by decide +kernel) rfl
theorem ml_RX10_122 : Cond.methodLink RX10 122 yX10_requireSign ∈ GT := gt_in 526 (by decide +kernel) rfl
theorem ml_RX10_127 : Cond.methodLink RX10 127 yX8_numberOfSign ∈ GT := gt_in 622 (by decide +kernel) rfl
theorem ml_RX10_130 : Cond.methodLink RX10 130 yX10_requireDecree ∈ GT := gt_in 501 (by decide +kernel) rfl
theorem ml_RX10_139 : Cond.methodLink RX10 139 yX0_number ∈ GT := gt_in 631 (by decide +kernel) rfl
theorem ml_RX10_143 : Cond.methodLink RX10 143 yX10_requireGuild ∈ GT := gt_in 426 (by decide +kernel) rfl
theorem ml_RX10_148 : Cond.methodLink RX10 148 yX8_numberOfGuild ∈ GT := gt_in 640 (by decide +kernel) rfl
theorem ml_RX10_153 : Cond.methodLink RX10 153 yX8_spelled ∈ GT := gt_in 656 (by decide +kernel) rfl
theorem ml_RX10_157 : Cond.methodLink RX10 157 yX10_requireSetting ∈ GT := gt_in 571 (by decide +kernel) rfl
theorem ml_RX10_164 : Cond.methodLink RX10 164 yX9_isWord ∈ GT := gt_in 445 (by decide +kernel) rfl
theorem ml_RX10_177 : Cond.methodLink RX10 177 yX2_remember ∈ GT := gt_in 454 (by decide +kernel) rfl
theorem ml_RX10_181 : Cond.methodLink RX10 181 yX8_counted ∈ GT := gt_in 493 (by decide +kernel) rfl
theorem ml_RX10_184 : Cond.methodLink RX10 184 yX10_requireDecreeArguments ∈ GT := gt_in 583 (by decide +kernel) rfl
theorem ml_RX10_188 : Cond.methodLink RX10 188 yX0_areFull ∈ GT := gt_in 590 (by decide +kernel) rfl
theorem ml_RX10_195 : Cond.methodLink RX10 195 yX8_canForgive ∈ GT := gt_in 557 (by decide +kernel) rfl
theorem ml_RX10_207 : Cond.methodLink RX10 207 yX2_takeBack ∈ GT := gt_in 395 (by decide +kernel) rfl
theorem ml_RX10_210 : Cond.methodLink RX10 210 yX8_reasonAgainstDecree ∈ GT := gt_in 710 (by decide +kernel) rfl
theorem ml_RX10_213 : Cond.methodLink RX10 213 yX8_spellingsApart ∈ GT := gt_in 690 (by decide +kernel) rfl
theorem ml_RX10_218 : Cond.methodLink RX10 218 yX8_signsPaidBy ∈ GT := gt_in 699 (by decide +kernel) rfl
theorem ml_RX10_221 : Cond.methodLink RX10 221 yX8_monthsTillFinesAreMore ∈ GT := gt_in 722 (by decide +kernel) rfl
theorem ml_RX10_278 : Cond.methodLink RX10 278 yX8_hasSign ∈ GT := gt_in 530 (by decide +kernel) rfl
theorem ml_RX10_286 : Cond.methodLink RX10 286 yX0_has ∈ GT := gt_in 505 (by decide +kernel) rfl
theorem ml_RX10_297 : Cond.methodLink RX10 297 yX0_canBe ∈ GT := gt_in 586 (by decide +kernel) rfl
theorem ml_RX2_32 : Cond.methodLink RX2 32 yX7_copyFrom ∈ GT := gt_in 399 (by decide +kernel) rfl
theorem ml_RX4_15 : Cond.methodLink RX4 15 yX9_letters ∈ GT := gt_in 356 (by decide +kernel) rfl
theorem ml_RX4_21 : Cond.methodLink RX4 21 yX4_lastOfNextRow ∈ GT := gt_in 357 (by decide +kernel) rfl
theorem ml_RX4_25 : Cond.methodLink RX4 25 Lib.Math.min.name ∈ GT := gt_in 361 (by decide +kernel) rfl
theorem ml_RX7_56 : Cond.methodLink RX7 56 yJ7_fill_53178 ∈ GT := gt_in 93 (by decide +kernel) rfl
theorem ml_RX7_74 : Cond.methodLink RX7 74 yX0_copyFrom ∈ GT := gt_in 403 (by decide +kernel) rfl
theorem ml_RX7_78 : Cond.methodLink RX7 78 arraycopyName ∈ GT := gt_in 410 (by decide +kernel) rfl
theorem ml_RX8_40 : Cond.methodLink RX8 40 yX8_hasSign ∈ GT := gt_in 314 (by decide +kernel) rfl
theorem ml_RX8_50 : Cond.methodLink RX8 50 yX4_measured ∈ GT := gt_in 352 (by decide +kernel) rfl
theorem ml_RX8_54 : Cond.methodLink RX8 54 yX8_lettersWrong ∈ GT := gt_in 348 (by decide +kernel) rfl
theorem ml_RX8_68 : Cond.methodLink RX8 68 yX1_spellingOf ∈ GT := gt_in 660 (by decide +kernel) rfl
theorem ml_RX8_72 : Cond.methodLink RX8 72 yX0_spellingOf ∈ GT := gt_in 462 (by decide +kernel) rfl
theorem ml_RX8_76 : Cond.methodLink RX8 76 yX8_reasonAgainstSign ∈ GT := gt_in 489 (by decide +kernel) rfl
theorem ml_RX8_88 : Cond.methodLink RX8 88 yX0_areFull ∈ GT := gt_in 599 (by decide +kernel) rfl
theorem ml_RX8_92 : Cond.methodLink RX8 92 yX8_reasonAgainstDecree ∈ GT := gt_in 600 (by decide +kernel) rfl
theorem ml_RX8_99 : Cond.methodLink RX8 99 yX0_add ∈ GT := gt_in 605 (by decide +kernel) rfl
theorem ml_RX8_103 : Cond.methodLink RX8 103 arraycopyName ∈ GT := gt_in 521 (by decide +kernel) rfl
theorem ml_RX8_109 : Cond.methodLink RX8 109 yX0_has ∈ GT := gt_in 511 (by decide +kernel) rfl
theorem ml_RX8_112 : Cond.methodLink RX8 112 yX0_spellingWithout ∈ GT := gt_in 512 (by decide +kernel) rfl
theorem ml_RX8_115 : Cond.methodLink RX8 115 yX8_reasonAgainstPlan ∈ GT := gt_in 513 (by decide +kernel) rfl
theorem ml_RX8_119 : Cond.methodLink RX8 119 yX0_remove ∈ GT := gt_in 517 (by decide +kernel) rfl
theorem ml_RX8_123 : Cond.methodLink RX8 123 yX9_decreed ∈ GT := gt_in 604 (by decide +kernel) rfl
theorem ml_RX8_132 : Cond.methodLink RX8 132 yX8_costOf ∈ GT := gt_in 344 (by decide +kernel) rfl
theorem ml_RX8_138 : Cond.methodLink RX8 138 yX8_charge ∈ GT := gt_in 536 (by decide +kernel) rfl
theorem ml_RX8_142 : Cond.methodLink RX8 142 yX8_allFines ∈ GT := gt_in 322 (by decide +kernel) rfl
theorem ml_RX8_148 : Cond.methodLink RX8 148 yX8_fineWrongSigns ∈ GT := gt_in 549 (by decide +kernel) rfl
theorem ml_RX8_151 : Cond.methodLink RX8 151 yX8_isWrong ∈ GT := gt_in 318 (by decide +kernel) rfl
theorem ml_RX8_160 : Cond.methodLink RX8 160 yX8_canForgive ∈ GT := gt_in 566 (by decide +kernel) rfl
theorem ml_RX8_163 : Cond.methodLink RX8 163 yX8_wrongSigns ∈ GT := gt_in 310 (by decide +kernel) rfl
theorem ml_RX8_166 : Cond.methodLink RX8 166 yX8_sum ∈ GT := gt_in 326 (by decide +kernel) rfl
theorem ml_RX8_170 : Cond.methodLink RX8 170 yX8_lettersOf ∈ GT := gt_in 329 (by decide +kernel) rfl
theorem ml_RX8_173 : Cond.methodLink RX8 173 yX9_letters ∈ GT := gt_in 333 (by decide +kernel) rfl
theorem ml_RX8_179 : Cond.methodLink RX8 179 yX8_lettersOfRights ∈ GT := gt_in 336 (by decide +kernel) rfl
theorem ml_RX8_182 : Cond.methodLink RX8 182 yX8_costOfAll ∈ GT := gt_in 340 (by decide +kernel) rfl
theorem ml_RX8_185 : Cond.methodLink RX8 185 yX8_signsOfGuild ∈ GT := gt_in 644 (by decide +kernel) rfl
theorem ml_RX9_10 : Cond.methodLink RX9 10 yX9_isLetter ∈ GT := gt_in 449 (by decide +kernel) rfl
theorem ml_RX9_16 : Cond.methodLink RX9 16 yX9_mirrored ∈ GT := gt_in 477 (by decide +kernel) rfl
theorem ml_RX9_20 : Cond.methodLink RX9 20 yX9_dropped ∈ GT := gt_in 480 (by decide +kernel) rfl
theorem ml_RX9_24 : Cond.methodLink RX9 24 yX9_joined ∈ GT := gt_in 483 (by decide +kernel) rfl
theorem ml_RX9_28 : Cond.methodLink RX9 28 yX9_single ∈ GT := gt_in 486 (by decide +kernel) rfl
set_option maxRecDepth 100000 in
theorem mi_Ar_fillI : MI yJ7_fill_53178 cJ7_fill_53178 4 none 2 := ⟨gt_in 95 (by rfl) rfl, gt_in 20 (by decide +kernel) rfl, by decide +kernel, by decide +kernel⟩
theorem ms_Ar_fillI : Cond.static yJ7_fill_53178 ∈ GT := gt_in 94 (by decide +kernel) rfl
set_option maxRecDepth 100000 in
theorem mi_La_act : MI yL_act cL_act 7 (some .int) 3 := ⟨gt_in 413 (by rfl) rfl, gt_in 14 (by decide +kernel) rfl, by decide +kernel, by decide +kernel⟩
theorem ms_La_act : Cond.static yL_act ∈ GT := gt_in 412 (by decide +kernel) rfl
set_option maxRecDepth 100000 in
theorem mi_La_areAlike : MI yL_areAlike cL_areAlike 4 (some .boolean) 2 := ⟨gt_in 612 (by rfl) rfl, gt_in 14 (by decide +kernel) rfl, by decide +kernel, by decide +kernel⟩
theorem ms_La_areAlike : Cond.static yL_areAlike ∈ GT := gt_in 611 (by decide +kernel) rfl
set_option maxRecDepth 100000 in
theorem mi_La_areSums : MI yL_areSums cL_areSums 15 (some .boolean) 1 := ⟨gt_in 650 (by rfl) rfl, gt_in 14 (by decide +kernel) rfl, by decide +kernel, by decide +kernel⟩
theorem ms_La_areSums : Cond.static yL_areSums ∈ GT := gt_in 649 (by decide +kernel) rfl
set_option maxRecDepth 100000 in
theorem mi_La_isWhySo : MI yL_isWhySo cL_isWhySo 12 (some .boolean) 4 := ⟨gt_in 705 (by rfl) rfl, gt_in 14 (by decide +kernel) rfl, by decide +kernel, by decide +kernel⟩
theorem ms_La_isWhySo : Cond.static yL_isWhySo ∈ GT := gt_in 704 (by decide +kernel) rfl
set_option maxRecDepth 100000 in
theorem mi_La_isWorthSo : MI yL_isWorthSo cL_isWorthSo 8 (some .boolean) 3 := ⟨gt_in 717 (by rfl) rfl, gt_in 14 (by decide +kernel) rfl, by decide +kernel, by decide +kernel⟩
theorem ms_La_isWorthSo : Cond.static yL_isWorthSo ∈ GT := gt_in 716 (by decide +kernel) rfl
set_option maxRecDepth 100000 in
theorem mi_La_letters : MI yL_letters cL_letters 3 (some .int) 1 := ⟨gt_in 685 (by rfl) rfl, gt_in 14 (by decide +kernel) rfl, by decide +kernel, by decide +kernel⟩
theorem ms_La_letters : Cond.static yL_letters ∈ GT := gt_in 684 (by decide +kernel) rfl
set_option maxRecDepth 100000 in
theorem mi_La_low : MI yL_low cL_low 2 (some .int) 2 := ⟨gt_in 369 (by rfl) rfl, gt_in 14 (by decide +kernel) rfl, by decide +kernel, by decide +kernel⟩
theorem ms_La_low : Cond.static yL_low ∈ GT := gt_in 368 (by decide +kernel) rfl
set_option maxRecDepth 100000 in
theorem mi_La_word : MI yL_word cL_word 4 (some .int) 1 := ⟨gt_in 416 (by rfl) rfl, gt_in 14 (by decide +kernel) rfl, by decide +kernel, by decide +kernel⟩
theorem ms_La_word : Cond.static yL_word ∈ GT := gt_in 415 (by decide +kernel) rfl
set_option maxRecDepth 100000 in
theorem mi_De_add : MI yX0_add cX0_add 7 none 5 := ⟨gt_in 608 (by rfl) rfl, gt_in 19 (by decide +kernel) rfl, by decide +kernel, by decide +kernel⟩
theorem mv_De_add : MV yX0_add := ⟨gt_in 606 (by decide +kernel) rfl, gt_in 607 (by decide +kernel) rfl⟩
set_option maxRecDepth 100000 in
theorem mi_De_areFull : MI yX0_areFull cX0_areFull 1 (some .boolean) 0 := ⟨gt_in 593 (by rfl) rfl, gt_in 19 (by decide +kernel) rfl, by decide +kernel, by decide +kernel⟩
theorem mv_De_areFull : MV yX0_areFull := ⟨gt_in 591 (by decide +kernel) rfl, gt_in 592 (by decide +kernel) rfl⟩
set_option maxRecDepth 100000 in
theorem mi_De_canBe : MI yX0_canBe cX0_canBe 4 (some .boolean) 4 := ⟨gt_in 588 (by rfl) rfl, gt_in 19 (by decide +kernel) rfl, by decide +kernel, by decide +kernel⟩
theorem ms_De_canBe : Cond.static yX0_canBe ∈ GT := gt_in 587 (by decide +kernel) rfl
set_option maxRecDepth 100000 in
theorem mi_De_copyFrom : MI yX0_copyFrom cX0_copyFrom 2 none 1 := ⟨gt_in 406 (by rfl) rfl, gt_in 19 (by decide +kernel) rfl, by decide +kernel, by decide +kernel⟩
theorem mv_De_copyFrom : MV yX0_copyFrom := ⟨gt_in 404 (by decide +kernel) rfl, gt_in 405 (by decide +kernel) rfl⟩
set_option maxRecDepth 100000 in
theorem mi_De_has : MI yX0_has cX0_has 2 (some .boolean) 1 := ⟨gt_in 473 (by rfl) rfl, gt_in 19 (by decide +kernel) rfl, by decide +kernel, by decide +kernel⟩
theorem mv_De_has : MV yX0_has := ⟨gt_in 471 (by decide +kernel) rfl, gt_in 472 (by decide +kernel) rfl⟩
set_option maxRecDepth 100000 in
theorem mi_De_number : MI yX0_number cX0_number 3 (some .int) 2 := ⟨gt_in 634 (by rfl) rfl, gt_in 19 (by decide +kernel) rfl, by decide +kernel, by decide +kernel⟩
theorem mv_De_number : MV yX0_number := ⟨gt_in 632 (by decide +kernel) rfl, gt_in 633 (by decide +kernel) rfl⟩
set_option maxRecDepth 100000 in
theorem mi_De_remove : MI yX0_remove cX0_remove 3 none 1 := ⟨gt_in 520 (by rfl) rfl, gt_in 19 (by decide +kernel) rfl, by decide +kernel, by decide +kernel⟩
theorem mv_De_remove : MV yX0_remove := ⟨gt_in 518 (by decide +kernel) rfl, gt_in 519 (by decide +kernel) rfl⟩
set_option maxRecDepth 100000 in
theorem mi_De_spellingOf : MI yX0_spellingOf cX0_spellingOf 2 (some .int) 1 := ⟨gt_in 465 (by rfl) rfl, gt_in 19 (by decide +kernel) rfl, by decide +kernel, by decide +kernel⟩
theorem mv_De_spellingOf : MV yX0_spellingOf := ⟨gt_in 463 (by decide +kernel) rfl, gt_in 464 (by decide +kernel) rfl⟩
set_option maxRecDepth 100000 in
theorem mi_De_spellingWithout : MI yX0_spellingWithout cX0_spellingWithout 6 (some .int) 2 := ⟨gt_in 469 (by rfl) rfl, gt_in 19 (by decide +kernel) rfl, by decide +kernel, by decide +kernel⟩
theorem mv_De_spellingWithout : MV yX0_spellingWithout := ⟨gt_in 467 (by decide +kernel) rfl, gt_in 468 (by decide +kernel) rfl⟩
set_option maxRecDepth 100000 in
theorem mi_SR_about : MI yX10_about cX10_about 2 (some .int) 1 := ⟨gt_in 237 (by rfl) rfl, gt_in 15 (by decide +kernel) rfl, by decide +kernel, by decide +kernel⟩
theorem mv_SR_about : MV yX10_about := ⟨gt_in 235 (by decide +kernel) rfl, gt_in 236 (by decide +kernel) rfl⟩
set_option maxRecDepth 100000 in
theorem mi_SR_amnesty : MI yX10_amnesty cX10_amnesty 2 (some .int) 1 := ⟨gt_in 556 (by rfl) rfl, gt_in 15 (by decide +kernel) rfl, by decide +kernel, by decide +kernel⟩
theorem mv_SR_amnesty : MV yX10_amnesty := ⟨gt_in 554 (by decide +kernel) rfl, gt_in 555 (by decide +kernel) rfl⟩
set_option maxRecDepth 100000 in
theorem mi_SR_apart : MI yX10_apart cX10_apart 3 (some .int) 2 := ⟨gt_in 689 (by rfl) rfl, gt_in 15 (by decide +kernel) rfl, by decide +kernel, by decide +kernel⟩
theorem mv_SR_apart : MV yX10_apart := ⟨gt_in 687 (by decide +kernel) rfl, gt_in 688 (by decide +kernel) rfl⟩
set_option maxRecDepth 100000 in
theorem mi_SR_decree : MI yX10_decree cX10_decree 5 (some .int) 4 := ⟨gt_in 582 (by rfl) rfl, gt_in 15 (by decide +kernel) rfl, by decide +kernel, by decide +kernel⟩
theorem mv_SR_decree : MV yX10_decree := ⟨gt_in 580 (by decide +kernel) rfl, gt_in 581 (by decide +kernel) rfl⟩
set_option maxRecDepth 100000 in
theorem mi_SR_decreeOf : MI yX10_decreeOf cX10_decreeOf 3 (some .int) 2 := ⟨gt_in 629 (by rfl) rfl, gt_in 15 (by decide +kernel) rfl, by decide +kernel, by decide +kernel⟩
theorem mv_SR_decreeOf : MV yX10_decreeOf := ⟨gt_in 627 (by decide +kernel) rfl, gt_in 628 (by decide +kernel) rfl⟩
set_option maxRecDepth 100000 in
theorem mi_SR_droppable : MI yX10_droppable cX10_droppable 3 (some .int) 0 := ⟨gt_in 714 (by rfl) rfl, gt_in 15 (by decide +kernel) rfl, by decide +kernel, by decide +kernel⟩
theorem mv_SR_droppable : MV yX10_droppable := ⟨gt_in 712 (by decide +kernel) rfl, gt_in 713 (by decide +kernel) rfl⟩
set_option maxRecDepth 100000 in
theorem mi_SR_guildOf : MI yX10_guildOf cX10_guildOf 3 (some .int) 2 := ⟨gt_in 638 (by rfl) rfl, gt_in 15 (by decide +kernel) rfl, by decide +kernel, by decide +kernel⟩
theorem mv_SR_guildOf : MV yX10_guildOf := ⟨gt_in 636 (by decide +kernel) rfl, gt_in 637 (by decide +kernel) rfl⟩
set_option maxRecDepth 100000 in
theorem mi_SR_months : MI yX10_months cX10_months 2 (some .int) 1 := ⟨gt_in 543 (by rfl) rfl, gt_in 15 (by decide +kernel) rfl, by decide +kernel, by decide +kernel⟩
theorem mv_SR_months : MV yX10_months := ⟨gt_in 541 (by decide +kernel) rfl, gt_in 542 (by decide +kernel) rfl⟩
set_option maxRecDepth 100000 in
theorem mi_SR_paint : MI yX10_paint cX10_paint 2 (some .int) 1 := ⟨gt_in 525 (by rfl) rfl, gt_in 15 (by decide +kernel) rfl, by decide +kernel, by decide +kernel⟩
theorem mv_SR_paint : MV yX10_paint := ⟨gt_in 523 (by decide +kernel) rfl, gt_in 524 (by decide +kernel) rfl⟩
set_option maxRecDepth 100000 in
theorem mi_SR_payable : MI yX10_payable cX10_payable 2 (some .int) 1 := ⟨gt_in 697 (by rfl) rfl, gt_in 15 (by decide +kernel) rfl, by decide +kernel, by decide +kernel⟩
theorem mv_SR_payable : MV yX10_payable := ⟨gt_in 695 (by decide +kernel) rfl, gt_in 696 (by decide +kernel) rfl⟩
set_option maxRecDepth 100000 in
theorem mi_SR_requireDecree : MI yX10_requireDecree cX10_requireDecree 2 none 1 := ⟨gt_in 504 (by rfl) rfl, gt_in 15 (by decide +kernel) rfl, by decide +kernel, by decide +kernel⟩
theorem mv_SR_requireDecree : MV yX10_requireDecree := ⟨gt_in 503 (by decide +kernel) rfl, gt_in 5 (by decide +kernel) rfl⟩
set_option maxRecDepth 100000 in
theorem mi_SR_requireDecreeArguments : MI yX10_requireDecreeArguments cX10_requireDecreeArguments 4 none 4 := ⟨gt_in 585 (by rfl) rfl, gt_in 15 (by decide +kernel) rfl, by decide +kernel, by decide +kernel⟩
theorem ms_SR_requireDecreeArguments : Cond.static yX10_requireDecreeArguments ∈ GT := gt_in 584 (by decide +kernel) rfl
set_option maxRecDepth 100000 in
theorem mi_SR_requireGuild : MI yX10_requireGuild cX10_requireGuild 1 none 1 := ⟨gt_in 428 (by rfl) rfl, gt_in 15 (by decide +kernel) rfl, by decide +kernel, by decide +kernel⟩
theorem ms_SR_requireGuild : Cond.static yX10_requireGuild ∈ GT := gt_in 427 (by decide +kernel) rfl
set_option maxRecDepth 100000 in
theorem mi_SR_requireSetting : MI yX10_requireSetting cX10_requireSetting 1 none 1 := ⟨gt_in 573 (by rfl) rfl, gt_in 15 (by decide +kernel) rfl, by decide +kernel, by decide +kernel⟩
theorem ms_SR_requireSetting : Cond.static yX10_requireSetting ∈ GT := gt_in 572 (by decide +kernel) rfl
set_option maxRecDepth 100000 in
theorem mi_SR_requireSign : MI yX10_requireSign cX10_requireSign 2 none 1 := ⟨gt_in 529 (by rfl) rfl, gt_in 15 (by decide +kernel) rfl, by decide +kernel, by decide +kernel⟩
theorem mv_SR_requireSign : MV yX10_requireSign := ⟨gt_in 528 (by decide +kernel) rfl, gt_in 7 (by decide +kernel) rfl⟩
set_option maxRecDepth 100000 in
theorem mi_SR_revoke : MI yX10_revoke cX10_revoke 2 (some .int) 1 := ⟨gt_in 500 (by rfl) rfl, gt_in 15 (by decide +kernel) rfl, by decide +kernel, by decide +kernel⟩
theorem mv_SR_revoke : MV yX10_revoke := ⟨gt_in 498 (by decide +kernel) rfl, gt_in 499 (by decide +kernel) rfl⟩
set_option maxRecDepth 100000 in
theorem mi_SR_right : MI yX10_right cX10_right 3 (some .int) 2 := ⟨gt_in 654 (by rfl) rfl, gt_in 15 (by decide +kernel) rfl, by decide +kernel, by decide +kernel⟩
theorem mv_SR_right : MV yX10_right := ⟨gt_in 652 (by decide +kernel) rfl, gt_in 653 (by decide +kernel) rfl⟩
set_option maxRecDepth 100000 in
theorem mi_SR_set : MI yX10_set cX10_set 4 (some .int) 2 := ⟨gt_in 570 (by rfl) rfl, gt_in 15 (by decide +kernel) rfl, by decide +kernel, by decide +kernel⟩
theorem mv_SR_set : MV yX10_set := ⟨gt_in 568 (by decide +kernel) rfl, gt_in 569 (by decide +kernel) rfl⟩
set_option maxRecDepth 100000 in
theorem mi_SR_setting : MI yX10_setting cX10_setting 2 (some .int) 1 := ⟨gt_in 616 (by rfl) rfl, gt_in 15 (by decide +kernel) rfl, by decide +kernel, by decide +kernel⟩
theorem mv_SR_setting : MV yX10_setting := ⟨gt_in 614 (by decide +kernel) rfl, gt_in 615 (by decide +kernel) rfl⟩
set_option maxRecDepth 100000 in
theorem mi_SR_sign : MI yX10_sign cX10_sign 3 (some .int) 2 := ⟨gt_in 425 (by rfl) rfl, gt_in 15 (by decide +kernel) rfl, by decide +kernel, by decide +kernel⟩
theorem mv_SR_sign : MV yX10_sign := ⟨gt_in 423 (by decide +kernel) rfl, gt_in 424 (by decide +kernel) rfl⟩
set_option maxRecDepth 100000 in
theorem mi_SR_signOf : MI yX10_signOf cX10_signOf 3 (some .int) 2 := ⟨gt_in 620 (by rfl) rfl, gt_in 15 (by decide +kernel) rfl, by decide +kernel, by decide +kernel⟩
theorem mv_SR_signOf : MV yX10_signOf := ⟨gt_in 618 (by decide +kernel) rfl, gt_in 619 (by decide +kernel) rfl⟩
set_option maxRecDepth 100000 in
theorem mi_SR_undo : MI yX10_undo cX10_undo 1 (some .int) 0 := ⟨gt_in 378 (by rfl) rfl, gt_in 15 (by decide +kernel) rfl, by decide +kernel, by decide +kernel⟩
theorem mv_SR_undo : MV yX10_undo := ⟨gt_in 376 (by decide +kernel) rfl, gt_in 377 (by decide +kernel) rfl⟩
set_option maxRecDepth 100000 in
theorem mi_SR_why : MI yX10_why cX10_why 5 (some .int) 4 := ⟨gt_in 709 (by rfl) rfl, gt_in 15 (by decide +kernel) rfl, by decide +kernel, by decide +kernel⟩
theorem mv_SR_why : MV yX10_why := ⟨gt_in 707 (by decide +kernel) rfl, gt_in 708 (by decide +kernel) rfl⟩
set_option maxRecDepth 100000 in
theorem mi_SR_worthIn : MI yX10_worthIn cX10_worthIn 2 (some .int) 1 := ⟨gt_in 721 (by rfl) rfl, gt_in 15 (by decide +kernel) rfl, by decide +kernel, by decide +kernel⟩
theorem mv_SR_worthIn : MV yX10_worthIn := ⟨gt_in 719 (by decide +kernel) rfl, gt_in 720 (by decide +kernel) rfl⟩
set_option maxRecDepth 100000 in
theorem mi_Fl_joinedTo : MI yX1_joinedTo cX1_joinedTo 5 (some .int) 2 := ⟨gt_in 682 (by rfl) rfl, gt_in 22 (by decide +kernel) rfl, by decide +kernel, by decide +kernel⟩
theorem ms_Fl_joinedTo : Cond.static yX1_joinedTo ∈ GT := gt_in 681 (by decide +kernel) rfl
set_option maxRecDepth 100000 in
theorem mi_Fl_let : MI yX1_let cX1_let 7 (some .int) 3 := ⟨gt_in 678 (by rfl) rfl, gt_in 22 (by decide +kernel) rfl, by decide +kernel, by decide +kernel⟩
theorem mv_Fl_let : MV yX1_let := ⟨gt_in 677 (by decide +kernel) rfl, gt_in 13 (by decide +kernel) rfl⟩
set_option maxRecDepth 100000 in
theorem mi_Fl_pastDecree : MI yX1_pastDecree cX1_pastDecree 7 (some .int) 3 := ⟨gt_in 674 (by rfl) rfl, gt_in 22 (by decide +kernel) rfl, by decide +kernel, by decide +kernel⟩
theorem mv_Fl_pastDecree : MV yX1_pastDecree := ⟨gt_in 673 (by decide +kernel) rfl, gt_in 12 (by decide +kernel) rfl⟩
set_option maxRecDepth 100000 in
theorem mi_Fl_spellingOf : MI yX1_spellingOf cX1_spellingOf 6 (some .int) 2 := ⟨gt_in 663 (by rfl) rfl, gt_in 22 (by decide +kernel) rfl, by decide +kernel, by decide +kernel⟩
theorem mv_Fl_spellingOf : MV yX1_spellingOf := ⟨gt_in 661 (by decide +kernel) rfl, gt_in 662 (by decide +kernel) rfl⟩
set_option maxRecDepth 100000 in
theorem mi_Fl_through : MI yX1_through cX1_through 6 (some .int) 3 := ⟨gt_in 669 (by rfl) rfl, gt_in 22 (by decide +kernel) rfl, by decide +kernel, by decide +kernel⟩
theorem mv_Fl_through : MV yX1_through := ⟨gt_in 668 (by decide +kernel) rfl, gt_in 11 (by decide +kernel) rfl⟩
set_option maxRecDepth 100000 in
theorem mi_Me_remember : MI yX2_remember cX2_remember 3 none 1 := ⟨gt_in 457 (by rfl) rfl, gt_in 23 (by decide +kernel) rfl, by decide +kernel, by decide +kernel⟩
theorem mv_Me_remember : MV yX2_remember := ⟨gt_in 455 (by decide +kernel) rfl, gt_in 456 (by decide +kernel) rfl⟩
set_option maxRecDepth 100000 in
theorem mi_Me_takeBack : MI yX2_takeBack cX2_takeBack 3 none 1 := ⟨gt_in 398 (by rfl) rfl, gt_in 23 (by decide +kernel) rfl, by decide +kernel, by decide +kernel⟩
theorem mv_Me_takeBack : MV yX2_takeBack := ⟨gt_in 396 (by decide +kernel) rfl, gt_in 397 (by decide +kernel) rfl⟩
set_option maxRecDepth 100000 in
theorem mi_Ru_lastOfNextRow : MI yX4_lastOfNextRow cX4_lastOfNextRow 8 (some .int) 2 := ⟨gt_in 360 (by rfl) rfl, gt_in 21 (by decide +kernel) rfl, by decide +kernel, by decide +kernel⟩
theorem mv_Ru_lastOfNextRow : MV yX4_lastOfNextRow := ⟨gt_in 359 (by decide +kernel) rfl, gt_in 3 (by decide +kernel) rfl⟩
set_option maxRecDepth 100000 in
theorem mi_Ru_measured : MI yX4_measured cX4_measured 6 (some .int) 2 := ⟨gt_in 355 (by rfl) rfl, gt_in 21 (by decide +kernel) rfl, by decide +kernel, by decide +kernel⟩
theorem mv_Ru_measured : MV yX4_measured := ⟨gt_in 353 (by decide +kernel) rfl, gt_in 354 (by decide +kernel) rfl⟩
set_option maxRecDepth 100000 in
theorem mi_St_copyFrom : MI yX7_copyFrom cX7_copyFrom 2 none 1 := ⟨gt_in 402 (by rfl) rfl, gt_in 18 (by decide +kernel) rfl, by decide +kernel, by decide +kernel⟩
theorem mv_St_copyFrom : MV yX7_copyFrom := ⟨gt_in 400 (by decide +kernel) rfl, gt_in 401 (by decide +kernel) rfl⟩
set_option maxRecDepth 100000 in
theorem mi_Tw_allFines : MI yX8_allFines cX8_allFines 1 (some .int) 0 := ⟨gt_in 325 (by rfl) rfl, gt_in 17 (by decide +kernel) rfl, by decide +kernel, by decide +kernel⟩
theorem mv_Tw_allFines : MV yX8_allFines := ⟨gt_in 323 (by decide +kernel) rfl, gt_in 324 (by decide +kernel) rfl⟩
set_option maxRecDepth 100000 in
theorem mi_Tw_bringSign : MI yX8_bringSign cX8_bringSign 6 (some .int) 2 := ⟨gt_in 461 (by rfl) rfl, gt_in 17 (by decide +kernel) rfl, by decide +kernel, by decide +kernel⟩
theorem mv_Tw_bringSign : MV yX8_bringSign := ⟨gt_in 459 (by decide +kernel) rfl, gt_in 460 (by decide +kernel) rfl⟩
set_option maxRecDepth 100000 in
theorem mi_Tw_canForgive : MI yX8_canForgive cX8_canForgive 1 (some .boolean) 0 := ⟨gt_in 560 (by rfl) rfl, gt_in 17 (by decide +kernel) rfl, by decide +kernel, by decide +kernel⟩
theorem mv_Tw_canForgive : MV yX8_canForgive := ⟨gt_in 558 (by decide +kernel) rfl, gt_in 559 (by decide +kernel) rfl⟩
set_option maxRecDepth 100000 in
theorem mi_Tw_charge : MI yX8_charge cX8_charge 5 none 3 := ⟨gt_in 539 (by rfl) rfl, gt_in 17 (by decide +kernel) rfl, by decide +kernel, by decide +kernel⟩
theorem mv_Tw_charge : MV yX8_charge := ⟨gt_in 538 (by decide +kernel) rfl, gt_in 8 (by decide +kernel) rfl⟩
set_option maxRecDepth 100000 in
theorem mi_Tw_costOf : MI yX8_costOf cX8_costOf 2 (some .int) 1 := ⟨gt_in 347 (by rfl) rfl, gt_in 17 (by decide +kernel) rfl, by decide +kernel, by decide +kernel⟩
theorem mv_Tw_costOf : MV yX8_costOf := ⟨gt_in 345 (by decide +kernel) rfl, gt_in 346 (by decide +kernel) rfl⟩
set_option maxRecDepth 100000 in
theorem mi_Tw_costOfAll : MI yX8_costOfAll cX8_costOfAll 3 (some .int) 0 := ⟨gt_in 343 (by rfl) rfl, gt_in 17 (by decide +kernel) rfl, by decide +kernel, by decide +kernel⟩
theorem mv_Tw_costOfAll : MV yX8_costOfAll := ⟨gt_in 342 (by decide +kernel) rfl, gt_in 2 (by decide +kernel) rfl⟩
set_option maxRecDepth 100000 in
theorem mi_Tw_counted : MI yX8_counted cX8_counted 2 (some .int) 1 := ⟨gt_in 496 (by rfl) rfl, gt_in 17 (by decide +kernel) rfl, by decide +kernel, by decide +kernel⟩
theorem mv_Tw_counted : MV yX8_counted := ⟨gt_in 494 (by decide +kernel) rfl, gt_in 495 (by decide +kernel) rfl⟩
set_option maxRecDepth 100000 in
theorem mi_Tw_fineWrongSigns : MI yX8_fineWrongSigns cX8_fineWrongSigns 3 none 0 := ⟨gt_in 552 (by rfl) rfl, gt_in 17 (by decide +kernel) rfl, by decide +kernel, by decide +kernel⟩
theorem mv_Tw_fineWrongSigns : MV yX8_fineWrongSigns := ⟨gt_in 551 (by decide +kernel) rfl, gt_in 9 (by decide +kernel) rfl⟩
set_option maxRecDepth 100000 in
theorem mi_Tw_forgive : MI yX8_forgive cX8_forgive 2 (some .int) 1 := ⟨gt_in 565 (by rfl) rfl, gt_in 17 (by decide +kernel) rfl, by decide +kernel, by decide +kernel⟩
theorem mv_Tw_forgive : MV yX8_forgive := ⟨gt_in 563 (by decide +kernel) rfl, gt_in 564 (by decide +kernel) rfl⟩
set_option maxRecDepth 100000 in
theorem mi_Tw_giveDecree : MI yX8_giveDecree cX8_giveDecree 6 (some .int) 4 := ⟨gt_in 598 (by rfl) rfl, gt_in 17 (by decide +kernel) rfl, by decide +kernel, by decide +kernel⟩
theorem mv_Tw_giveDecree : MV yX8_giveDecree := ⟨gt_in 596 (by decide +kernel) rfl, gt_in 597 (by decide +kernel) rfl⟩
set_option maxRecDepth 100000 in
theorem mi_Tw_hasSign : MI yX8_hasSign cX8_hasSign 2 (some .boolean) 1 := ⟨gt_in 317 (by rfl) rfl, gt_in 17 (by decide +kernel) rfl, by decide +kernel, by decide +kernel⟩
theorem mv_Tw_hasSign : MV yX8_hasSign := ⟨gt_in 315 (by decide +kernel) rfl, gt_in 316 (by decide +kernel) rfl⟩
set_option maxRecDepth 100000 in
theorem mi_Tw_isWrong : MI yX8_isWrong cX8_isWrong 2 (some .boolean) 1 := ⟨gt_in 321 (by rfl) rfl, gt_in 17 (by decide +kernel) rfl, by decide +kernel, by decide +kernel⟩
theorem mv_Tw_isWrong : MV yX8_isWrong := ⟨gt_in 319 (by decide +kernel) rfl, gt_in 320 (by decide +kernel) rfl⟩
set_option maxRecDepth 100000 in
theorem mi_Tw_lettersOf : MI yX8_lettersOf cX8_lettersOf 4 (some .int) 1 := ⟨gt_in 332 (by rfl) rfl, gt_in 17 (by decide +kernel) rfl, by decide +kernel, by decide +kernel⟩
theorem mv_Tw_lettersOf : MV yX8_lettersOf := ⟨gt_in 331 (by decide +kernel) rfl, gt_in 1 (by decide +kernel) rfl⟩
set_option maxRecDepth 100000 in
theorem mi_Tw_lettersOfRights : MI yX8_lettersOfRights cX8_lettersOfRights 1 (some .int) 0 := ⟨gt_in 339 (by rfl) rfl, gt_in 17 (by decide +kernel) rfl, by decide +kernel, by decide +kernel⟩
theorem mv_Tw_lettersOfRights : MV yX8_lettersOfRights := ⟨gt_in 337 (by decide +kernel) rfl, gt_in 338 (by decide +kernel) rfl⟩
set_option maxRecDepth 100000 in
theorem mi_Tw_lettersWrong : MI yX8_lettersWrong cX8_lettersWrong 2 (some .int) 1 := ⟨gt_in 351 (by rfl) rfl, gt_in 17 (by decide +kernel) rfl, by decide +kernel, by decide +kernel⟩
theorem mv_Tw_lettersWrong : MV yX8_lettersWrong := ⟨gt_in 349 (by decide +kernel) rfl, gt_in 350 (by decide +kernel) rfl⟩
set_option maxRecDepth 100000 in
theorem mi_Tw_monthsTillFinesAreMore : MI yX8_monthsTillFinesAreMore cX8_monthsTillFinesAreMore 5 (some .int) 1 := ⟨gt_in 725 (by rfl) rfl, gt_in 17 (by decide +kernel) rfl, by decide +kernel, by decide +kernel⟩
theorem mv_Tw_monthsTillFinesAreMore : MV yX8_monthsTillFinesAreMore := ⟨gt_in 723 (by decide +kernel) rfl, gt_in 724 (by decide +kernel) rfl⟩
set_option maxRecDepth 100000 in
theorem mi_Tw_numberOfGuild : MI yX8_numberOfGuild cX8_numberOfGuild 3 (some .int) 2 := ⟨gt_in 643 (by rfl) rfl, gt_in 17 (by decide +kernel) rfl, by decide +kernel, by decide +kernel⟩
theorem mv_Tw_numberOfGuild : MV yX8_numberOfGuild := ⟨gt_in 641 (by decide +kernel) rfl, gt_in 642 (by decide +kernel) rfl⟩
set_option maxRecDepth 100000 in
theorem mi_Tw_numberOfSign : MI yX8_numberOfSign cX8_numberOfSign 3 (some .int) 2 := ⟨gt_in 625 (by rfl) rfl, gt_in 17 (by decide +kernel) rfl, by decide +kernel, by decide +kernel⟩
theorem mv_Tw_numberOfSign : MV yX8_numberOfSign := ⟨gt_in 623 (by decide +kernel) rfl, gt_in 624 (by decide +kernel) rfl⟩
set_option maxRecDepth 100000 in
theorem mi_Tw_numberOfTown : MI yX8_numberOfTown cX8_numberOfTown 2 (some .int) 1 := ⟨gt_in 309 (by rfl) rfl, gt_in 17 (by decide +kernel) rfl, by decide +kernel, by decide +kernel⟩
theorem mv_Tw_numberOfTown : MV yX8_numberOfTown := ⟨gt_in 307 (by decide +kernel) rfl, gt_in 308 (by decide +kernel) rfl⟩
set_option maxRecDepth 100000 in
theorem mi_Tw_passMonths : MI yX8_passMonths cX8_passMonths 4 (some .int) 1 := ⟨gt_in 548 (by rfl) rfl, gt_in 17 (by decide +kernel) rfl, by decide +kernel, by decide +kernel⟩
theorem mv_Tw_passMonths : MV yX8_passMonths := ⟨gt_in 546 (by decide +kernel) rfl, gt_in 547 (by decide +kernel) rfl⟩
set_option maxRecDepth 100000 in
theorem mi_Tw_reasonAgainstDecree : MI yX8_reasonAgainstDecree cX8_reasonAgainstDecree 6 (some .int) 4 := ⟨gt_in 603 (by rfl) rfl, gt_in 17 (by decide +kernel) rfl, by decide +kernel, by decide +kernel⟩
theorem mv_Tw_reasonAgainstDecree : MV yX8_reasonAgainstDecree := ⟨gt_in 601 (by decide +kernel) rfl, gt_in 602 (by decide +kernel) rfl⟩
set_option maxRecDepth 100000 in
theorem mi_Tw_reasonAgainstPlan : MI yX8_reasonAgainstPlan cX8_reasonAgainstPlan 3 (some .int) 0 := ⟨gt_in 516 (by rfl) rfl, gt_in 17 (by decide +kernel) rfl, by decide +kernel, by decide +kernel⟩
theorem mv_Tw_reasonAgainstPlan : MV yX8_reasonAgainstPlan := ⟨gt_in 515 (by decide +kernel) rfl, gt_in 6 (by decide +kernel) rfl⟩
set_option maxRecDepth 100000 in
theorem mi_Tw_reasonAgainstSign : MI yX8_reasonAgainstSign cX8_reasonAgainstSign 4 (some .int) 2 := ⟨gt_in 492 (by rfl) rfl, gt_in 17 (by decide +kernel) rfl, by decide +kernel, by decide +kernel⟩
theorem mv_Tw_reasonAgainstSign : MV yX8_reasonAgainstSign := ⟨gt_in 491 (by decide +kernel) rfl, gt_in 4 (by decide +kernel) rfl⟩
set_option maxRecDepth 100000 in
theorem mi_Tw_repaint : MI yX8_repaint cX8_repaint 3 (some .int) 1 := ⟨gt_in 535 (by rfl) rfl, gt_in 17 (by decide +kernel) rfl, by decide +kernel, by decide +kernel⟩
theorem mv_Tw_repaint : MV yX8_repaint := ⟨gt_in 533 (by decide +kernel) rfl, gt_in 534 (by decide +kernel) rfl⟩
set_option maxRecDepth 100000 in
theorem mi_Tw_signsOfGuild : MI yX8_signsOfGuild cX8_signsOfGuild 5 (some .int) 2 := ⟨gt_in 647 (by rfl) rfl, gt_in 17 (by decide +kernel) rfl, by decide +kernel, by decide +kernel⟩
theorem mv_Tw_signsOfGuild : MV yX8_signsOfGuild := ⟨gt_in 646 (by decide +kernel) rfl, gt_in 10 (by decide +kernel) rfl⟩
set_option maxRecDepth 100000 in
theorem mi_Tw_signsPaidBy : MI yX8_signsPaidBy cX8_signsPaidBy 7 (some .int) 1 := ⟨gt_in 702 (by rfl) rfl, gt_in 17 (by decide +kernel) rfl, by decide +kernel, by decide +kernel⟩
theorem mv_Tw_signsPaidBy : MV yX8_signsPaidBy := ⟨gt_in 700 (by decide +kernel) rfl, gt_in 701 (by decide +kernel) rfl⟩
set_option maxRecDepth 100000 in
theorem mi_Tw_spelled : MI yX8_spelled cX8_spelled 4 (some .int) 2 := ⟨gt_in 659 (by rfl) rfl, gt_in 17 (by decide +kernel) rfl, by decide +kernel, by decide +kernel⟩
theorem mv_Tw_spelled : MV yX8_spelled := ⟨gt_in 657 (by decide +kernel) rfl, gt_in 658 (by decide +kernel) rfl⟩
set_option maxRecDepth 100000 in
theorem mi_Tw_spellingsApart : MI yX8_spellingsApart cX8_spellingsApart 3 (some .int) 2 := ⟨gt_in 693 (by rfl) rfl, gt_in 17 (by decide +kernel) rfl, by decide +kernel, by decide +kernel⟩
theorem mv_Tw_spellingsApart : MV yX8_spellingsApart := ⟨gt_in 691 (by decide +kernel) rfl, gt_in 692 (by decide +kernel) rfl⟩
set_option maxRecDepth 100000 in
theorem mi_Tw_sum : MI yX8_sum cX8_sum 6 (some .int) 1 := ⟨gt_in 328 (by rfl) rfl, gt_in 17 (by decide +kernel) rfl, by decide +kernel, by decide +kernel⟩
theorem ms_Tw_sum : Cond.static yX8_sum ∈ GT := gt_in 327 (by decide +kernel) rfl
set_option maxRecDepth 100000 in
theorem mi_Tw_takeDecree : MI yX8_takeDecree cX8_takeDecree 3 (some .int) 1 := ⟨gt_in 510 (by rfl) rfl, gt_in 17 (by decide +kernel) rfl, by decide +kernel, by decide +kernel⟩
theorem mv_Tw_takeDecree : MV yX8_takeDecree := ⟨gt_in 508 (by decide +kernel) rfl, gt_in 509 (by decide +kernel) rfl⟩
set_option maxRecDepth 100000 in
theorem mi_Tw_wrongSigns : MI yX8_wrongSigns cX8_wrongSigns 3 (some .int) 0 := ⟨gt_in 313 (by rfl) rfl, gt_in 17 (by decide +kernel) rfl, by decide +kernel, by decide +kernel⟩
theorem mv_Tw_wrongSigns : MV yX8_wrongSigns := ⟨gt_in 311 (by decide +kernel) rfl, gt_in 312 (by decide +kernel) rfl⟩
set_option maxRecDepth 100000 in
theorem mi_Wo_decreed : MI yX9_decreed cX9_decreed 6 (some .int) 5 := ⟨gt_in 476 (by rfl) rfl, gt_in 28 (by decide +kernel) rfl, by decide +kernel, by decide +kernel⟩
theorem ms_Wo_decreed : Cond.static yX9_decreed ∈ GT := gt_in 475 (by decide +kernel) rfl
set_option maxRecDepth 100000 in
theorem mi_Wo_dropped : MI yX9_dropped cX9_dropped 6 (some .int) 2 := ⟨gt_in 482 (by rfl) rfl, gt_in 28 (by decide +kernel) rfl, by decide +kernel, by decide +kernel⟩
theorem ms_Wo_dropped : Cond.static yX9_dropped ∈ GT := gt_in 481 (by decide +kernel) rfl
set_option maxRecDepth 100000 in
theorem mi_Wo_isLetter : MI yX9_isLetter cX9_isLetter 1 (some .boolean) 1 := ⟨gt_in 451 (by rfl) rfl, gt_in 28 (by decide +kernel) rfl, by decide +kernel, by decide +kernel⟩
theorem ms_Wo_isLetter : Cond.static yX9_isLetter ∈ GT := gt_in 450 (by decide +kernel) rfl
set_option maxRecDepth 100000 in
theorem mi_Wo_isWord : MI yX9_isWord cX9_isWord 3 (some .boolean) 1 := ⟨gt_in 447 (by rfl) rfl, gt_in 28 (by decide +kernel) rfl, by decide +kernel, by decide +kernel⟩
theorem ms_Wo_isWord : Cond.static yX9_isWord ∈ GT := gt_in 446 (by decide +kernel) rfl
set_option maxRecDepth 100000 in
theorem mi_Wo_joined : MI yX9_joined cX9_joined 8 (some .int) 4 := ⟨gt_in 485 (by rfl) rfl, gt_in 28 (by decide +kernel) rfl, by decide +kernel, by decide +kernel⟩
theorem ms_Wo_joined : Cond.static yX9_joined ∈ GT := gt_in 484 (by decide +kernel) rfl
set_option maxRecDepth 100000 in
theorem mi_Wo_letters : MI yX9_letters cX9_letters 4 (some .int) 1 := ⟨gt_in 335 (by rfl) rfl, gt_in 28 (by decide +kernel) rfl, by decide +kernel, by decide +kernel⟩
theorem ms_Wo_letters : Cond.static yX9_letters ∈ GT := gt_in 334 (by decide +kernel) rfl
set_option maxRecDepth 100000 in
theorem mi_Wo_mirrored : MI yX9_mirrored cX9_mirrored 4 (some .int) 1 := ⟨gt_in 479 (by rfl) rfl, gt_in 28 (by decide +kernel) rfl, by decide +kernel, by decide +kernel⟩
theorem ms_Wo_mirrored : Cond.static yX9_mirrored ∈ GT := gt_in 478 (by decide +kernel) rfl
set_option maxRecDepth 100000 in
theorem mi_Wo_single : MI yX9_single cX9_single 7 (some .int) 2 := ⟨gt_in 488 (by rfl) rfl, gt_in 28 (by decide +kernel) rfl, by decide +kernel, by decide +kernel⟩
theorem ms_Wo_single : Cond.static yX9_single ∈ GT := gt_in 487 (by decide +kernel) rfl
theorem ts_RX10_33_37 : tsW RX10 33 37 "java/lang/IllegalArgumentException" ["java/lang/RuntimeException", "java/lang/Exception"] = true := by decide +kernel
theorem ts_RX10_44_48 : tsW RX10 44 48 "java/lang/IllegalStateException" ["java/lang/RuntimeException", "java/lang/Exception"] = true := by decide +kernel
theorem ts_RX10_281_285 : tsW RX10 281 285 "java/lang/IndexOutOfBoundsException" ["java/lang/RuntimeException", "java/lang/Exception"] = true := by decide +kernel
theorem sr_RX10_117 : Cond.stringRef RX10 117 "no such number of the reform" ∈ lw_tbl := List.mem_of_getElem? (i := 279) (by decide +kernel)
theorem sr_RX10_125 : Cond.stringRef RX10 125 "no such number of a sign" ∈ lw_tbl := List.mem_of_getElem? (i := 621) (by decide +kernel)
theorem sr_RX10_133 : Cond.stringRef RX10 133 "no such number of a decree" ∈ lw_tbl := List.mem_of_getElem? (i := 630) (by decide +kernel)
theorem sr_RX10_146 : Cond.stringRef RX10 146 "no such number of a guild" ∈ lw_tbl := List.mem_of_getElem? (i := 639) (by decide +kernel)
theorem sr_RX10_151 : Cond.stringRef RX10 151 "no such way" ∈ lw_tbl := List.mem_of_getElem? (i := 655) (by decide +kernel)
theorem sr_RX10_170 : Cond.stringRef RX10 170 "no word" ∈ lw_tbl := List.mem_of_getElem? (i := 452) (by decide +kernel)
theorem sr_RX10_175 : Cond.stringRef RX10 175 "there are 8 signs" ∈ lw_tbl := List.mem_of_getElem? (i := 453) (by decide +kernel)
theorem sr_RX10_191 : Cond.stringRef RX10 191 "10 decrees are in force" ∈ lw_tbl := List.mem_of_getElem? (i := 594) (by decide +kernel)
theorem sr_RX10_193 : Cond.stringRef RX10 193 "no such number of months" ∈ lw_tbl := List.mem_of_getElem? (i := 544) (by decide +kernel)
theorem sr_RX10_198 : Cond.stringRef RX10 198 "no amnesty can be given yet" ∈ lw_tbl := List.mem_of_getElem? (i := 561) (by decide +kernel)
theorem sr_RX10_200 : Cond.stringRef RX10 200 "no value of a setting" ∈ lw_tbl := List.mem_of_getElem? (i := 575) (by decide +kernel)
theorem sr_RX10_205 : Cond.stringRef RX10 205 "no state is remembered" ∈ lw_tbl := List.mem_of_getElem? (i := 388) (by decide +kernel)
theorem sr_RX10_216 : Cond.stringRef RX10 216 "no such purse" ∈ lw_tbl := List.mem_of_getElem? (i := 698) (by decide +kernel)
theorem sr_RX10_283 : Cond.stringRef RX10 283 "no such sign" ∈ lw_tbl := List.mem_of_getElem? (i := 531) (by decide +kernel)
theorem sr_RX10_289 : Cond.stringRef RX10 289 "no such decree" ∈ lw_tbl := List.mem_of_getElem? (i := 506) (by decide +kernel)
theorem sr_RX10_291 : Cond.stringRef RX10 291 "no such guild" ∈ lw_tbl := List.mem_of_getElem? (i := 438) (by decide +kernel)
theorem sr_RX10_295 : Cond.stringRef RX10 295 "no such setting" ∈ lw_tbl := List.mem_of_getElem? (i := 574) (by decide +kernel)
theorem mathmin : Cond.static Lib.Math.min.name ∈ GT ∧ Cond.initialized "java/lang/Math" ∈ GT ∧ Cond.code Lib.Math.min.name Lib.Math.min.code 2 (some .int) ∈ GT := ⟨gt_in 362 (by decide +kernel) rfl, gt_in 32 (by decide +kernel) rfl, gt_in 363 (by decide +kernel) rfl⟩
theorem syscopy : Cond.native arraycopyName ∈ GT ∧ Cond.static arraycopyName ∈ GT ∧ Cond.initialized "java/lang/System" ∈ GT := ⟨gt_in 409 (by decide +kernel) rfl, gt_in 408 (by decide +kernel) rfl, gt_in 31 (by decide +kernel) rfl⟩
theorem cl_L_30 : Cond.classLink RL 30 "java/lang/IndexOutOfBoundsException" ∈ GT := gt_in 420 (by decide +kernel) rfl
theorem cl_L_32 : Cond.classLink RL 32 "java/lang/IllegalArgumentException" ∈ GT := gt_in 421 (by decide +kernel) rfl
theorem cl_L_34 : Cond.classLink RL 34 "java/lang/IllegalStateException" ∈ GT := gt_in 374 (by decide +kernel) rfl
theorem ca_A : Cond.castable "java/lang/IllegalArgumentException" "java/lang/IllegalArgumentException" ∈ lw_tbl ∧ nwWord (Cond.castable "java/lang/IllegalArgumentException" "java/lang/IllegalArgumentException") = true := ⟨List.mem_of_getElem? (i := 240) (by decide +kernel), by decide +kernel⟩
theorem ca_S : Cond.castable "java/lang/IllegalStateException" "java/lang/IllegalStateException" ∈ lw_tbl ∧ nwWord (Cond.castable "java/lang/IllegalStateException" "java/lang/IllegalStateException") = true := ⟨List.mem_of_getElem? (i := 381) (by decide +kernel), by decide +kernel⟩
theorem ca_I : Cond.castable "java/lang/IndexOutOfBoundsException" "java/lang/IndexOutOfBoundsException" ∈ lw_tbl ∧ nwWord (Cond.castable "java/lang/IndexOutOfBoundsException" "java/lang/IndexOutOfBoundsException") = true := ⟨List.mem_of_getElem? (i := 431) (by decide +kernel), by decide +kernel⟩
