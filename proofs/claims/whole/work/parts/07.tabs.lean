set_option maxRecDepth 20000 in
theorem ci_0 : CI 0 RX0 TX0 2 := ⟨rfl, rfl, by decide +kernel, by decide +kernel, by decide +kernel⟩
set_option maxRecDepth 20000 in
theorem ci_1 : CI 1 RX1 TX1 7 := ⟨rfl, rfl, by decide +kernel, by decide +kernel, by decide +kernel⟩
set_option maxRecDepth 20000 in
theorem ci_2 : CI 2 RX2 TX2 9 := ⟨rfl, rfl, by decide +kernel, by decide +kernel, by decide +kernel⟩
set_option maxRecDepth 20000 in
theorem ci_3 : CI 3 RX3 TX3 12 := ⟨rfl, rfl, by decide +kernel, by decide +kernel, by decide +kernel⟩
set_option maxRecDepth 20000 in
theorem ci_4 : CI 4 RX4 TX4 5 := ⟨rfl, rfl, by decide +kernel, by decide +kernel, by decide +kernel⟩
set_option maxRecDepth 20000 in
theorem ci_5 : CI 5 RX5 TX5 6 := ⟨rfl, rfl, by decide +kernel, by decide +kernel, by decide +kernel⟩
set_option maxRecDepth 20000 in
theorem ci_6 : CI 6 RX6 TX6 12 := ⟨rfl, rfl, by decide +kernel, by decide +kernel, by decide +kernel⟩
set_option maxRecDepth 20000 in
theorem ci_7 : CI 7 RX7 TX7 12 := ⟨rfl, rfl, by decide +kernel, by decide +kernel, by decide +kernel⟩
set_option maxRecDepth 20000 in
theorem ci_8 : CI 8 RX8 TX8 7 := ⟨rfl, rfl, by decide +kernel, by decide +kernel, by decide +kernel⟩
set_option maxRecDepth 20000 in
theorem ci_9 : CI 9 RX9 TX9 9 := ⟨rfl, rfl, by decide +kernel, by decide +kernel, by decide +kernel⟩
set_option maxRecDepth 20000 in
theorem ci_10 : CI 10 RX10 TX10 3 := ⟨rfl, rfl, by decide +kernel, by decide +kernel, by decide +kernel⟩
set_option maxRecDepth 20000 in
theorem ci_11 : CI 11 RX11 TX11 10 := ⟨rfl, rfl, by decide +kernel, by decide +kernel, by decide +kernel⟩
set_option maxRecDepth 20000 in
theorem ci_12 : CI 12 RX12 TX12 30 := ⟨rfl, rfl, by decide +kernel, by decide +kernel, by decide +kernel⟩
set_option maxRecDepth 100000 in
theorem ff_X0_9 : FF RX0 9 0 0 := ⟨RX0, TX0, 2, ci_0, by decide, gt_mem 338 (by rfl) (by rfl), rfl, rfl⟩
set_option maxRecDepth 100000 in
theorem fp_X0_15 : FP RX0 15 0 1 := ⟨RX0, TX0, 2, ci_0, by decide, gt_mem 339 (by rfl) (by rfl), rfl⟩
set_option maxRecDepth 100000 in
theorem fl_X0_15 : FL RX0 15 0 1 := ⟨RX0, TX0, 2, ci_0, by decide, gt_mem 339 (by rfl) (by rfl)⟩
set_option maxRecDepth 100000 in
theorem fl_X0_9 : FL RX0 9 0 0 := ⟨RX0, TX0, 2, ci_0, by decide, gt_mem 338 (by rfl) (by rfl)⟩
set_option maxRecDepth 100000 in
theorem ff_X1_9 : FF RX1 9 1 2 := ⟨RX1, TX1, 7, ci_1, by decide, gt_mem 376 (by rfl) (by rfl), rfl, rfl⟩
set_option maxRecDepth 100000 in
theorem ff_X1_15 : FF RX1 15 1 3 := ⟨RX1, TX1, 7, ci_1, by decide, gt_mem 377 (by rfl) (by rfl), rfl, rfl⟩
set_option maxRecDepth 100000 in
theorem ff_X1_18 : FF RX1 18 1 4 := ⟨RX1, TX1, 7, ci_1, by decide, gt_mem 378 (by rfl) (by rfl), rfl, rfl⟩
set_option maxRecDepth 100000 in
theorem ff_X1_24 : FF RX1 24 1 6 := ⟨RX1, TX1, 7, ci_1, by decide, gt_mem 380 (by rfl) (by rfl), rfl, rfl⟩
set_option maxRecDepth 100000 in
theorem fp_X1_28 : FP RX1 28 1 5 := ⟨RX1, TX1, 7, ci_1, by decide, gt_mem 379 (by rfl) (by rfl), rfl⟩
set_option maxRecDepth 100000 in
theorem fl_X1_28 : FL RX1 28 1 5 := ⟨RX1, TX1, 7, ci_1, by decide, gt_mem 379 (by rfl) (by rfl)⟩
set_option maxRecDepth 100000 in
theorem fl_X1_24 : FL RX1 24 1 6 := ⟨RX1, TX1, 7, ci_1, by decide, gt_mem 380 (by rfl) (by rfl)⟩
set_option maxRecDepth 100000 in
theorem fl_X1_32 : FL RX1 32 8 4 := ⟨RX8, TX8, 7, ci_8, by decide, gt_mem 258 (by rfl) (by rfl)⟩
set_option maxRecDepth 100000 in
theorem mv_X1_37 : MV RX1 37 yX8_gather cX8_gather 7 none 5 := ⟨gt_mem 828 (by rfl) (by rfl), gt_mem 721 (by rfl) (by rfl), gt_mem 722 (by rfl) (by rfl), gt_mem 62 (by rfl) (by rfl), gt_mem 723 (by rfl) (by rfl), ⟨by decide +kernel, by decide +kernel, by decide +kernel⟩⟩
set_option maxRecDepth 100000 in
theorem fl_X1_41 : FL RX1 41 0 1 := ⟨RX0, TX0, 2, ci_0, by decide, gt_mem 341 (by rfl) (by rfl)⟩
set_option maxRecDepth 100000 in
theorem fl_X1_9 : FL RX1 9 1 2 := ⟨RX1, TX1, 7, ci_1, by decide, gt_mem 376 (by rfl) (by rfl)⟩
set_option maxRecDepth 100000 in
theorem fl_X1_15 : FL RX1 15 1 3 := ⟨RX1, TX1, 7, ci_1, by decide, gt_mem 377 (by rfl) (by rfl)⟩
set_option maxRecDepth 100000 in
theorem mv_X1_42 : MV RX1 42 yX0_middle cX0_middle 1 (some .int) 0 := ⟨gt_mem 829 (by rfl) (by rfl), gt_mem 746 (by rfl) (by rfl), gt_mem 747 (by rfl) (by rfl), gt_mem 68 (by rfl) (by rfl), gt_mem 748 (by rfl) (by rfl), ⟨by decide +kernel, by decide +kernel, by decide +kernel⟩⟩
set_option maxRecDepth 100000 in
theorem fl_X1_18 : FL RX1 18 1 4 := ⟨RX1, TX1, 7, ci_1, by decide, gt_mem 378 (by rfl) (by rfl)⟩
set_option maxRecDepth 100000 in
theorem mv_X1_46 : MV RX1 46 yX1_farness cX1_farness 5 (some .int) 2 := ⟨gt_mem 834 (by rfl) (by rfl), gt_mem 836 (by rfl) (by rfl), gt_mem 12 (by rfl) (by rfl), gt_mem 70 (by rfl) (by rfl), gt_mem 837 (by rfl) (by rfl), ⟨by decide +kernel, by decide +kernel, by decide +kernel⟩⟩
set_option maxRecDepth 100000 in
theorem fl_X1_50 : FL RX1 50 1 1 := ⟨RX1, TX1, 7, ci_1, by decide, gt_mem 374 (by rfl) (by rfl)⟩
set_option maxRecDepth 100000 in
theorem fp_X1_50 : FP RX1 50 1 1 := ⟨RX1, TX1, 7, ci_1, by decide, gt_mem 374 (by rfl) (by rfl), rfl⟩
set_option maxRecDepth 100000 in
theorem fp_X1_53 : FP RX1 53 1 0 := ⟨RX1, TX1, 7, ci_1, by decide, gt_mem 372 (by rfl) (by rfl), rfl⟩
set_option maxRecDepth 100000 in
theorem mv_X1_56 : MV RX1 56 yX0_clear cX0_clear 1 none 0 := ⟨gt_mem 838 (by rfl) (by rfl), gt_mem 725 (by rfl) (by rfl), gt_mem 726 (by rfl) (by rfl), gt_mem 68 (by rfl) (by rfl), gt_mem 727 (by rfl) (by rfl), ⟨by decide +kernel, by decide +kernel, by decide +kernel⟩⟩
set_option maxRecDepth 100000 in
theorem mv_X1_59 : MV RX1 59 yX0_add cX0_add 3 none 1 := ⟨gt_mem 839 (by rfl) (by rfl), gt_mem 734 (by rfl) (by rfl), gt_mem 735 (by rfl) (by rfl), gt_mem 68 (by rfl) (by rfl), gt_mem 736 (by rfl) (by rfl), ⟨by decide +kernel, by decide +kernel, by decide +kernel⟩⟩
set_option maxRecDepth 100000 in
theorem ms_X1_63 : MS RX1 63 yJ9_abs_0f7a4 cJ9_abs_0f7a4 1 (some .int) 1 := ⟨gt_mem 840 (by rfl) (by rfl), gt_mem 817 (by rfl) (by rfl), gt_mem 76 (by rfl) (by rfl), gt_mem 818 (by rfl) (by rfl), ⟨by decide +kernel, by decide +kernel, by decide +kernel⟩⟩
set_option maxRecDepth 100000 in
theorem ff_X2_9 : FF RX2 9 2 0 := ⟨RX2, TX2, 9, ci_2, by decide, gt_mem 437 (by rfl) (by rfl), rfl, rfl⟩
set_option maxRecDepth 100000 in
theorem ff_X2_15 : FF RX2 15 2 2 := ⟨RX2, TX2, 9, ci_2, by decide, gt_mem 441 (by rfl) (by rfl), rfl, rfl⟩
set_option maxRecDepth 100000 in
theorem ff_X2_18 : FF RX2 18 2 3 := ⟨RX2, TX2, 9, ci_2, by decide, gt_mem 442 (by rfl) (by rfl), rfl, rfl⟩
set_option maxRecDepth 100000 in
theorem ff_X2_21 : FF RX2 21 2 4 := ⟨RX2, TX2, 9, ci_2, by decide, gt_mem 443 (by rfl) (by rfl), rfl, rfl⟩
set_option maxRecDepth 100000 in
theorem ff_X2_24 : FF RX2 24 2 5 := ⟨RX2, TX2, 9, ci_2, by decide, gt_mem 444 (by rfl) (by rfl), rfl, rfl⟩
set_option maxRecDepth 100000 in
theorem ff_X2_27 : FF RX2 27 2 6 := ⟨RX2, TX2, 9, ci_2, by decide, gt_mem 445 (by rfl) (by rfl), rfl, rfl⟩
set_option maxRecDepth 100000 in
theorem ff_X2_30 : FF RX2 30 2 7 := ⟨RX2, TX2, 9, ci_2, by decide, gt_mem 446 (by rfl) (by rfl), rfl, rfl⟩
set_option maxRecDepth 100000 in
theorem fl_X2_15 : FL RX2 15 2 2 := ⟨RX2, TX2, 9, ci_2, by decide, gt_mem 441 (by rfl) (by rfl)⟩
set_option maxRecDepth 100000 in
theorem mv_X2_33 : MV RX2 33 yX2_gatherRuns cX2_gatherRuns 4 none 2 := ⟨gt_mem 902 (by rfl) (by rfl), gt_mem 904 (by rfl) (by rfl), gt_mem 15 (by rfl) (by rfl), gt_mem 72 (by rfl) (by rfl), gt_mem 905 (by rfl) (by rfl), ⟨by decide +kernel, by decide +kernel, by decide +kernel⟩⟩
set_option maxRecDepth 100000 in
theorem kc_X2_37 : Cond.constantLong RX2 37 (1099511627776) ∈ gtb := gt_mem 908 (by rfl) (by rfl)
set_option maxRecDepth 100000 in
theorem mv_X2_39 : MV RX2 39 yX2_take cX2_take 6 none 4 := ⟨gt_mem 909 (by rfl) (by rfl), gt_mem 911 (by rfl) (by rfl), gt_mem 16 (by rfl) (by rfl), gt_mem 72 (by rfl) (by rfl), gt_mem 912 (by rfl) (by rfl), ⟨by decide +kernel, by decide +kernel, by decide +kernel⟩⟩
set_option maxRecDepth 100000 in
theorem fl_X2_43 : FL RX2 43 2 1 := ⟨RX2, TX2, 9, ci_2, by decide, gt_mem 439 (by rfl) (by rfl)⟩
set_option maxRecDepth 100000 in
theorem mv_X2_47 : MV RX2 47 yX2_farness cX2_farness 9 (some .long) 4 := ⟨gt_mem 913 (by rfl) (by rfl), gt_mem 915 (by rfl) (by rfl), gt_mem 17 (by rfl) (by rfl), gt_mem 72 (by rfl) (by rfl), gt_mem 916 (by rfl) (by rfl), ⟨by decide +kernel, by decide +kernel, by decide +kernel⟩⟩
set_option maxRecDepth 100000 in
theorem fl_X2_9 : FL RX2 9 2 0 := ⟨RX2, TX2, 9, ci_2, by decide, gt_mem 437 (by rfl) (by rfl)⟩
set_option maxRecDepth 100000 in
theorem fl_X2_51 : FL RX2 51 2 8 := ⟨RX2, TX2, 9, ci_2, by decide, gt_mem 447 (by rfl) (by rfl)⟩
set_option maxRecDepth 100000 in
theorem fl_X2_30 : FL RX2 30 2 7 := ⟨RX2, TX2, 9, ci_2, by decide, gt_mem 446 (by rfl) (by rfl)⟩
set_option maxRecDepth 100000 in
theorem fl_X2_21 : FL RX2 21 2 4 := ⟨RX2, TX2, 9, ci_2, by decide, gt_mem 443 (by rfl) (by rfl)⟩
set_option maxRecDepth 100000 in
theorem fl_X2_24 : FL RX2 24 2 5 := ⟨RX2, TX2, 9, ci_2, by decide, gt_mem 444 (by rfl) (by rfl)⟩
set_option maxRecDepth 100000 in
theorem fl_X2_27 : FL RX2 27 2 6 := ⟨RX2, TX2, 9, ci_2, by decide, gt_mem 445 (by rfl) (by rfl)⟩
set_option maxRecDepth 100000 in
theorem mv_X2_55 : MV RX2 55 yX2_made cX2_made 4 (some .int) 3 := ⟨gt_mem 922 (by rfl) (by rfl), gt_mem 923 (by rfl) (by rfl), gt_mem 924 (by rfl) (by rfl), gt_mem 72 (by rfl) (by rfl), gt_mem 925 (by rfl) (by rfl), ⟨by decide +kernel, by decide +kernel, by decide +kernel⟩⟩
set_option maxRecDepth 100000 in
theorem ms_X2_59 : MS RX2 59 yJ9_abs_0f7a4 cJ9_abs_0f7a4 1 (some .int) 1 := ⟨gt_mem 917 (by rfl) (by rfl), gt_mem 817 (by rfl) (by rfl), gt_mem 76 (by rfl) (by rfl), gt_mem 818 (by rfl) (by rfl), ⟨by decide +kernel, by decide +kernel, by decide +kernel⟩⟩
set_option maxRecDepth 100000 in
theorem fl_X2_18 : FL RX2 18 2 3 := ⟨RX2, TX2, 9, ci_2, by decide, gt_mem 442 (by rfl) (by rfl)⟩
set_option maxRecDepth 100000 in
theorem mv_X2_65 : MV RX2 65 yX0_clear cX0_clear 1 none 0 := ⟨gt_mem 937 (by rfl) (by rfl), gt_mem 725 (by rfl) (by rfl), gt_mem 726 (by rfl) (by rfl), gt_mem 68 (by rfl) (by rfl), gt_mem 727 (by rfl) (by rfl), ⟨by decide +kernel, by decide +kernel, by decide +kernel⟩⟩
set_option maxRecDepth 100000 in
theorem fl_X2_70 : FL RX2 70 8 4 := ⟨RX8, TX8, 7, ci_8, by decide, gt_mem 260 (by rfl) (by rfl)⟩
set_option maxRecDepth 100000 in
theorem mv_X2_74 : MV RX2 74 yX8_isTimedOn cX8_isTimedOn 3 (some .boolean) 2 := ⟨gt_mem 906 (by rfl) (by rfl), gt_mem 729 (by rfl) (by rfl), gt_mem 730 (by rfl) (by rfl), gt_mem 62 (by rfl) (by rfl), gt_mem 731 (by rfl) (by rfl), ⟨by decide +kernel, by decide +kernel, by decide +kernel⟩⟩
set_option maxRecDepth 100000 in
theorem mv_X2_78 : MV RX2 78 yX8_told cX8_told 3 (some .int) 2 := ⟨gt_mem 907 (by rfl) (by rfl), gt_mem 697 (by rfl) (by rfl), gt_mem 698 (by rfl) (by rfl), gt_mem 62 (by rfl) (by rfl), gt_mem 699 (by rfl) (by rfl), ⟨by decide +kernel, by decide +kernel, by decide +kernel⟩⟩
set_option maxRecDepth 100000 in
theorem mv_X2_82 : MV RX2 82 yX0_add cX0_add 3 none 1 := ⟨gt_mem 938 (by rfl) (by rfl), gt_mem 734 (by rfl) (by rfl), gt_mem 735 (by rfl) (by rfl), gt_mem 68 (by rfl) (by rfl), gt_mem 736 (by rfl) (by rfl), ⟨by decide +kernel, by decide +kernel, by decide +kernel⟩⟩
set_option maxRecDepth 100000 in
theorem fp_X2_51 : FP RX2 51 2 8 := ⟨RX2, TX2, 9, ci_2, by decide, gt_mem 447 (by rfl) (by rfl), rfl⟩
set_option maxRecDepth 100000 in
theorem fp_X2_43 : FP RX2 43 2 1 := ⟨RX2, TX2, 9, ci_2, by decide, gt_mem 439 (by rfl) (by rfl), rfl⟩
set_option maxRecDepth 100000 in
theorem ff_X3_9 : FF RX3 9 3 0 := ⟨RX3, TX3, 12, ci_3, by decide, gt_mem 197 (by rfl) (by rfl), rfl, rfl⟩
set_option maxRecDepth 100000 in
theorem fp_X3_15 : FP RX3 15 3 1 := ⟨RX3, TX3, 12, ci_3, by decide, gt_mem 200 (by rfl) (by rfl), rfl⟩
set_option maxRecDepth 100000 in
theorem fp_X3_19 : FP RX3 19 3 2 := ⟨RX3, TX3, 12, ci_3, by decide, gt_mem 203 (by rfl) (by rfl), rfl⟩
set_option maxRecDepth 100000 in
theorem fp_X3_22 : FP RX3 22 3 3 := ⟨RX3, TX3, 12, ci_3, by decide, gt_mem 205 (by rfl) (by rfl), rfl⟩
set_option maxRecDepth 100000 in
theorem ff_X3_25 : FF RX3 25 3 4 := ⟨RX3, TX3, 12, ci_3, by decide, gt_mem 207 (by rfl) (by rfl), rfl, rfl⟩
set_option maxRecDepth 100000 in
theorem fp_X3_28 : FP RX3 28 3 5 := ⟨RX3, TX3, 12, ci_3, by decide, gt_mem 210 (by rfl) (by rfl), rfl⟩
set_option maxRecDepth 100000 in
theorem fp_X3_31 : FP RX3 31 3 6 := ⟨RX3, TX3, 12, ci_3, by decide, gt_mem 213 (by rfl) (by rfl), rfl⟩
set_option maxRecDepth 100000 in
theorem ff_X3_34 : FF RX3 34 3 7 := ⟨RX3, TX3, 12, ci_3, by decide, gt_mem 215 (by rfl) (by rfl), rfl, rfl⟩
set_option maxRecDepth 100000 in
theorem fl_X3_9 : FL RX3 9 3 0 := ⟨RX3, TX3, 12, ci_3, by decide, gt_mem 197 (by rfl) (by rfl)⟩
set_option maxRecDepth 100000 in
theorem ms_X3_37 : MS RX3 37 yJ7_fill_53178 cJ7_fill_53178 4 none 2 := ⟨gt_mem 194 (by rfl) (by rfl), gt_mem 195 (by rfl) (by rfl), gt_mem 66 (by rfl) (by rfl), gt_mem 196 (by rfl) (by rfl), ⟨by decide +kernel, by decide +kernel, by decide +kernel⟩⟩
set_option maxRecDepth 100000 in
theorem fl_X3_25 : FL RX3 25 3 4 := ⟨RX3, TX3, 12, ci_3, by decide, gt_mem 207 (by rfl) (by rfl)⟩
set_option maxRecDepth 100000 in
theorem fl_X3_15 : FL RX3 15 3 1 := ⟨RX3, TX3, 12, ci_3, by decide, gt_mem 200 (by rfl) (by rfl)⟩
set_option maxRecDepth 100000 in
theorem fl_X3_19 : FL RX3 19 3 2 := ⟨RX3, TX3, 12, ci_3, by decide, gt_mem 203 (by rfl) (by rfl)⟩
set_option maxRecDepth 100000 in
theorem fl_X3_22 : FL RX3 22 3 3 := ⟨RX3, TX3, 12, ci_3, by decide, gt_mem 205 (by rfl) (by rfl)⟩
set_option maxRecDepth 100000 in
theorem fl_X3_28 : FL RX3 28 3 5 := ⟨RX3, TX3, 12, ci_3, by decide, gt_mem 210 (by rfl) (by rfl)⟩
set_option maxRecDepth 100000 in
theorem fl_X3_31 : FL RX3 31 3 6 := ⟨RX3, TX3, 12, ci_3, by decide, gt_mem 213 (by rfl) (by rfl)⟩
set_option maxRecDepth 100000 in
theorem fl_X3_34 : FL RX3 34 3 7 := ⟨RX3, TX3, 12, ci_3, by decide, gt_mem 215 (by rfl) (by rfl)⟩
set_option maxRecDepth 100000 in
theorem fl_X3_49 : FL RX3 49 3 8 := ⟨RX3, TX3, 12, ci_3, by decide, gt_mem 218 (by rfl) (by rfl)⟩
set_option maxRecDepth 100000 in
theorem fp_X3_49 : FP RX3 49 3 8 := ⟨RX3, TX3, 12, ci_3, by decide, gt_mem 218 (by rfl) (by rfl), rfl⟩
set_option maxRecDepth 100000 in
theorem fl_X3_52 : FL RX3 52 3 9 := ⟨RX3, TX3, 12, ci_3, by decide, gt_mem 219 (by rfl) (by rfl)⟩
set_option maxRecDepth 100000 in
theorem fp_X3_52 : FP RX3 52 3 9 := ⟨RX3, TX3, 12, ci_3, by decide, gt_mem 219 (by rfl) (by rfl), rfl⟩
set_option maxRecDepth 100000 in
theorem fl_X3_55 : FL RX3 55 3 10 := ⟨RX3, TX3, 12, ci_3, by decide, gt_mem 220 (by rfl) (by rfl)⟩
set_option maxRecDepth 100000 in
theorem fp_X3_55 : FP RX3 55 3 10 := ⟨RX3, TX3, 12, ci_3, by decide, gt_mem 220 (by rfl) (by rfl), rfl⟩
set_option maxRecDepth 100000 in
theorem fl_X3_58 : FL RX3 58 3 11 := ⟨RX3, TX3, 12, ci_3, by decide, gt_mem 221 (by rfl) (by rfl)⟩
set_option maxRecDepth 100000 in
theorem fp_X3_58 : FP RX3 58 3 11 := ⟨RX3, TX3, 12, ci_3, by decide, gt_mem 221 (by rfl) (by rfl), rfl⟩
set_option maxRecDepth 100000 in
theorem ms_X3_62 : MS RX3 62 yX3_drawn cX3_drawn 1 (some .int) 1 := ⟨gt_mem 641 (by rfl) (by rfl), gt_mem 642 (by rfl) (by rfl), gt_mem 65 (by rfl) (by rfl), gt_mem 643 (by rfl) (by rfl), ⟨by decide +kernel, by decide +kernel, by decide +kernel⟩⟩
set_option maxRecDepth 100000 in
theorem ms_X3_66 : MS RX3 66 yX3_highBits cX3_highBits 1 (some .int) 1 := ⟨gt_mem 645 (by rfl) (by rfl), gt_mem 646 (by rfl) (by rfl), gt_mem 65 (by rfl) (by rfl), gt_mem 647 (by rfl) (by rfl), ⟨by decide +kernel, by decide +kernel, by decide +kernel⟩⟩
set_option maxRecDepth 100000 in
theorem mn_X3_69 : MN RX3 69 yX11_leftOver "FastWhy" cX11_leftOver 3 (some .int) 2 := ⟨by decide +kernel, gt_mem 649 (by rfl) (by rfl), gt_mem 61 (by rfl) (by rfl), gt_mem 650 (by rfl) (by rfl), ⟨by decide +kernel, by decide +kernel, by decide +kernel⟩⟩
set_option maxRecDepth 100000 in
theorem kc_X3_73 : Cond.constant RX3 73 (1103515245) ∈ gtb := gt_mem 644 (by rfl) (by rfl)
set_option maxRecDepth 100000 in
theorem fp_X4_9 : FP RX4 9 4 0 := ⟨RX4, TX4, 5, ci_4, by decide, gt_mem 473 (by rfl) (by rfl), rfl⟩
set_option maxRecDepth 100000 in
theorem ff_X4_15 : FF RX4 15 4 1 := ⟨RX4, TX4, 5, ci_4, by decide, gt_mem 475 (by rfl) (by rfl), rfl, rfl⟩
set_option maxRecDepth 100000 in
theorem ff_X4_19 : FF RX4 19 4 4 := ⟨RX4, TX4, 5, ci_4, by decide, gt_mem 478 (by rfl) (by rfl), rfl, rfl⟩
set_option maxRecDepth 100000 in
theorem fl_X4_19 : FL RX4 19 4 4 := ⟨RX4, TX4, 5, ci_4, by decide, gt_mem 478 (by rfl) (by rfl)⟩
set_option maxRecDepth 100000 in
theorem fl_X4_23 : FL RX4 23 0 1 := ⟨RX0, TX0, 2, ci_0, by decide, gt_mem 340 (by rfl) (by rfl)⟩
set_option maxRecDepth 100000 in
theorem mv_X4_28 : MV RX4 28 yX0_middle cX0_middle 1 (some .int) 0 := ⟨gt_mem 1082 (by rfl) (by rfl), gt_mem 746 (by rfl) (by rfl), gt_mem 747 (by rfl) (by rfl), gt_mem 68 (by rfl) (by rfl), gt_mem 748 (by rfl) (by rfl), ⟨by decide +kernel, by decide +kernel, by decide +kernel⟩⟩
set_option maxRecDepth 100000 in
theorem mv_X4_32 : MV RX4 32 yX0_least cX0_least 1 (some .int) 0 := ⟨gt_mem 1083 (by rfl) (by rfl), gt_mem 738 (by rfl) (by rfl), gt_mem 739 (by rfl) (by rfl), gt_mem 68 (by rfl) (by rfl), gt_mem 740 (by rfl) (by rfl), ⟨by decide +kernel, by decide +kernel, by decide +kernel⟩⟩
set_option maxRecDepth 100000 in
theorem mv_X4_35 : MV RX4 35 yX0_greatest cX0_greatest 1 (some .int) 0 := ⟨gt_mem 1084 (by rfl) (by rfl), gt_mem 742 (by rfl) (by rfl), gt_mem 743 (by rfl) (by rfl), gt_mem 68 (by rfl) (by rfl), gt_mem 744 (by rfl) (by rfl), ⟨by decide +kernel, by decide +kernel, by decide +kernel⟩⟩
set_option maxRecDepth 100000 in
theorem ms_X4_38 : MS RX4 38 yJ9_max_7cf53 cJ9_max_7cf53 2 (some .int) 2 := ⟨gt_mem 960 (by rfl) (by rfl), gt_mem 961 (by rfl) (by rfl), gt_mem 76 (by rfl) (by rfl), gt_mem 962 (by rfl) (by rfl), ⟨by decide +kernel, by decide +kernel, by decide +kernel⟩⟩
set_option maxRecDepth 100000 in
theorem ms_X4_44 : MS RX4 44 yJ9_min_7cf53 cJ9_min_7cf53 2 (some .int) 2 := ⟨gt_mem 963 (by rfl) (by rfl), gt_mem 964 (by rfl) (by rfl), gt_mem 76 (by rfl) (by rfl), gt_mem 965 (by rfl) (by rfl), ⟨by decide +kernel, by decide +kernel, by decide +kernel⟩⟩
set_option maxRecDepth 100000 in
theorem fp_X4_47 : FP RX4 47 4 2 := ⟨RX4, TX4, 5, ci_4, by decide, gt_mem 476 (by rfl) (by rfl), rfl⟩
set_option maxRecDepth 100000 in
theorem fl_X4_15 : FL RX4 15 4 1 := ⟨RX4, TX4, 5, ci_4, by decide, gt_mem 475 (by rfl) (by rfl)⟩
set_option maxRecDepth 100000 in
theorem fl_X4_47 : FL RX4 47 4 2 := ⟨RX4, TX4, 5, ci_4, by decide, gt_mem 476 (by rfl) (by rfl)⟩
set_option maxRecDepth 100000 in
theorem fp_X4_54 : FP RX4 54 4 3 := ⟨RX4, TX4, 5, ci_4, by decide, gt_mem 477 (by rfl) (by rfl), rfl⟩
set_option maxRecDepth 100000 in
theorem mv_X4_57 : MV RX4 57 yX4_value cX4_value 7 (some .long) 1 := ⟨gt_mem 967 (by rfl) (by rfl), gt_mem 969 (by rfl) (by rfl), gt_mem 18 (by rfl) (by rfl), gt_mem 73 (by rfl) (by rfl), gt_mem 970 (by rfl) (by rfl), ⟨by decide +kernel, by decide +kernel, by decide +kernel⟩⟩
set_option maxRecDepth 100000 in
theorem mv_X4_61 : MV RX4 61 yX4_ahead cX4_ahead 1 (some .int) 0 := ⟨gt_mem 995 (by rfl) (by rfl), gt_mem 997 (by rfl) (by rfl), gt_mem 25 (by rfl) (by rfl), gt_mem 73 (by rfl) (by rfl), gt_mem 998 (by rfl) (by rfl), ⟨by decide +kernel, by decide +kernel, by decide +kernel⟩⟩
set_option maxRecDepth 100000 in
theorem mv_X4_64 : MV RX4 64 yX4_fail cX4_fail 2 (some .long) 1 := ⟨gt_mem 1013 (by rfl) (by rfl), gt_mem 1015 (by rfl) (by rfl), gt_mem 28 (by rfl) (by rfl), gt_mem 73 (by rfl) (by rfl), gt_mem 1016 (by rfl) (by rfl), ⟨by decide +kernel, by decide +kernel, by decide +kernel⟩⟩
set_option maxRecDepth 100000 in
theorem mv_X4_67 : MV RX4 67 yX4_both cX4_both 7 (some .long) 1 := ⟨gt_mem 971 (by rfl) (by rfl), gt_mem 973 (by rfl) (by rfl), gt_mem 19 (by rfl) (by rfl), gt_mem 73 (by rfl) (by rfl), gt_mem 974 (by rfl) (by rfl), ⟨by decide +kernel, by decide +kernel, by decide +kernel⟩⟩
set_option maxRecDepth 100000 in
theorem mv_X4_70 : MV RX4 70 yX4_takes cX4_takes 2 (some .boolean) 1 := ⟨gt_mem 991 (by rfl) (by rfl), gt_mem 993 (by rfl) (by rfl), gt_mem 24 (by rfl) (by rfl), gt_mem 73 (by rfl) (by rfl), gt_mem 994 (by rfl) (by rfl), ⟨by decide +kernel, by decide +kernel, by decide +kernel⟩⟩
set_option maxRecDepth 100000 in
theorem ms_X4_74 : MS RX4 74 yX4_truth cX4_truth 1 (some .long) 1 := ⟨gt_mem 1070 (by rfl) (by rfl), gt_mem 1071 (by rfl) (by rfl), gt_mem 73 (by rfl) (by rfl), gt_mem 1072 (by rfl) (by rfl), ⟨by decide +kernel, by decide +kernel, by decide +kernel⟩⟩
set_option maxRecDepth 100000 in
theorem mv_X4_78 : MV RX4 78 yX4_held cX4_held 4 (some .long) 1 := ⟨gt_mem 975 (by rfl) (by rfl), gt_mem 977 (by rfl) (by rfl), gt_mem 20 (by rfl) (by rfl), gt_mem 73 (by rfl) (by rfl), gt_mem 978 (by rfl) (by rfl), ⟨by decide +kernel, by decide +kernel, by decide +kernel⟩⟩
set_option maxRecDepth 100000 in
theorem mv_X4_81 : MV RX4 81 yX4_sum cX4_sum 5 (some .long) 1 := ⟨gt_mem 979 (by rfl) (by rfl), gt_mem 981 (by rfl) (by rfl), gt_mem 21 (by rfl) (by rfl), gt_mem 73 (by rfl) (by rfl), gt_mem 982 (by rfl) (by rfl), ⟨by decide +kernel, by decide +kernel, by decide +kernel⟩⟩
set_option maxRecDepth 100000 in
theorem mv_X4_84 : MV RX4 84 yX4_term cX4_term 7 (some .long) 1 := ⟨gt_mem 983 (by rfl) (by rfl), gt_mem 985 (by rfl) (by rfl), gt_mem 22 (by rfl) (by rfl), gt_mem 73 (by rfl) (by rfl), gt_mem 986 (by rfl) (by rfl), ⟨by decide +kernel, by decide +kernel, by decide +kernel⟩⟩
set_option maxRecDepth 100000 in
theorem mv_X4_87 : MV RX4 87 yX4_unit cX4_unit 8 (some .long) 1 := ⟨gt_mem 987 (by rfl) (by rfl), gt_mem 989 (by rfl) (by rfl), gt_mem 23 (by rfl) (by rfl), gt_mem 73 (by rfl) (by rfl), gt_mem 990 (by rfl) (by rfl), ⟨by decide +kernel, by decide +kernel, by decide +kernel⟩⟩
set_option maxRecDepth 100000 in
theorem kc_X4_90 : Cond.constantLong RX4 90 (2) ∈ gtb := gt_mem 999 (by rfl) (by rfl)
set_option maxRecDepth 100000 in
theorem mv_X4_92 : MV RX4 92 yX4_bare cX4_bare 4 (some .long) 1 := ⟨gt_mem 1000 (by rfl) (by rfl), gt_mem 1002 (by rfl) (by rfl), gt_mem 26 (by rfl) (by rfl), gt_mem 73 (by rfl) (by rfl), gt_mem 1003 (by rfl) (by rfl), ⟨by decide +kernel, by decide +kernel, by decide +kernel⟩⟩
set_option maxRecDepth 100000 in
theorem ms_X4_95 : MS RX4 95 yX4_isDigit cX4_isDigit 1 (some .boolean) 1 := ⟨gt_mem 1004 (by rfl) (by rfl), gt_mem 1005 (by rfl) (by rfl), gt_mem 73 (by rfl) (by rfl), gt_mem 1006 (by rfl) (by rfl), ⟨by decide +kernel, by decide +kernel, by decide +kernel⟩⟩
set_option maxRecDepth 100000 in
theorem mv_X4_98 : MV RX4 98 yX4_number cX4_number 4 (some .long) 0 := ⟨gt_mem 1007 (by rfl) (by rfl), gt_mem 1009 (by rfl) (by rfl), gt_mem 27 (by rfl) (by rfl), gt_mem 73 (by rfl) (by rfl), gt_mem 1010 (by rfl) (by rfl), ⟨by decide +kernel, by decide +kernel, by decide +kernel⟩⟩
set_option maxRecDepth 100000 in
theorem fl_X4_54 : FL RX4 54 4 3 := ⟨RX4, TX4, 5, ci_4, by decide, gt_mem 477 (by rfl) (by rfl)⟩
set_option maxRecDepth 100000 in
theorem mv_X4_113 : MV RX4 113 yX4_within cX4_within 4 (some .long) 1 := ⟨gt_mem 1066 (by rfl) (by rfl), gt_mem 1068 (by rfl) (by rfl), gt_mem 29 (by rfl) (by rfl), gt_mem 73 (by rfl) (by rfl), gt_mem 1069 (by rfl) (by rfl), ⟨by decide +kernel, by decide +kernel, by decide +kernel⟩⟩
set_option maxRecDepth 100000 in
theorem kc_X4_116 : Cond.constantLong RX4 116 (10) ∈ gtb := gt_mem 1011 (by rfl) (by rfl)
set_option maxRecDepth 100000 in
theorem kc_X4_118 : Cond.constantLong RX4 118 (48) ∈ gtb := gt_mem 1012 (by rfl) (by rfl)
set_option maxRecDepth 100000 in
theorem fl_X4_9 : FL RX4 9 4 0 := ⟨RX4, TX4, 5, ci_4, by decide, gt_mem 473 (by rfl) (by rfl)⟩
set_option maxRecDepth 100000 in
theorem ff_X5_9 : FF RX5 9 5 0 := ⟨RX5, TX5, 6, ci_5, by decide, gt_mem 164 (by rfl) (by rfl), rfl, rfl⟩
set_option maxRecDepth 100000 in
theorem ff_X5_15 : FF RX5 15 5 2 := ⟨RX5, TX5, 6, ci_5, by decide, gt_mem 168 (by rfl) (by rfl), rfl, rfl⟩
set_option maxRecDepth 100000 in
theorem fp_X5_18 : FP RX5 18 5 4 := ⟨RX5, TX5, 6, ci_5, by decide, gt_mem 172 (by rfl) (by rfl), rfl⟩
set_option maxRecDepth 100000 in
theorem fl_X5_9 : FL RX5 9 5 0 := ⟨RX5, TX5, 6, ci_5, by decide, gt_mem 164 (by rfl) (by rfl)⟩
set_option maxRecDepth 100000 in
theorem fl_X5_28 : FL RX5 28 5 1 := ⟨RX5, TX5, 6, ci_5, by decide, gt_mem 166 (by rfl) (by rfl)⟩
set_option maxRecDepth 100000 in
theorem fp_X5_28 : FP RX5 28 5 1 := ⟨RX5, TX5, 6, ci_5, by decide, gt_mem 166 (by rfl) (by rfl), rfl⟩
set_option maxRecDepth 100000 in
theorem fl_X5_15 : FL RX5 15 5 2 := ⟨RX5, TX5, 6, ci_5, by decide, gt_mem 168 (by rfl) (by rfl)⟩
set_option maxRecDepth 100000 in
theorem fl_X5_31 : FL RX5 31 5 3 := ⟨RX5, TX5, 6, ci_5, by decide, gt_mem 170 (by rfl) (by rfl)⟩
set_option maxRecDepth 100000 in
theorem fp_X5_31 : FP RX5 31 5 3 := ⟨RX5, TX5, 6, ci_5, by decide, gt_mem 170 (by rfl) (by rfl), rfl⟩
set_option maxRecDepth 100000 in
theorem fl_X5_18 : FL RX5 18 5 4 := ⟨RX5, TX5, 6, ci_5, by decide, gt_mem 172 (by rfl) (by rfl)⟩
set_option maxRecDepth 100000 in
theorem fl_X5_34 : FL RX5 34 5 5 := ⟨RX5, TX5, 6, ci_5, by decide, gt_mem 174 (by rfl) (by rfl)⟩
set_option maxRecDepth 100000 in
theorem fp_X5_34 : FP RX5 34 5 5 := ⟨RX5, TX5, 6, ci_5, by decide, gt_mem 174 (by rfl) (by rfl), rfl⟩
set_option maxRecDepth 100000 in
theorem mv_X5_37 : MV RX5 37 yX10_dealt cX10_dealt 11 (some .int) 3 := ⟨gt_mem 807 (by rfl) (by rfl), gt_mem 771 (by rfl) (by rfl), gt_mem 772 (by rfl) (by rfl), gt_mem 69 (by rfl) (by rfl), gt_mem 773 (by rfl) (by rfl), ⟨by decide +kernel, by decide +kernel, by decide +kernel⟩⟩
set_option maxRecDepth 100000 in
theorem mv_X5_43 : MV RX5 43 yX5_isRare cX5_isRare 3 (some .boolean) 2 := ⟨gt_mem 808 (by rfl) (by rfl), gt_mem 810 (by rfl) (by rfl), gt_mem 11 (by rfl) (by rfl), gt_mem 64 (by rfl) (by rfl), gt_mem 811 (by rfl) (by rfl), ⟨by decide +kernel, by decide +kernel, by decide +kernel⟩⟩
set_option maxRecDepth 100000 in
theorem mv_X5_47 : MV RX5 47 yX5_lastLook cX5_lastLook 1 (some .int) 0 := ⟨gt_mem 812 (by rfl) (by rfl), gt_mem 788 (by rfl) (by rfl), gt_mem 789 (by rfl) (by rfl), gt_mem 64 (by rfl) (by rfl), gt_mem 790 (by rfl) (by rfl), ⟨by decide +kernel, by decide +kernel, by decide +kernel⟩⟩
set_option maxRecDepth 100000 in
theorem mv_X5_51 : MV RX5 51 yX0_clear cX0_clear 1 none 0 := ⟨gt_mem 813 (by rfl) (by rfl), gt_mem 725 (by rfl) (by rfl), gt_mem 726 (by rfl) (by rfl), gt_mem 68 (by rfl) (by rfl), gt_mem 727 (by rfl) (by rfl), ⟨by decide +kernel, by decide +kernel, by decide +kernel⟩⟩
set_option maxRecDepth 100000 in
theorem mv_X5_56 : MV RX5 56 yX0_add cX0_add 3 none 1 := ⟨gt_mem 814 (by rfl) (by rfl), gt_mem 734 (by rfl) (by rfl), gt_mem 735 (by rfl) (by rfl), gt_mem 68 (by rfl) (by rfl), gt_mem 736 (by rfl) (by rfl), ⟨by decide +kernel, by decide +kernel, by decide +kernel⟩⟩
set_option maxRecDepth 100000 in
theorem mv_X5_60 : MV RX5 60 yX0_middle cX0_middle 1 (some .int) 0 := ⟨gt_mem 815 (by rfl) (by rfl), gt_mem 746 (by rfl) (by rfl), gt_mem 747 (by rfl) (by rfl), gt_mem 68 (by rfl) (by rfl), gt_mem 748 (by rfl) (by rfl), ⟨by decide +kernel, by decide +kernel, by decide +kernel⟩⟩
set_option maxRecDepth 100000 in
theorem ms_X5_63 : MS RX5 63 yJ9_abs_0f7a4 cJ9_abs_0f7a4 1 (some .int) 1 := ⟨gt_mem 816 (by rfl) (by rfl), gt_mem 817 (by rfl) (by rfl), gt_mem 76 (by rfl) (by rfl), gt_mem 818 (by rfl) (by rfl), ⟨by decide +kernel, by decide +kernel, by decide +kernel⟩⟩
set_option maxRecDepth 100000 in
theorem ff_X6_9 : FF RX6 9 6 1 := ⟨RX6, TX6, 12, ci_6, by decide, gt_mem 104 (by rfl) (by rfl), rfl, rfl⟩
set_option maxRecDepth 100000 in
theorem ff_X6_15 : FF RX6 15 6 2 := ⟨RX6, TX6, 12, ci_6, by decide, gt_mem 107 (by rfl) (by rfl), rfl, rfl⟩
set_option maxRecDepth 100000 in
theorem ff_X6_18 : FF RX6 18 6 4 := ⟨RX6, TX6, 12, ci_6, by decide, gt_mem 112 (by rfl) (by rfl), rfl, rfl⟩
set_option maxRecDepth 100000 in
theorem ff_X6_21 : FF RX6 21 6 5 := ⟨RX6, TX6, 12, ci_6, by decide, gt_mem 113 (by rfl) (by rfl), rfl, rfl⟩
set_option maxRecDepth 100000 in
theorem ff_X6_24 : FF RX6 24 6 6 := ⟨RX6, TX6, 12, ci_6, by decide, gt_mem 115 (by rfl) (by rfl), rfl, rfl⟩
set_option maxRecDepth 100000 in
theorem ff_X6_27 : FF RX6 27 6 8 := ⟨RX6, TX6, 12, ci_6, by decide, gt_mem 119 (by rfl) (by rfl), rfl, rfl⟩
set_option maxRecDepth 100000 in
theorem ff_X6_30 : FF RX6 30 6 9 := ⟨RX6, TX6, 12, ci_6, by decide, gt_mem 122 (by rfl) (by rfl), rfl, rfl⟩
set_option maxRecDepth 100000 in
theorem ff_X6_33 : FF RX6 33 6 11 := ⟨RX6, TX6, 12, ci_6, by decide, gt_mem 128 (by rfl) (by rfl), rfl, rfl⟩
set_option maxRecDepth 100000 in
theorem fl_X6_36 : FL RX6 36 6 0 := ⟨RX6, TX6, 12, ci_6, by decide, gt_mem 102 (by rfl) (by rfl)⟩
set_option maxRecDepth 100000 in
theorem fp_X6_36 : FP RX6 36 6 0 := ⟨RX6, TX6, 12, ci_6, by decide, gt_mem 102 (by rfl) (by rfl), rfl⟩
set_option maxRecDepth 100000 in
theorem fl_X6_9 : FL RX6 9 6 1 := ⟨RX6, TX6, 12, ci_6, by decide, gt_mem 104 (by rfl) (by rfl)⟩
set_option maxRecDepth 100000 in
theorem fl_X6_15 : FL RX6 15 6 2 := ⟨RX6, TX6, 12, ci_6, by decide, gt_mem 107 (by rfl) (by rfl)⟩
set_option maxRecDepth 100000 in
theorem fl_X6_46 : FL RX6 46 6 3 := ⟨RX6, TX6, 12, ci_6, by decide, gt_mem 109 (by rfl) (by rfl)⟩
set_option maxRecDepth 100000 in
theorem fp_X6_46 : FP RX6 46 6 3 := ⟨RX6, TX6, 12, ci_6, by decide, gt_mem 109 (by rfl) (by rfl), rfl⟩
set_option maxRecDepth 100000 in
theorem fl_X6_18 : FL RX6 18 6 4 := ⟨RX6, TX6, 12, ci_6, by decide, gt_mem 112 (by rfl) (by rfl)⟩
set_option maxRecDepth 100000 in
theorem fl_X6_21 : FL RX6 21 6 5 := ⟨RX6, TX6, 12, ci_6, by decide, gt_mem 113 (by rfl) (by rfl)⟩
set_option maxRecDepth 100000 in
theorem fl_X6_24 : FL RX6 24 6 6 := ⟨RX6, TX6, 12, ci_6, by decide, gt_mem 115 (by rfl) (by rfl)⟩
set_option maxRecDepth 100000 in
theorem fl_X6_49 : FL RX6 49 6 7 := ⟨RX6, TX6, 12, ci_6, by decide, gt_mem 117 (by rfl) (by rfl)⟩
set_option maxRecDepth 100000 in
theorem fp_X6_49 : FP RX6 49 6 7 := ⟨RX6, TX6, 12, ci_6, by decide, gt_mem 117 (by rfl) (by rfl), rfl⟩
set_option maxRecDepth 100000 in
theorem fl_X6_27 : FL RX6 27 6 8 := ⟨RX6, TX6, 12, ci_6, by decide, gt_mem 119 (by rfl) (by rfl)⟩
set_option maxRecDepth 100000 in
theorem fl_X6_30 : FL RX6 30 6 9 := ⟨RX6, TX6, 12, ci_6, by decide, gt_mem 122 (by rfl) (by rfl)⟩
set_option maxRecDepth 100000 in
theorem fl_X6_52 : FL RX6 52 6 10 := ⟨RX6, TX6, 12, ci_6, by decide, gt_mem 126 (by rfl) (by rfl)⟩
set_option maxRecDepth 100000 in
theorem fp_X6_52 : FP RX6 52 6 10 := ⟨RX6, TX6, 12, ci_6, by decide, gt_mem 126 (by rfl) (by rfl), rfl⟩
set_option maxRecDepth 100000 in
theorem fl_X6_33 : FL RX6 33 6 11 := ⟨RX6, TX6, 12, ci_6, by decide, gt_mem 128 (by rfl) (by rfl)⟩
set_option maxRecDepth 100000 in
theorem mn_X6_55 : MN RX6 55 yX11_writeLine "FastWhy" cX11_writeLine 6 none 6 := ⟨by decide +kernel, gt_mem 555 (by rfl) (by rfl), gt_mem 61 (by rfl) (by rfl), gt_mem 556 (by rfl) (by rfl), ⟨by decide +kernel, by decide +kernel, by decide +kernel⟩⟩
set_option maxRecDepth 100000 in
theorem ff_X7_9 : FF RX7 9 7 0 := ⟨RX7, TX7, 12, ci_7, by decide, gt_mem 290 (by rfl) (by rfl), rfl, rfl⟩
set_option maxRecDepth 100000 in
theorem ff_X7_15 : FF RX7 15 7 2 := ⟨RX7, TX7, 12, ci_7, by decide, gt_mem 296 (by rfl) (by rfl), rfl, rfl⟩
set_option maxRecDepth 100000 in
theorem ff_X7_18 : FF RX7 18 7 4 := ⟨RX7, TX7, 12, ci_7, by decide, gt_mem 298 (by rfl) (by rfl), rfl, rfl⟩
set_option maxRecDepth 100000 in
theorem ff_X7_21 : FF RX7 21 7 5 := ⟨RX7, TX7, 12, ci_7, by decide, gt_mem 299 (by rfl) (by rfl), rfl, rfl⟩
set_option maxRecDepth 100000 in
theorem ff_X7_24 : FF RX7 24 7 6 := ⟨RX7, TX7, 12, ci_7, by decide, gt_mem 300 (by rfl) (by rfl), rfl, rfl⟩
set_option maxRecDepth 100000 in
theorem ff_X7_27 : FF RX7 27 7 7 := ⟨RX7, TX7, 12, ci_7, by decide, gt_mem 301 (by rfl) (by rfl), rfl, rfl⟩
set_option maxRecDepth 100000 in
theorem fp_X7_33 : FP RX7 33 7 8 := ⟨RX7, TX7, 12, ci_7, by decide, gt_mem 302 (by rfl) (by rfl), rfl⟩
set_option maxRecDepth 100000 in
theorem fl_X7_24 : FL RX7 24 7 6 := ⟨RX7, TX7, 12, ci_7, by decide, gt_mem 300 (by rfl) (by rfl)⟩
set_option maxRecDepth 100000 in
theorem fp_X7_37 : FP RX7 37 7 9 := ⟨RX7, TX7, 12, ci_7, by decide, gt_mem 303 (by rfl) (by rfl), rfl⟩
set_option maxRecDepth 100000 in
theorem fl_X7_27 : FL RX7 27 7 7 := ⟨RX7, TX7, 12, ci_7, by decide, gt_mem 301 (by rfl) (by rfl)⟩
set_option maxRecDepth 100000 in
theorem fp_X7_40 : FP RX7 40 7 10 := ⟨RX7, TX7, 12, ci_7, by decide, gt_mem 304 (by rfl) (by rfl), rfl⟩
set_option maxRecDepth 100000 in
theorem fl_X7_43 : FL RX7 43 8 1 := ⟨RX8, TX8, 7, ci_8, by decide, gt_mem 252 (by rfl) (by rfl)⟩
set_option maxRecDepth 100000 in
theorem fl_X7_33 : FL RX7 33 7 8 := ⟨RX7, TX7, 12, ci_7, by decide, gt_mem 302 (by rfl) (by rfl)⟩
set_option maxRecDepth 100000 in
theorem fl_X7_49 : FL RX7 49 3 4 := ⟨RX3, TX3, 12, ci_3, by decide, gt_mem 208 (by rfl) (by rfl)⟩
set_option maxRecDepth 100000 in
theorem fl_X7_50 : FL RX7 50 3 7 := ⟨RX3, TX3, 12, ci_3, by decide, gt_mem 216 (by rfl) (by rfl)⟩
set_option maxRecDepth 100000 in
theorem mv_X7_51 : MV RX7 51 yX7_empty cX7_empty 1 none 0 := ⟨gt_mem 632 (by rfl) (by rfl), gt_mem 634 (by rfl) (by rfl), gt_mem 2 (by rfl) (by rfl), gt_mem 67 (by rfl) (by rfl), gt_mem 635 (by rfl) (by rfl), ⟨by decide +kernel, by decide +kernel, by decide +kernel⟩⟩
set_option maxRecDepth 100000 in
theorem mv_X7_54 : MV RX7 54 yX3_placeBy cX3_placeBy 2 (some .int) 1 := ⟨gt_mem 637 (by rfl) (by rfl), gt_mem 638 (by rfl) (by rfl), gt_mem 639 (by rfl) (by rfl), gt_mem 65 (by rfl) (by rfl), gt_mem 640 (by rfl) (by rfl), ⟨by decide +kernel, by decide +kernel, by decide +kernel⟩⟩
set_option maxRecDepth 100000 in
theorem fp_X7_58 : FP RX7 58 7 11 := ⟨RX7, TX7, 12, ci_7, by decide, gt_mem 305 (by rfl) (by rfl), rfl⟩
set_option maxRecDepth 100000 in
theorem fl_X7_62 : FL RX7 62 8 0 := ⟨RX8, TX8, 7, ci_8, by decide, gt_mem 250 (by rfl) (by rfl)⟩
set_option maxRecDepth 100000 in
theorem fl_X7_66 : FL RX7 66 6 8 := ⟨RX6, TX6, 12, ci_6, by decide, gt_mem 120 (by rfl) (by rfl)⟩
set_option maxRecDepth 100000 in
theorem fl_X7_71 : FL RX7 71 6 9 := ⟨RX6, TX6, 12, ci_6, by decide, gt_mem 124 (by rfl) (by rfl)⟩
set_option maxRecDepth 100000 in
theorem mv_X7_74 : MV RX7 74 yX7_begin cX7_begin 6 none 4 := ⟨gt_mem 651 (by rfl) (by rfl), gt_mem 653 (by rfl) (by rfl), gt_mem 3 (by rfl) (by rfl), gt_mem 67 (by rfl) (by rfl), gt_mem 654 (by rfl) (by rfl), ⟨by decide +kernel, by decide +kernel, by decide +kernel⟩⟩
set_option maxRecDepth 100000 in
theorem mv_X7_78 : MV RX7 78 yX3_noiseBy cX3_noiseBy 4 (some .int) 2 := ⟨gt_mem 658 (by rfl) (by rfl), gt_mem 659 (by rfl) (by rfl), gt_mem 660 (by rfl) (by rfl), gt_mem 65 (by rfl) (by rfl), gt_mem 661 (by rfl) (by rfl), ⟨by decide +kernel, by decide +kernel, by decide +kernel⟩⟩
set_option maxRecDepth 100000 in
theorem mv_X7_82 : MV RX7 82 yX7_go cX7_go 6 none 1 := ⟨gt_mem 662 (by rfl) (by rfl), gt_mem 664 (by rfl) (by rfl), gt_mem 4 (by rfl) (by rfl), gt_mem 67 (by rfl) (by rfl), gt_mem 665 (by rfl) (by rfl), ⟨by decide +kernel, by decide +kernel, by decide +kernel⟩⟩
set_option maxRecDepth 100000 in
theorem mv_X7_86 : MV RX7 86 yX7_goPlainWith cX7_goPlainWith 6 none 5 := ⟨gt_mem 708 (by rfl) (by rfl), gt_mem 709 (by rfl) (by rfl), gt_mem 710 (by rfl) (by rfl), gt_mem 67 (by rfl) (by rfl), gt_mem 711 (by rfl) (by rfl), ⟨by decide +kernel, by decide +kernel, by decide +kernel⟩⟩
set_option maxRecDepth 100000 in
theorem mv_X7_90 : MV RX7 90 yX7_useOwn cX7_useOwn 1 none 0 := ⟨gt_mem 712 (by rfl) (by rfl), gt_mem 714 (by rfl) (by rfl), gt_mem 8 (by rfl) (by rfl), gt_mem 67 (by rfl) (by rfl), gt_mem 715 (by rfl) (by rfl), ⟨by decide +kernel, by decide +kernel, by decide +kernel⟩⟩
set_option maxRecDepth 100000 in
theorem mv_X7_93 : MV RX7 93 yX8_told cX8_told 3 (some .int) 2 := ⟨gt_mem 1098 (by rfl) (by rfl), gt_mem 697 (by rfl) (by rfl), gt_mem 698 (by rfl) (by rfl), gt_mem 62 (by rfl) (by rfl), gt_mem 699 (by rfl) (by rfl), ⟨by decide +kernel, by decide +kernel, by decide +kernel⟩⟩
set_option maxRecDepth 100000 in
theorem fl_X7_37 : FL RX7 37 7 9 := ⟨RX7, TX7, 12, ci_7, by decide, gt_mem 303 (by rfl) (by rfl)⟩
set_option maxRecDepth 100000 in
theorem ms_X7_96 : MS RX7 96 yJ7_fill_53178 cJ7_fill_53178 4 none 2 := ⟨gt_mem 636 (by rfl) (by rfl), gt_mem 195 (by rfl) (by rfl), gt_mem 66 (by rfl) (by rfl), gt_mem 196 (by rfl) (by rfl), ⟨by decide +kernel, by decide +kernel, by decide +kernel⟩⟩
set_option maxRecDepth 100000 in
theorem fl_X7_40 : FL RX7 40 7 10 := ⟨RX7, TX7, 12, ci_7, by decide, gt_mem 304 (by rfl) (by rfl)⟩
set_option maxRecDepth 100000 in
theorem fl_X7_102 : FL RX7 102 6 1 := ⟨RX6, TX6, 12, ci_6, by decide, gt_mem 106 (by rfl) (by rfl)⟩
set_option maxRecDepth 100000 in
theorem fp_X7_105 : FP RX7 105 7 3 := ⟨RX7, TX7, 12, ci_7, by decide, gt_mem 297 (by rfl) (by rfl), rfl⟩
set_option maxRecDepth 100000 in
theorem fl_X7_108 : FL RX7 108 6 2 := ⟨RX6, TX6, 12, ci_6, by decide, gt_mem 108 (by rfl) (by rfl)⟩
set_option maxRecDepth 100000 in
theorem fl_X7_15 : FL RX7 15 7 2 := ⟨RX7, TX7, 12, ci_7, by decide, gt_mem 296 (by rfl) (by rfl)⟩
set_option maxRecDepth 100000 in
theorem fl_X7_105 : FL RX7 105 7 3 := ⟨RX7, TX7, 12, ci_7, by decide, gt_mem 297 (by rfl) (by rfl)⟩
set_option maxRecDepth 100000 in
theorem fl_X7_115 : FL RX7 115 6 3 := ⟨RX6, TX6, 12, ci_6, by decide, gt_mem 111 (by rfl) (by rfl)⟩
set_option maxRecDepth 100000 in
theorem fl_X7_118 : FL RX7 118 6 6 := ⟨RX6, TX6, 12, ci_6, by decide, gt_mem 116 (by rfl) (by rfl)⟩
set_option maxRecDepth 100000 in
theorem fl_X7_121 : FL RX7 121 6 5 := ⟨RX6, TX6, 12, ci_6, by decide, gt_mem 114 (by rfl) (by rfl)⟩
set_option maxRecDepth 100000 in
theorem fl_X7_21 : FL RX7 21 7 5 := ⟨RX7, TX7, 12, ci_7, by decide, gt_mem 299 (by rfl) (by rfl)⟩
set_option maxRecDepth 100000 in
theorem fl_X7_18 : FL RX7 18 7 4 := ⟨RX7, TX7, 12, ci_7, by decide, gt_mem 298 (by rfl) (by rfl)⟩
set_option maxRecDepth 100000 in
theorem fl_X7_124 : FL RX7 124 6 11 := ⟨RX6, TX6, 12, ci_6, by decide, gt_mem 129 (by rfl) (by rfl)⟩
set_option maxRecDepth 100000 in
theorem fl_X7_9 : FL RX7 9 7 0 := ⟨RX7, TX7, 12, ci_7, by decide, gt_mem 290 (by rfl) (by rfl)⟩
set_option maxRecDepth 100000 in
theorem fl_X7_127 : FL RX7 127 3 0 := ⟨RX3, TX3, 12, ci_3, by decide, gt_mem 199 (by rfl) (by rfl)⟩
set_option maxRecDepth 100000 in
theorem mv_X7_130 : MV RX7 130 yX7_leap cX7_leap 4 (some .int) 1 := ⟨gt_mem 666 (by rfl) (by rfl), gt_mem 668 (by rfl) (by rfl), gt_mem 5 (by rfl) (by rfl), gt_mem 67 (by rfl) (by rfl), gt_mem 669 (by rfl) (by rfl), ⟨by decide +kernel, by decide +kernel, by decide +kernel⟩⟩
set_option maxRecDepth 100000 in
theorem mv_X7_133 : MV RX7 133 yX7_work cX7_work 6 (some .int) 2 := ⟨gt_mem 671 (by rfl) (by rfl), gt_mem 673 (by rfl) (by rfl), gt_mem 6 (by rfl) (by rfl), gt_mem 67 (by rfl) (by rfl), gt_mem 674 (by rfl) (by rfl), ⟨by decide +kernel, by decide +kernel, by decide +kernel⟩⟩
set_option maxRecDepth 100000 in
theorem fp_X7_136 : FP RX7 136 7 1 := ⟨RX7, TX7, 12, ci_7, by decide, gt_mem 294 (by rfl) (by rfl), rfl⟩
set_option maxRecDepth 100000 in
theorem fl_X7_136 : FL RX7 136 7 1 := ⟨RX7, TX7, 12, ci_7, by decide, gt_mem 294 (by rfl) (by rfl)⟩
set_option maxRecDepth 100000 in
theorem fl_X7_140 : FL RX7 140 3 3 := ⟨RX3, TX3, 12, ci_3, by decide, gt_mem 206 (by rfl) (by rfl)⟩
set_option maxRecDepth 100000 in
theorem fl_X7_143 : FL RX7 143 3 6 := ⟨RX3, TX3, 12, ci_3, by decide, gt_mem 214 (by rfl) (by rfl)⟩
set_option maxRecDepth 100000 in
theorem mv_X7_146 : MV RX7 146 yX7_touched cX7_touched 5 (some .int) 1 := ⟨gt_mem 675 (by rfl) (by rfl), gt_mem 677 (by rfl) (by rfl), gt_mem 7 (by rfl) (by rfl), gt_mem 67 (by rfl) (by rfl), gt_mem 678 (by rfl) (by rfl), ⟨by decide +kernel, by decide +kernel, by decide +kernel⟩⟩
set_option maxRecDepth 100000 in
theorem mn_X7_149 : MN RX7 149 yX11_leftOver "FastWhy" cX11_leftOver 3 (some .int) 2 := ⟨by decide +kernel, gt_mem 649 (by rfl) (by rfl), gt_mem 61 (by rfl) (by rfl), gt_mem 650 (by rfl) (by rfl), ⟨by decide +kernel, by decide +kernel, by decide +kernel⟩⟩
set_option maxRecDepth 100000 in
theorem fl_X7_58 : FL RX7 58 7 11 := ⟨RX7, TX7, 12, ci_7, by decide, gt_mem 305 (by rfl) (by rfl)⟩
set_option maxRecDepth 100000 in
theorem fl_X7_152 : FL RX7 152 3 2 := ⟨RX3, TX3, 12, ci_3, by decide, gt_mem 204 (by rfl) (by rfl)⟩
set_option maxRecDepth 100000 in
theorem mn_X7_155 : MN RX7 155 yX11_cutBy "FastWhy" cX11_cutBy 2 (some .int) 2 := ⟨by decide +kernel, gt_mem 680 (by rfl) (by rfl), gt_mem 61 (by rfl) (by rfl), gt_mem 681 (by rfl) (by rfl), ⟨by decide +kernel, by decide +kernel, by decide +kernel⟩⟩
set_option maxRecDepth 100000 in
theorem fl_X7_158 : FL RX7 158 3 1 := ⟨RX3, TX3, 12, ci_3, by decide, gt_mem 201 (by rfl) (by rfl)⟩
set_option maxRecDepth 100000 in
theorem fl_X7_160 : FL RX7 160 3 5 := ⟨RX3, TX3, 12, ci_3, by decide, gt_mem 211 (by rfl) (by rfl)⟩
set_option maxRecDepth 100000 in
theorem ff_X8_12 : FF RX8 12 8 0 := ⟨RX8, TX8, 7, ci_8, by decide, gt_mem 247 (by rfl) (by rfl), rfl, rfl⟩
set_option maxRecDepth 100000 in
theorem ff_X8_20 : FF RX8 20 8 1 := ⟨RX8, TX8, 7, ci_8, by decide, gt_mem 251 (by rfl) (by rfl), rfl, rfl⟩
set_option maxRecDepth 100000 in
theorem ff_X8_27 : FF RX8 27 8 2 := ⟨RX8, TX8, 7, ci_8, by decide, gt_mem 254 (by rfl) (by rfl), rfl, rfl⟩
set_option maxRecDepth 100000 in
theorem ff_X8_31 : FF RX8 31 8 3 := ⟨RX8, TX8, 7, ci_8, by decide, gt_mem 256 (by rfl) (by rfl), rfl, rfl⟩
set_option maxRecDepth 100000 in
theorem ff_X8_35 : FF RX8 35 8 5 := ⟨RX8, TX8, 7, ci_8, by decide, gt_mem 262 (by rfl) (by rfl), rfl, rfl⟩
set_option maxRecDepth 100000 in
theorem fl_X8_20 : FL RX8 20 8 1 := ⟨RX8, TX8, 7, ci_8, by decide, gt_mem 251 (by rfl) (by rfl)⟩
set_option maxRecDepth 100000 in
theorem fl_X8_12 : FL RX8 12 8 0 := ⟨RX8, TX8, 7, ci_8, by decide, gt_mem 247 (by rfl) (by rfl)⟩
set_option maxRecDepth 100000 in
theorem mv_X8_39 : MV RX8 39 yX6_takeFrom cX6_takeFrom 2 none 1 := ⟨gt_mem 1111 (by rfl) (by rfl), gt_mem 1112 (by rfl) (by rfl), gt_mem 1113 (by rfl) (by rfl), gt_mem 63 (by rfl) (by rfl), gt_mem 1114 (by rfl) (by rfl), ⟨by decide +kernel, by decide +kernel, by decide +kernel⟩⟩
set_option maxRecDepth 100000 in
theorem mv_X8_43 : MV RX8 43 yX3_takeFrom cX3_takeFrom 2 none 1 := ⟨gt_mem 1116 (by rfl) (by rfl), gt_mem 1117 (by rfl) (by rfl), gt_mem 1118 (by rfl) (by rfl), gt_mem 65 (by rfl) (by rfl), gt_mem 1119 (by rfl) (by rfl), ⟨by decide +kernel, by decide +kernel, by decide +kernel⟩⟩
set_option maxRecDepth 100000 in
theorem fl_X8_27 : FL RX8 27 8 2 := ⟨RX8, TX8, 7, ci_8, by decide, gt_mem 254 (by rfl) (by rfl)⟩
set_option maxRecDepth 100000 in
theorem mv_X8_46 : MV RX8 46 yX5_takeFrom cX5_takeFrom 2 none 1 := ⟨gt_mem 1121 (by rfl) (by rfl), gt_mem 1122 (by rfl) (by rfl), gt_mem 1123 (by rfl) (by rfl), gt_mem 64 (by rfl) (by rfl), gt_mem 1124 (by rfl) (by rfl), ⟨by decide +kernel, by decide +kernel, by decide +kernel⟩⟩
set_option maxRecDepth 100000 in
theorem fl_X8_31 : FL RX8 31 8 3 := ⟨RX8, TX8, 7, ci_8, by decide, gt_mem 256 (by rfl) (by rfl)⟩
set_option maxRecDepth 100000 in
theorem fl_X8_55 : FL RX8 55 8 4 := ⟨RX8, TX8, 7, ci_8, by decide, gt_mem 259 (by rfl) (by rfl)⟩
set_option maxRecDepth 100000 in
theorem fp_X8_55 : FP RX8 55 8 4 := ⟨RX8, TX8, 7, ci_8, by decide, gt_mem 259 (by rfl) (by rfl), rfl⟩
set_option maxRecDepth 100000 in
theorem fl_X8_35 : FL RX8 35 8 5 := ⟨RX8, TX8, 7, ci_8, by decide, gt_mem 262 (by rfl) (by rfl)⟩
set_option maxRecDepth 100000 in
theorem fl_X8_59 : FL RX8 59 8 6 := ⟨RX8, TX8, 7, ci_8, by decide, gt_mem 264 (by rfl) (by rfl)⟩
set_option maxRecDepth 100000 in
theorem fp_X8_59 : FP RX8 59 8 6 := ⟨RX8, TX8, 7, ci_8, by decide, gt_mem 264 (by rfl) (by rfl), rfl⟩
set_option maxRecDepth 100000 in
theorem mv_X8_62 : MV RX8 62 yX8_tell cX8_tell 4 none 3 := ⟨gt_mem 686 (by rfl) (by rfl), gt_mem 687 (by rfl) (by rfl), gt_mem 688 (by rfl) (by rfl), gt_mem 62 (by rfl) (by rfl), gt_mem 689 (by rfl) (by rfl), ⟨by decide +kernel, by decide +kernel, by decide +kernel⟩⟩
set_option maxRecDepth 100000 in
theorem mv_X8_66 : MV RX8 66 yX8_told cX8_told 3 (some .int) 2 := ⟨gt_mem 732 (by rfl) (by rfl), gt_mem 697 (by rfl) (by rfl), gt_mem 698 (by rfl) (by rfl), gt_mem 62 (by rfl) (by rfl), gt_mem 699 (by rfl) (by rfl), ⟨by decide +kernel, by decide +kernel, by decide +kernel⟩⟩
set_option maxRecDepth 100000 in
theorem mv_X8_70 : MV RX8 70 yX0_clear cX0_clear 1 none 0 := ⟨gt_mem 724 (by rfl) (by rfl), gt_mem 725 (by rfl) (by rfl), gt_mem 726 (by rfl) (by rfl), gt_mem 68 (by rfl) (by rfl), gt_mem 727 (by rfl) (by rfl), ⟨by decide +kernel, by decide +kernel, by decide +kernel⟩⟩
set_option maxRecDepth 100000 in
theorem mv_X8_75 : MV RX8 75 yX8_isTimedOn cX8_isTimedOn 3 (some .boolean) 2 := ⟨gt_mem 728 (by rfl) (by rfl), gt_mem 729 (by rfl) (by rfl), gt_mem 730 (by rfl) (by rfl), gt_mem 62 (by rfl) (by rfl), gt_mem 731 (by rfl) (by rfl), ⟨by decide +kernel, by decide +kernel, by decide +kernel⟩⟩
set_option maxRecDepth 100000 in
theorem mv_X8_79 : MV RX8 79 yX0_add cX0_add 3 none 1 := ⟨gt_mem 733 (by rfl) (by rfl), gt_mem 734 (by rfl) (by rfl), gt_mem 735 (by rfl) (by rfl), gt_mem 68 (by rfl) (by rfl), gt_mem 736 (by rfl) (by rfl), ⟨by decide +kernel, by decide +kernel, by decide +kernel⟩⟩
set_option maxRecDepth 100000 in
theorem ff_X9_11 : FF RX9 11 9 1 := ⟨RX9, TX9, 9, ci_9, by decide, gt_mem 404 (by rfl) (by rfl), rfl, rfl⟩
set_option maxRecDepth 100000 in
theorem fp_X9_15 : FP RX9 15 9 2 := ⟨RX9, TX9, 9, ci_9, by decide, gt_mem 405 (by rfl) (by rfl), rfl⟩
set_option maxRecDepth 100000 in
theorem fp_X9_19 : FP RX9 19 9 3 := ⟨RX9, TX9, 9, ci_9, by decide, gt_mem 406 (by rfl) (by rfl), rfl⟩
set_option maxRecDepth 100000 in
theorem fp_X9_23 : FP RX9 23 9 4 := ⟨RX9, TX9, 9, ci_9, by decide, gt_mem 407 (by rfl) (by rfl), rfl⟩
set_option maxRecDepth 100000 in
theorem fp_X9_27 : FP RX9 27 9 5 := ⟨RX9, TX9, 9, ci_9, by decide, gt_mem 408 (by rfl) (by rfl), rfl⟩
set_option maxRecDepth 100000 in
theorem fp_X9_30 : FP RX9 30 9 6 := ⟨RX9, TX9, 9, ci_9, by decide, gt_mem 409 (by rfl) (by rfl), rfl⟩
set_option maxRecDepth 100000 in
theorem fp_X9_33 : FP RX9 33 9 7 := ⟨RX9, TX9, 9, ci_9, by decide, gt_mem 410 (by rfl) (by rfl), rfl⟩
set_option maxRecDepth 100000 in
theorem fl_X9_36 : FL RX9 36 8 0 := ⟨RX8, TX8, 7, ci_8, by decide, gt_mem 249 (by rfl) (by rfl)⟩
set_option maxRecDepth 100000 in
theorem fl_X9_42 : FL RX9 42 6 9 := ⟨RX6, TX6, 12, ci_6, by decide, gt_mem 123 (by rfl) (by rfl)⟩
set_option maxRecDepth 100000 in
theorem fp_X9_47 : FP RX9 47 9 8 := ⟨RX9, TX9, 9, ci_9, by decide, gt_mem 411 (by rfl) (by rfl), rfl⟩
set_option maxRecDepth 100000 in
theorem fp_X9_50 : FP RX9 50 9 0 := ⟨RX9, TX9, 9, ci_9, by decide, gt_mem 402 (by rfl) (by rfl), rfl⟩
set_option maxRecDepth 100000 in
theorem fl_X9_47 : FL RX9 47 9 8 := ⟨RX9, TX9, 9, ci_9, by decide, gt_mem 411 (by rfl) (by rfl)⟩
set_option maxRecDepth 100000 in
theorem ms_X9_53 : MS RX9 53 yJ6_bitCount_0f7a4 cJ6_bitCount_0f7a4 1 (some .int) 1 := ⟨gt_mem 866 (by rfl) (by rfl), gt_mem 867 (by rfl) (by rfl), gt_mem 77 (by rfl) (by rfl), gt_mem 868 (by rfl) (by rfl), ⟨by decide +kernel, by decide +kernel, by decide +kernel⟩⟩
set_option maxRecDepth 100000 in
theorem fl_X9_50 : FL RX9 50 9 0 := ⟨RX9, TX9, 9, ci_9, by decide, gt_mem 402 (by rfl) (by rfl)⟩
set_option maxRecDepth 100000 in
theorem mv_X9_59 : MV RX9 59 yX9_holdsFound cX9_holdsFound 3 (some .boolean) 1 := ⟨gt_mem 872 (by rfl) (by rfl), gt_mem 874 (by rfl) (by rfl), gt_mem 14 (by rfl) (by rfl), gt_mem 71 (by rfl) (by rfl), gt_mem 875 (by rfl) (by rfl), ⟨by decide +kernel, by decide +kernel, by decide +kernel⟩⟩
set_option maxRecDepth 100000 in
theorem mv_X9_63 : MV RX9 63 yX9_brings cX9_brings 2 (some .boolean) 1 := ⟨gt_mem 857 (by rfl) (by rfl), gt_mem 859 (by rfl) (by rfl), gt_mem 13 (by rfl) (by rfl), gt_mem 71 (by rfl) (by rfl), gt_mem 860 (by rfl) (by rfl), ⟨by decide +kernel, by decide +kernel, by decide +kernel⟩⟩
set_option maxRecDepth 100000 in
theorem fl_X9_11 : FL RX9 11 9 1 := ⟨RX9, TX9, 9, ci_9, by decide, gt_mem 404 (by rfl) (by rfl)⟩
set_option maxRecDepth 100000 in
theorem fl_X9_15 : FL RX9 15 9 2 := ⟨RX9, TX9, 9, ci_9, by decide, gt_mem 405 (by rfl) (by rfl)⟩
set_option maxRecDepth 100000 in
theorem fl_X9_19 : FL RX9 19 9 3 := ⟨RX9, TX9, 9, ci_9, by decide, gt_mem 406 (by rfl) (by rfl)⟩
set_option maxRecDepth 100000 in
theorem fl_X9_23 : FL RX9 23 9 4 := ⟨RX9, TX9, 9, ci_9, by decide, gt_mem 407 (by rfl) (by rfl)⟩
set_option maxRecDepth 100000 in
theorem fl_X9_27 : FL RX9 27 9 5 := ⟨RX9, TX9, 9, ci_9, by decide, gt_mem 408 (by rfl) (by rfl)⟩
set_option maxRecDepth 100000 in
theorem fl_X9_30 : FL RX9 30 9 6 := ⟨RX9, TX9, 9, ci_9, by decide, gt_mem 409 (by rfl) (by rfl)⟩
set_option maxRecDepth 100000 in
theorem mv_X9_66 : MV RX9 66 yX7_goPlainWith cX7_goPlainWith 6 none 5 := ⟨gt_mem 861 (by rfl) (by rfl), gt_mem 709 (by rfl) (by rfl), gt_mem 710 (by rfl) (by rfl), gt_mem 67 (by rfl) (by rfl), gt_mem 711 (by rfl) (by rfl), ⟨by decide +kernel, by decide +kernel, by decide +kernel⟩⟩
set_option maxRecDepth 100000 in
theorem fl_X9_72 : FL RX9 72 7 1 := ⟨RX7, TX7, 12, ci_7, by decide, gt_mem 293 (by rfl) (by rfl)⟩
set_option maxRecDepth 100000 in
theorem fl_X9_76 : FL RX9 76 7 0 := ⟨RX7, TX7, 12, ci_7, by decide, gt_mem 291 (by rfl) (by rfl)⟩
set_option maxRecDepth 100000 in
theorem fl_X9_33 : FL RX9 33 9 7 := ⟨RX9, TX9, 9, ci_9, by decide, gt_mem 410 (by rfl) (by rfl)⟩
set_option maxRecDepth 100000 in
theorem ff_X10_9 : FF RX10 9 10 0 := ⟨RX10, TX10, 3, ci_10, by decide, gt_mem 354 (by rfl) (by rfl), rfl, rfl⟩
set_option maxRecDepth 100000 in
theorem ff_X10_13 : FF RX10 13 10 1 := ⟨RX10, TX10, 3, ci_10, by decide, gt_mem 355 (by rfl) (by rfl), rfl, rfl⟩
set_option maxRecDepth 100000 in
theorem ff_X10_16 : FF RX10 16 10 2 := ⟨RX10, TX10, 3, ci_10, by decide, gt_mem 356 (by rfl) (by rfl), rfl, rfl⟩
set_option maxRecDepth 100000 in
theorem fl_X10_9 : FL RX10 9 10 0 := ⟨RX10, TX10, 3, ci_10, by decide, gt_mem 354 (by rfl) (by rfl)⟩
set_option maxRecDepth 100000 in
theorem mv_X10_19 : MV RX10 19 yX10_sumsOfSets cX10_sumsOfSets 8 (some .int) 5 := ⟨gt_mem 774 (by rfl) (by rfl), gt_mem 776 (by rfl) (by rfl), gt_mem 9 (by rfl) (by rfl), gt_mem 69 (by rfl) (by rfl), gt_mem 777 (by rfl) (by rfl), ⟨by decide +kernel, by decide +kernel, by decide +kernel⟩⟩
set_option maxRecDepth 100000 in
theorem fl_X10_13 : FL RX10 13 10 1 := ⟨RX10, TX10, 3, ci_10, by decide, gt_mem 355 (by rfl) (by rfl)⟩
set_option maxRecDepth 100000 in
theorem mv_X10_23 : MV RX10 23 yX10_addToEach cX10_addToEach 7 none 3 := ⟨gt_mem 778 (by rfl) (by rfl), gt_mem 780 (by rfl) (by rfl), gt_mem 10 (by rfl) (by rfl), gt_mem 69 (by rfl) (by rfl), gt_mem 781 (by rfl) (by rfl), ⟨by decide +kernel, by decide +kernel, by decide +kernel⟩⟩
set_option maxRecDepth 100000 in
theorem fl_X10_16 : FL RX10 16 10 2 := ⟨RX10, TX10, 3, ci_10, by decide, gt_mem 356 (by rfl) (by rfl)⟩
set_option maxRecDepth 100000 in
theorem ff_X11_10 : FF RX11 10 11 0 := ⟨RX11, TX11, 10, ci_11, by decide, gt_mem 491 (by rfl) (by rfl), rfl, rfl⟩
set_option maxRecDepth 100000 in
theorem ff_X11_16 : FF RX11 16 11 1 := ⟨RX11, TX11, 10, ci_11, by decide, gt_mem 492 (by rfl) (by rfl), rfl, rfl⟩
set_option maxRecDepth 100000 in
theorem ff_X11_20 : FF RX11 20 11 2 := ⟨RX11, TX11, 10, ci_11, by decide, gt_mem 493 (by rfl) (by rfl), rfl, rfl⟩
set_option maxRecDepth 100000 in
theorem ff_X11_27 : FF RX11 27 11 3 := ⟨RX11, TX11, 10, ci_11, by decide, gt_mem 494 (by rfl) (by rfl), rfl, rfl⟩
set_option maxRecDepth 100000 in
theorem ff_X11_34 : FF RX11 34 11 4 := ⟨RX11, TX11, 10, ci_11, by decide, gt_mem 495 (by rfl) (by rfl), rfl, rfl⟩
set_option maxRecDepth 100000 in
theorem ff_X11_41 : FF RX11 41 11 5 := ⟨RX11, TX11, 10, ci_11, by decide, gt_mem 496 (by rfl) (by rfl), rfl, rfl⟩
set_option maxRecDepth 100000 in
theorem ff_X11_48 : FF RX11 48 11 6 := ⟨RX11, TX11, 10, ci_11, by decide, gt_mem 497 (by rfl) (by rfl), rfl, rfl⟩
set_option maxRecDepth 100000 in
theorem ff_X11_55 : FF RX11 55 11 7 := ⟨RX11, TX11, 10, ci_11, by decide, gt_mem 498 (by rfl) (by rfl), rfl, rfl⟩
set_option maxRecDepth 100000 in
theorem ff_X11_62 : FF RX11 62 11 8 := ⟨RX11, TX11, 10, ci_11, by decide, gt_mem 499 (by rfl) (by rfl), rfl, rfl⟩
set_option maxRecDepth 100000 in
theorem ff_X11_69 : FF RX11 69 11 9 := ⟨RX11, TX11, 10, ci_11, by decide, gt_mem 500 (by rfl) (by rfl), rfl, rfl⟩
set_option maxRecDepth 100000 in
theorem fl_X11_16 : FL RX11 16 11 1 := ⟨RX11, TX11, 10, ci_11, by decide, gt_mem 492 (by rfl) (by rfl)⟩
set_option maxRecDepth 100000 in
theorem fl_X11_10 : FL RX11 10 11 0 := ⟨RX11, TX11, 10, ci_11, by decide, gt_mem 491 (by rfl) (by rfl)⟩
set_option maxRecDepth 100000 in
theorem fl_X11_73 : FL RX11 73 8 0 := ⟨RX8, TX8, 7, ci_8, by decide, gt_mem 248 (by rfl) (by rfl)⟩
set_option maxRecDepth 100000 in
theorem mv_X11_77 : MV RX11 77 yX6_addProgram cX6_addProgram 1 (some .int) 0 := ⟨gt_mem 526 (by rfl) (by rfl), gt_mem 527 (by rfl) (by rfl), gt_mem 528 (by rfl) (by rfl), gt_mem 63 (by rfl) (by rfl), gt_mem 529 (by rfl) (by rfl), ⟨by decide +kernel, by decide +kernel, by decide +kernel⟩⟩
set_option maxRecDepth 100000 in
theorem fl_X11_83 : FL RX11 83 6 0 := ⟨RX6, TX6, 12, ci_6, by decide, gt_mem 103 (by rfl) (by rfl)⟩
set_option maxRecDepth 100000 in
theorem ms_X11_87 : MS RX11 87 yX11_isOut cX11_isOut 2 (some .boolean) 2 := ⟨gt_mem 534 (by rfl) (by rfl), gt_mem 535 (by rfl) (by rfl), gt_mem 61 (by rfl) (by rfl), gt_mem 536 (by rfl) (by rfl), ⟨by decide +kernel, by decide +kernel, by decide +kernel⟩⟩
set_option maxRecDepth 100000 in
theorem ms_X11_91 : MS RX11 91 yX11_isLine cX11_isLine 4 (some .boolean) 4 := ⟨gt_mem 537 (by rfl) (by rfl), gt_mem 538 (by rfl) (by rfl), gt_mem 61 (by rfl) (by rfl), gt_mem 539 (by rfl) (by rfl), ⟨by decide +kernel, by decide +kernel, by decide +kernel⟩⟩
set_option maxRecDepth 100000 in
theorem mv_X11_95 : MV RX11 95 yX6_isBuilt cX6_isBuilt 3 (some .boolean) 1 := ⟨gt_mem 546 (by rfl) (by rfl), gt_mem 547 (by rfl) (by rfl), gt_mem 548 (by rfl) (by rfl), gt_mem 63 (by rfl) (by rfl), gt_mem 549 (by rfl) (by rfl), ⟨by decide +kernel, by decide +kernel, by decide +kernel⟩⟩
set_option maxRecDepth 100000 in
theorem mv_X11_99 : MV RX11 99 yX6_addLine cX6_addLine 7 (some .int) 5 := ⟨gt_mem 550 (by rfl) (by rfl), gt_mem 551 (by rfl) (by rfl), gt_mem 552 (by rfl) (by rfl), gt_mem 63 (by rfl) (by rfl), gt_mem 553 (by rfl) (by rfl), ⟨by decide +kernel, by decide +kernel, by decide +kernel⟩⟩
set_option maxRecDepth 100000 in
theorem fl_X11_103 : FL RX11 103 6 1 := ⟨RX6, TX6, 12, ci_6, by decide, gt_mem 105 (by rfl) (by rfl)⟩
set_option maxRecDepth 100000 in
theorem mv_X11_107 : MV RX11 107 yX6_addChange cX6_addChange 7 (some .int) 6 := ⟨gt_mem 561 (by rfl) (by rfl), gt_mem 562 (by rfl) (by rfl), gt_mem 563 (by rfl) (by rfl), gt_mem 63 (by rfl) (by rfl), gt_mem 564 (by rfl) (by rfl), ⟨by decide +kernel, by decide +kernel, by decide +kernel⟩⟩
set_option maxRecDepth 100000 in
theorem fl_X11_111 : FL RX11 111 6 3 := ⟨RX6, TX6, 12, ci_6, by decide, gt_mem 110 (by rfl) (by rfl)⟩
set_option maxRecDepth 100000 in
theorem mv_X11_114 : MV RX11 114 yX6_fits cX6_fits 8 (some .boolean) 2 := ⟨gt_mem 569 (by rfl) (by rfl), gt_mem 570 (by rfl) (by rfl), gt_mem 571 (by rfl) (by rfl), gt_mem 63 (by rfl) (by rfl), gt_mem 572 (by rfl) (by rfl), ⟨by decide +kernel, by decide +kernel, by decide +kernel⟩⟩
set_option maxRecDepth 100000 in
theorem mv_X11_117 : MV RX11 117 yX6_addBuild cX6_addBuild 3 (some .int) 2 := ⟨gt_mem 573 (by rfl) (by rfl), gt_mem 574 (by rfl) (by rfl), gt_mem 575 (by rfl) (by rfl), gt_mem 63 (by rfl) (by rfl), gt_mem 576 (by rfl) (by rfl), ⟨by decide +kernel, by decide +kernel, by decide +kernel⟩⟩
set_option maxRecDepth 100000 in
theorem ms_X11_121 : MS RX11 121 yX11_isNotSmall cX11_isNotSmall 1 (some .boolean) 1 := ⟨gt_mem 540 (by rfl) (by rfl), gt_mem 541 (by rfl) (by rfl), gt_mem 61 (by rfl) (by rfl), gt_mem 542 (by rfl) (by rfl), ⟨by decide +kernel, by decide +kernel, by decide +kernel⟩⟩
set_option maxRecDepth 100000 in
theorem mv_X11_124 : MV RX11 124 yX6_addSetting cX6_addSetting 6 (some .int) 4 := ⟨gt_mem 581 (by rfl) (by rfl), gt_mem 582 (by rfl) (by rfl), gt_mem 583 (by rfl) (by rfl), gt_mem 63 (by rfl) (by rfl), gt_mem 584 (by rfl) (by rfl), ⟨by decide +kernel, by decide +kernel, by decide +kernel⟩⟩
set_option maxRecDepth 100000 in
theorem ms_X11_128 : MS RX11 128 yX11_isBeyond cX11_isBeyond 3 (some .boolean) 3 := ⟨gt_mem 543 (by rfl) (by rfl), gt_mem 544 (by rfl) (by rfl), gt_mem 61 (by rfl) (by rfl), gt_mem 545 (by rfl) (by rfl), ⟨by decide +kernel, by decide +kernel, by decide +kernel⟩⟩
set_option maxRecDepth 100000 in
theorem fl_X11_132 : FL RX11 132 8 1 := ⟨RX8, TX8, 7, ci_8, by decide, gt_mem 253 (by rfl) (by rfl)⟩
set_option maxRecDepth 100000 in
theorem fl_X11_136 : FL RX11 136 3 0 := ⟨RX3, TX3, 12, ci_3, by decide, gt_mem 198 (by rfl) (by rfl)⟩
set_option maxRecDepth 100000 in
theorem mv_X11_141 : MV RX11 141 yX3_tellCache cX3_tellCache 4 none 3 := ⟨gt_mem 593 (by rfl) (by rfl), gt_mem 594 (by rfl) (by rfl), gt_mem 595 (by rfl) (by rfl), gt_mem 65 (by rfl) (by rfl), gt_mem 596 (by rfl) (by rfl), ⟨by decide +kernel, by decide +kernel, by decide +kernel⟩⟩
set_option maxRecDepth 100000 in
theorem mv_X11_145 : MV RX11 145 yX3_tellGuesses cX3_tellGuesses 3 none 2 := ⟨gt_mem 601 (by rfl) (by rfl), gt_mem 602 (by rfl) (by rfl), gt_mem 603 (by rfl) (by rfl), gt_mem 65 (by rfl) (by rfl), gt_mem 604 (by rfl) (by rfl), ⟨by decide +kernel, by decide +kernel, by decide +kernel⟩⟩
set_option maxRecDepth 100000 in
theorem mv_X11_149 : MV RX11 149 yX3_tellNoise cX3_tellNoise 5 none 4 := ⟨gt_mem 609 (by rfl) (by rfl), gt_mem 610 (by rfl) (by rfl), gt_mem 611 (by rfl) (by rfl), gt_mem 65 (by rfl) (by rfl), gt_mem 612 (by rfl) (by rfl), ⟨by decide +kernel, by decide +kernel, by decide +kernel⟩⟩
set_option maxRecDepth 100000 in
theorem mv_X11_153 : MV RX11 153 yX11_isNoSpot cX11_isNoSpot 4 (some .boolean) 3 := ⟨gt_mem 617 (by rfl) (by rfl), gt_mem 619 (by rfl) (by rfl), gt_mem 0 (by rfl) (by rfl), gt_mem 61 (by rfl) (by rfl), gt_mem 620 (by rfl) (by rfl), ⟨by decide +kernel, by decide +kernel, by decide +kernel⟩⟩
set_option maxRecDepth 100000 in
theorem ms_X11_156 : MS RX11 156 yX11_isNoHour cX11_isNoHour 1 (some .boolean) 1 := ⟨gt_mem 621 (by rfl) (by rfl), gt_mem 622 (by rfl) (by rfl), gt_mem 61 (by rfl) (by rfl), gt_mem 623 (by rfl) (by rfl), ⟨by decide +kernel, by decide +kernel, by decide +kernel⟩⟩
set_option maxRecDepth 100000 in
theorem fl_X11_159 : FL RX11 159 8 4 := ⟨RX8, TX8, 7, ci_8, by decide, gt_mem 261 (by rfl) (by rfl)⟩
set_option maxRecDepth 100000 in
theorem mv_X11_162 : MV RX11 162 yX11_goAndKeep cX11_goAndKeep 8 (some .int) 6 := ⟨gt_mem 624 (by rfl) (by rfl), gt_mem 626 (by rfl) (by rfl), gt_mem 1 (by rfl) (by rfl), gt_mem 61 (by rfl) (by rfl), gt_mem 627 (by rfl) (by rfl), ⟨by decide +kernel, by decide +kernel, by decide +kernel⟩⟩
set_option maxRecDepth 100000 in
theorem kc_X11_166 : Cond.constant RX11 166 (-2000000000) ∈ gtb := gt_mem 695 (by rfl) (by rfl)
set_option maxRecDepth 100000 in
theorem mv_X11_167 : MV RX11 167 yX8_told cX8_told 3 (some .int) 2 := ⟨gt_mem 696 (by rfl) (by rfl), gt_mem 697 (by rfl) (by rfl), gt_mem 698 (by rfl) (by rfl), gt_mem 62 (by rfl) (by rfl), gt_mem 699 (by rfl) (by rfl), ⟨by decide +kernel, by decide +kernel, by decide +kernel⟩⟩
set_option maxRecDepth 100000 in
theorem fl_X11_27 : FL RX11 27 11 3 := ⟨RX11, TX11, 10, ci_11, by decide, gt_mem 494 (by rfl) (by rfl)⟩
set_option maxRecDepth 100000 in
theorem mv_X11_170 : MV RX11 170 yX7_goPlain cX7_goPlain 5 none 4 := ⟨gt_mem 704 (by rfl) (by rfl), gt_mem 705 (by rfl) (by rfl), gt_mem 706 (by rfl) (by rfl), gt_mem 67 (by rfl) (by rfl), gt_mem 707 (by rfl) (by rfl), ⟨by decide +kernel, by decide +kernel, by decide +kernel⟩⟩
set_option maxRecDepth 100000 in
theorem fl_X11_174 : FL RX11 174 7 0 := ⟨RX7, TX7, 12, ci_7, by decide, gt_mem 292 (by rfl) (by rfl)⟩
set_option maxRecDepth 100000 in
theorem fl_X11_34 : FL RX11 34 11 4 := ⟨RX11, TX11, 10, ci_11, by decide, gt_mem 495 (by rfl) (by rfl)⟩
set_option maxRecDepth 100000 in
theorem mv_X11_177 : MV RX11 177 yX8_gather cX8_gather 7 none 5 := ⟨gt_mem 720 (by rfl) (by rfl), gt_mem 721 (by rfl) (by rfl), gt_mem 722 (by rfl) (by rfl), gt_mem 62 (by rfl) (by rfl), gt_mem 723 (by rfl) (by rfl), ⟨by decide +kernel, by decide +kernel, by decide +kernel⟩⟩
set_option maxRecDepth 100000 in
theorem fl_X11_181 : FL RX11 181 0 1 := ⟨RX0, TX0, 2, ci_0, by decide, gt_mem 342 (by rfl) (by rfl)⟩
set_option maxRecDepth 100000 in
theorem mv_X11_184 : MV RX11 184 yX0_least cX0_least 1 (some .int) 0 := ⟨gt_mem 737 (by rfl) (by rfl), gt_mem 738 (by rfl) (by rfl), gt_mem 739 (by rfl) (by rfl), gt_mem 68 (by rfl) (by rfl), gt_mem 740 (by rfl) (by rfl), ⟨by decide +kernel, by decide +kernel, by decide +kernel⟩⟩
set_option maxRecDepth 100000 in
theorem mv_X11_187 : MV RX11 187 yX0_greatest cX0_greatest 1 (some .int) 0 := ⟨gt_mem 741 (by rfl) (by rfl), gt_mem 742 (by rfl) (by rfl), gt_mem 743 (by rfl) (by rfl), gt_mem 68 (by rfl) (by rfl), gt_mem 744 (by rfl) (by rfl), ⟨by decide +kernel, by decide +kernel, by decide +kernel⟩⟩
set_option maxRecDepth 100000 in
theorem mv_X11_190 : MV RX11 190 yX0_middle cX0_middle 1 (some .int) 0 := ⟨gt_mem 745 (by rfl) (by rfl), gt_mem 746 (by rfl) (by rfl), gt_mem 747 (by rfl) (by rfl), gt_mem 68 (by rfl) (by rfl), gt_mem 748 (by rfl) (by rfl), ⟨by decide +kernel, by decide +kernel, by decide +kernel⟩⟩
set_option maxRecDepth 100000 in
theorem fl_X11_193 : FL RX11 193 6 7 := ⟨RX6, TX6, 12, ci_6, by decide, gt_mem 118 (by rfl) (by rfl)⟩
set_option maxRecDepth 100000 in
theorem fl_X11_196 : FL RX11 196 8 2 := ⟨RX8, TX8, 7, ci_8, by decide, gt_mem 255 (by rfl) (by rfl)⟩
set_option maxRecDepth 100000 in
theorem fl_X11_200 : FL RX11 200 5 1 := ⟨RX5, TX5, 6, ci_5, by decide, gt_mem 167 (by rfl) (by rfl)⟩
set_option maxRecDepth 100000 in
theorem mv_X11_203 : MV RX11 203 yX5_add cX5_add 2 none 1 := ⟨gt_mem 753 (by rfl) (by rfl), gt_mem 754 (by rfl) (by rfl), gt_mem 755 (by rfl) (by rfl), gt_mem 64 (by rfl) (by rfl), gt_mem 756 (by rfl) (by rfl), ⟨by decide +kernel, by decide +kernel, by decide +kernel⟩⟩
set_option maxRecDepth 100000 in
theorem kc_X11_207 : Cond.constant RX11 207 (-1000000000) ∈ gtb := gt_mem 761 (by rfl) (by rfl)
set_option maxRecDepth 100000 in
theorem fl_X11_208 : FL RX11 208 5 0 := ⟨RX5, TX5, 6, ci_5, by decide, gt_mem 165 (by rfl) (by rfl)⟩
set_option maxRecDepth 100000 in
theorem fp_X11_200 : FP RX11 200 5 1 := ⟨RX5, TX5, 6, ci_5, by decide, gt_mem 167 (by rfl) (by rfl), rfl⟩
set_option maxRecDepth 100000 in
theorem fl_X11_41 : FL RX11 41 11 5 := ⟨RX11, TX11, 10, ci_11, by decide, gt_mem 496 (by rfl) (by rfl)⟩
set_option maxRecDepth 100000 in
theorem mv_X11_211 : MV RX11 211 yX10_dealt cX10_dealt 11 (some .int) 3 := ⟨gt_mem 770 (by rfl) (by rfl), gt_mem 771 (by rfl) (by rfl), gt_mem 772 (by rfl) (by rfl), gt_mem 69 (by rfl) (by rfl), gt_mem 773 (by rfl) (by rfl), ⟨by decide +kernel, by decide +kernel, by decide +kernel⟩⟩
set_option maxRecDepth 100000 in
theorem mv_X11_215 : MV RX11 215 yX5_lastLook cX5_lastLook 1 (some .int) 0 := ⟨gt_mem 787 (by rfl) (by rfl), gt_mem 788 (by rfl) (by rfl), gt_mem 789 (by rfl) (by rfl), gt_mem 64 (by rfl) (by rfl), gt_mem 790 (by rfl) (by rfl), ⟨by decide +kernel, by decide +kernel, by decide +kernel⟩⟩
set_option maxRecDepth 100000 in
theorem mv_X11_218 : MV RX11 218 yX5_addLook cX5_addLook 2 (some .int) 1 := ⟨gt_mem 791 (by rfl) (by rfl), gt_mem 792 (by rfl) (by rfl), gt_mem 793 (by rfl) (by rfl), gt_mem 64 (by rfl) (by rfl), gt_mem 794 (by rfl) (by rfl), ⟨by decide +kernel, by decide +kernel, by decide +kernel⟩⟩
set_option maxRecDepth 100000 in
theorem fp_X11_222 : FP RX11 222 5 4 := ⟨RX5, TX5, 6, ci_5, by decide, gt_mem 173 (by rfl) (by rfl), rfl⟩
set_option maxRecDepth 100000 in
theorem fp_X11_225 : FP RX11 225 5 5 := ⟨RX5, TX5, 6, ci_5, by decide, gt_mem 175 (by rfl) (by rfl), rfl⟩
set_option maxRecDepth 100000 in
theorem fp_X11_228 : FP RX11 228 5 3 := ⟨RX5, TX5, 6, ci_5, by decide, gt_mem 171 (by rfl) (by rfl), rfl⟩
set_option maxRecDepth 100000 in
theorem mv_X11_231 : MV RX11 231 yX5_judge cX5_judge 4 (some .int) 2 := ⟨gt_mem 803 (by rfl) (by rfl), gt_mem 804 (by rfl) (by rfl), gt_mem 805 (by rfl) (by rfl), gt_mem 64 (by rfl) (by rfl), gt_mem 806 (by rfl) (by rfl), ⟨by decide +kernel, by decide +kernel, by decide +kernel⟩⟩
set_option maxRecDepth 100000 in
theorem kc_X11_235 : Cond.constant RX11 235 (100000) ∈ gtb := gt_mem 823 (by rfl) (by rfl)
set_option maxRecDepth 100000 in
theorem fl_X11_48 : FL RX11 48 11 6 := ⟨RX11, TX11, 10, ci_11, by decide, gt_mem 497 (by rfl) (by rfl)⟩
set_option maxRecDepth 100000 in
theorem mv_X11_236 : MV RX11 236 yX1_gather cX1_gather 7 none 5 := ⟨gt_mem 824 (by rfl) (by rfl), gt_mem 825 (by rfl) (by rfl), gt_mem 826 (by rfl) (by rfl), gt_mem 70 (by rfl) (by rfl), gt_mem 827 (by rfl) (by rfl), ⟨by decide +kernel, by decide +kernel, by decide +kernel⟩⟩
set_option maxRecDepth 100000 in
theorem mv_X11_239 : MV RX11 239 yX1_find cX1_find 2 (some .boolean) 0 := ⟨gt_mem 830 (by rfl) (by rfl), gt_mem 831 (by rfl) (by rfl), gt_mem 832 (by rfl) (by rfl), gt_mem 70 (by rfl) (by rfl), gt_mem 833 (by rfl) (by rfl), ⟨by decide +kernel, by decide +kernel, by decide +kernel⟩⟩
set_option maxRecDepth 100000 in
theorem fl_X11_243 : FL RX11 243 1 0 := ⟨RX1, TX1, 7, ci_1, by decide, gt_mem 373 (by rfl) (by rfl)⟩
set_option maxRecDepth 100000 in
theorem fl_X11_246 : FL RX11 246 1 1 := ⟨RX1, TX1, 7, ci_1, by decide, gt_mem 375 (by rfl) (by rfl)⟩
set_option maxRecDepth 100000 in
theorem mv_X11_249 : MV RX11 249 yX1_couldBe cX1_couldBe 4 (some .int) 1 := ⟨gt_mem 841 (by rfl) (by rfl), gt_mem 842 (by rfl) (by rfl), gt_mem 843 (by rfl) (by rfl), gt_mem 70 (by rfl) (by rfl), gt_mem 844 (by rfl) (by rfl), ⟨by decide +kernel, by decide +kernel, by decide +kernel⟩⟩
set_option maxRecDepth 100000 in
theorem fl_X11_252 : FL RX11 252 6 8 := ⟨RX6, TX6, 12, ci_6, by decide, gt_mem 121 (by rfl) (by rfl)⟩
set_option maxRecDepth 100000 in
theorem fl_X11_255 : FL RX11 255 7 1 := ⟨RX7, TX7, 12, ci_7, by decide, gt_mem 295 (by rfl) (by rfl)⟩
set_option maxRecDepth 100000 in
theorem fl_X11_55 : FL RX11 55 11 7 := ⟨RX11, TX11, 10, ci_11, by decide, gt_mem 498 (by rfl) (by rfl)⟩
set_option maxRecDepth 100000 in
theorem mv_X11_259 : MV RX11 259 yX9_ask cX9_ask 8 none 7 := ⟨gt_mem 849 (by rfl) (by rfl), gt_mem 850 (by rfl) (by rfl), gt_mem 851 (by rfl) (by rfl), gt_mem 71 (by rfl) (by rfl), gt_mem 852 (by rfl) (by rfl), ⟨by decide +kernel, by decide +kernel, by decide +kernel⟩⟩
set_option maxRecDepth 100000 in
theorem mv_X11_263 : MV RX11 263 yX9_alone cX9_alone 3 (some .int) 0 := ⟨gt_mem 853 (by rfl) (by rfl), gt_mem 854 (by rfl) (by rfl), gt_mem 855 (by rfl) (by rfl), gt_mem 71 (by rfl) (by rfl), gt_mem 856 (by rfl) (by rfl), ⟨by decide +kernel, by decide +kernel, by decide +kernel⟩⟩
set_option maxRecDepth 100000 in
theorem mv_X11_266 : MV RX11 266 yX9_findLeast cX9_findLeast 4 none 0 := ⟨gt_mem 862 (by rfl) (by rfl), gt_mem 863 (by rfl) (by rfl), gt_mem 864 (by rfl) (by rfl), gt_mem 71 (by rfl) (by rfl), gt_mem 865 (by rfl) (by rfl), ⟨by decide +kernel, by decide +kernel, by decide +kernel⟩⟩
set_option maxRecDepth 100000 in
theorem fl_X11_269 : FL RX11 269 9 0 := ⟨RX9, TX9, 9, ci_9, by decide, gt_mem 403 (by rfl) (by rfl)⟩
set_option maxRecDepth 100000 in
theorem mv_X11_270 : MV RX11 270 yX9_fewest cX9_fewest 3 (some .int) 0 := ⟨gt_mem 876 (by rfl) (by rfl), gt_mem 877 (by rfl) (by rfl), gt_mem 878 (by rfl) (by rfl), gt_mem 71 (by rfl) (by rfl), gt_mem 879 (by rfl) (by rfl), ⟨by decide +kernel, by decide +kernel, by decide +kernel⟩⟩
set_option maxRecDepth 100000 in
theorem kc_X11_273 : Cond.constantLong RX11 273 (-2000000000000000000) ∈ gtb := gt_mem 884 (by rfl) (by rfl)
set_option maxRecDepth 100000 in
theorem mv_X11_275 : MV RX11 275 yX8_isTimedOn cX8_isTimedOn 3 (some .boolean) 2 := ⟨gt_mem 885 (by rfl) (by rfl), gt_mem 729 (by rfl) (by rfl), gt_mem 730 (by rfl) (by rfl), gt_mem 62 (by rfl) (by rfl), gt_mem 731 (by rfl) (by rfl), ⟨by decide +kernel, by decide +kernel, by decide +kernel⟩⟩
set_option maxRecDepth 100000 in
theorem mv_X11_278 : MV RX11 278 yX8_tell cX8_tell 4 none 3 := ⟨gt_mem 690 (by rfl) (by rfl), gt_mem 687 (by rfl) (by rfl), gt_mem 688 (by rfl) (by rfl), gt_mem 62 (by rfl) (by rfl), gt_mem 689 (by rfl) (by rfl), ⟨by decide +kernel, by decide +kernel, by decide +kernel⟩⟩
set_option maxRecDepth 100000 in
theorem ms_X11_281 : MS RX11 281 yX11_areNoCounts cX11_areNoCounts 3 (some .boolean) 3 := ⟨gt_mem 894 (by rfl) (by rfl), gt_mem 895 (by rfl) (by rfl), gt_mem 61 (by rfl) (by rfl), gt_mem 896 (by rfl) (by rfl), ⟨by decide +kernel, by decide +kernel, by decide +kernel⟩⟩
set_option maxRecDepth 100000 in
theorem kc_X11_284 : Cond.constantLong RX11 284 (-2) ∈ gtb := gt_mem 897 (by rfl) (by rfl)
set_option maxRecDepth 100000 in
theorem fl_X11_62 : FL RX11 62 11 8 := ⟨RX11, TX11, 10, ci_11, by decide, gt_mem 499 (by rfl) (by rfl)⟩
set_option maxRecDepth 100000 in
theorem mv_X11_286 : MV RX11 286 yX2_find cX2_find 11 none 5 := ⟨gt_mem 898 (by rfl) (by rfl), gt_mem 899 (by rfl) (by rfl), gt_mem 900 (by rfl) (by rfl), gt_mem 72 (by rfl) (by rfl), gt_mem 901 (by rfl) (by rfl), ⟨by decide +kernel, by decide +kernel, by decide +kernel⟩⟩
set_option maxRecDepth 100000 in
theorem fl_X11_288 : FL RX11 288 2 0 := ⟨RX2, TX2, 9, ci_2, by decide, gt_mem 438 (by rfl) (by rfl)⟩
set_option maxRecDepth 100000 in
theorem fl_X11_291 : FL RX11 291 2 1 := ⟨RX2, TX2, 9, ci_2, by decide, gt_mem 440 (by rfl) (by rfl)⟩
set_option maxRecDepth 100000 in
theorem mv_X11_295 : MV RX11 295 yX2_farthest cX2_farthest 5 (some .int) 0 := ⟨gt_mem 918 (by rfl) (by rfl), gt_mem 919 (by rfl) (by rfl), gt_mem 920 (by rfl) (by rfl), gt_mem 72 (by rfl) (by rfl), gt_mem 921 (by rfl) (by rfl), ⟨by decide +kernel, by decide +kernel, by decide +kernel⟩⟩
set_option maxRecDepth 100000 in
theorem kc_X11_298 : Cond.constantLong RX11 298 (-2000000000) ∈ gtb := gt_mem 930 (by rfl) (by rfl)
set_option maxRecDepth 100000 in
theorem kc_X11_300 : Cond.constantLong RX11 300 (-1000000000) ∈ gtb := gt_mem 931 (by rfl) (by rfl)
set_option maxRecDepth 100000 in
theorem mv_X11_302 : MV RX11 302 yX2_made cX2_made 4 (some .int) 3 := ⟨gt_mem 932 (by rfl) (by rfl), gt_mem 923 (by rfl) (by rfl), gt_mem 924 (by rfl) (by rfl), gt_mem 72 (by rfl) (by rfl), gt_mem 925 (by rfl) (by rfl), ⟨by decide +kernel, by decide +kernel, by decide +kernel⟩⟩
set_option maxRecDepth 100000 in
theorem mv_X11_306 : MV RX11 306 yX2_gatherMisses cX2_gatherMisses 5 none 3 := ⟨gt_mem 933 (by rfl) (by rfl), gt_mem 934 (by rfl) (by rfl), gt_mem 935 (by rfl) (by rfl), gt_mem 72 (by rfl) (by rfl), gt_mem 936 (by rfl) (by rfl), ⟨by decide +kernel, by decide +kernel, by decide +kernel⟩⟩
set_option maxRecDepth 100000 in
theorem kc_X11_310 : Cond.constant RX11 310 (1000000) ∈ gtb := gt_mem 943 (by rfl) (by rfl)
set_option maxRecDepth 100000 in
theorem fl_X11_311 : FL RX11 311 6 10 := ⟨RX6, TX6, 12, ci_6, by decide, gt_mem 127 (by rfl) (by rfl)⟩
set_option maxRecDepth 100000 in
theorem fl_X11_314 : FL RX11 314 8 6 := ⟨RX8, TX8, 7, ci_8, by decide, gt_mem 265 (by rfl) (by rfl)⟩
set_option maxRecDepth 100000 in
theorem fl_X11_317 : FL RX11 317 8 5 := ⟨RX8, TX8, 7, ci_8, by decide, gt_mem 263 (by rfl) (by rfl)⟩
set_option maxRecDepth 100000 in
theorem fp_X11_314 : FP RX11 314 8 6 := ⟨RX8, TX8, 7, ci_8, by decide, gt_mem 265 (by rfl) (by rfl), rfl⟩
set_option maxRecDepth 100000 in
theorem fl_X11_69 : FL RX11 69 11 9 := ⟨RX11, TX11, 10, ci_11, by decide, gt_mem 500 (by rfl) (by rfl)⟩
set_option maxRecDepth 100000 in
theorem mv_X11_320 : MV RX11 320 yX4_work cX4_work 5 (some .long) 2 := ⟨gt_mem 956 (by rfl) (by rfl), gt_mem 957 (by rfl) (by rfl), gt_mem 958 (by rfl) (by rfl), gt_mem 73 (by rfl) (by rfl), gt_mem 959 (by rfl) (by rfl), ⟨by decide +kernel, by decide +kernel, by decide +kernel⟩⟩
set_option maxRecDepth 100000 in
theorem fl_X11_324 : FL RX11 324 4 0 := ⟨RX4, TX4, 5, ci_4, by decide, gt_mem 474 (by rfl) (by rfl)⟩
set_option maxRecDepth 100000 in
theorem mv_X11_327 : MV RX11 327 yX4_know cX4_know 4 none 3 := ⟨gt_mem 1078 (by rfl) (by rfl), gt_mem 1079 (by rfl) (by rfl), gt_mem 1080 (by rfl) (by rfl), gt_mem 73 (by rfl) (by rfl), gt_mem 1081 (by rfl) (by rfl), ⟨by decide +kernel, by decide +kernel, by decide +kernel⟩⟩
set_option maxRecDepth 100000 in
theorem kc_X11_331 : Cond.constant RX11 331 (10000000) ∈ gtb := gt_mem 1089 (by rfl) (by rfl)
set_option maxRecDepth 100000 in
theorem mv_X11_332 : MV RX11 332 yX7_goAgain cX7_goAgain 5 none 2 := ⟨gt_mem 1094 (by rfl) (by rfl), gt_mem 1095 (by rfl) (by rfl), gt_mem 1096 (by rfl) (by rfl), gt_mem 67 (by rfl) (by rfl), gt_mem 1097 (by rfl) (by rfl), ⟨by decide +kernel, by decide +kernel, by decide +kernel⟩⟩
set_option maxRecDepth 100000 in
theorem mv_X11_336 : MV RX11 336 yX8_isAsCounted cX8_isAsCounted 4 (some .boolean) 2 := ⟨gt_mem 1099 (by rfl) (by rfl), gt_mem 1100 (by rfl) (by rfl), gt_mem 1101 (by rfl) (by rfl), gt_mem 62 (by rfl) (by rfl), gt_mem 1102 (by rfl) (by rfl), ⟨by decide +kernel, by decide +kernel, by decide +kernel⟩⟩
set_option maxRecDepth 100000 in
theorem mv_X11_340 : MV RX11 340 yX8_takeFrom cX8_takeFrom 3 none 1 := ⟨gt_mem 1107 (by rfl) (by rfl), gt_mem 1108 (by rfl) (by rfl), gt_mem 1109 (by rfl) (by rfl), gt_mem 62 (by rfl) (by rfl), gt_mem 1110 (by rfl) (by rfl), ⟨by decide +kernel, by decide +kernel, by decide +kernel⟩⟩
set_option maxRecDepth 100000 in
theorem fl_X11_20 : FL RX11 20 11 2 := ⟨RX11, TX11, 10, ci_11, by decide, gt_mem 493 (by rfl) (by rfl)⟩
set_option maxRecDepth 100000 in
theorem mv_X11_344 : MV RX11 344 yX8_voidRuns cX8_voidRuns 3 (some .int) 0 := ⟨gt_mem 1135 (by rfl) (by rfl), gt_mem 1136 (by rfl) (by rfl), gt_mem 1137 (by rfl) (by rfl), gt_mem 62 (by rfl) (by rfl), gt_mem 1138 (by rfl) (by rfl), ⟨by decide +kernel, by decide +kernel, by decide +kernel⟩⟩
set_option maxRecDepth 100000 in
theorem fl_X11_228 : FL RX11 228 5 3 := ⟨RX5, TX5, 6, ci_5, by decide, gt_mem 171 (by rfl) (by rfl)⟩
set_option maxRecDepth 100000 in
theorem kc_X11_347 : Cond.constantLong RX11 347 (349) ∈ gtb := gt_mem 1143 (by rfl) (by rfl)
set_option maxRecDepth 100000 in
theorem kc_X11_349 : Cond.constantLong RX11 349 (31) ∈ gtb := gt_mem 1144 (by rfl) (by rfl)
set_option maxRecDepth 100000 in
theorem mv_X11_351 : MV RX11 351 yX11_count cX11_count 2 (some .int) 1 := ⟨gt_mem 1145 (by rfl) (by rfl), gt_mem 1132 (by rfl) (by rfl), gt_mem 1133 (by rfl) (by rfl), gt_mem 61 (by rfl) (by rfl), gt_mem 1134 (by rfl) (by rfl), ⟨by decide +kernel, by decide +kernel, by decide +kernel⟩⟩
set_option maxRecDepth 100000 in
theorem fl_X11_354 : FL RX11 354 8 3 := ⟨RX8, TX8, 7, ci_8, by decide, gt_mem 257 (by rfl) (by rfl)⟩
set_option maxRecDepth 100000 in
theorem ms_X11_357 : MS RX11 357 yX11_mixed cX11_mixed 5 (some .long) 3 := ⟨gt_mem 1146 (by rfl) (by rfl), gt_mem 1147 (by rfl) (by rfl), gt_mem 61 (by rfl) (by rfl), gt_mem 1148 (by rfl) (by rfl), ⟨by decide +kernel, by decide +kernel, by decide +kernel⟩⟩
set_option maxRecDepth 100000 in
theorem fl_X11_361 : FL RX11 361 5 2 := ⟨RX5, TX5, 6, ci_5, by decide, gt_mem 169 (by rfl) (by rfl)⟩
set_option maxRecDepth 100000 in
theorem fl_X11_222 : FL RX11 222 5 4 := ⟨RX5, TX5, 6, ci_5, by decide, gt_mem 173 (by rfl) (by rfl)⟩
set_option maxRecDepth 100000 in
theorem fl_X11_225 : FL RX11 225 5 5 := ⟨RX5, TX5, 6, ci_5, by decide, gt_mem 175 (by rfl) (by rfl)⟩
set_option maxRecDepth 100000 in
theorem fl_X11_364 : FL RX11 364 6 9 := ⟨RX6, TX6, 12, ci_6, by decide, gt_mem 125 (by rfl) (by rfl)⟩
set_option maxRecDepth 100000 in
theorem fl_X11_367 : FL RX11 367 3 4 := ⟨RX3, TX3, 12, ci_3, by decide, gt_mem 209 (by rfl) (by rfl)⟩
set_option maxRecDepth 100000 in
theorem fl_X11_370 : FL RX11 370 3 1 := ⟨RX3, TX3, 12, ci_3, by decide, gt_mem 202 (by rfl) (by rfl)⟩
set_option maxRecDepth 100000 in
theorem fl_X11_373 : FL RX11 373 3 7 := ⟨RX3, TX3, 12, ci_3, by decide, gt_mem 217 (by rfl) (by rfl)⟩
set_option maxRecDepth 100000 in
theorem fl_X11_376 : FL RX11 376 3 5 := ⟨RX3, TX3, 12, ci_3, by decide, gt_mem 212 (by rfl) (by rfl)⟩
set_option maxRecDepth 100000 in
theorem mv_X11_379 : MV RX11 379 yX7_goKept cX7_goKept 8 none 7 := ⟨gt_mem 628 (by rfl) (by rfl), gt_mem 629 (by rfl) (by rfl), gt_mem 630 (by rfl) (by rfl), gt_mem 67 (by rfl) (by rfl), gt_mem 631 (by rfl) (by rfl), ⟨by decide +kernel, by decide +kernel, by decide +kernel⟩⟩
set_option maxRecDepth 100000 in
theorem mv_X11_383 : MV RX11 383 yX8_addRun cX8_addRun 4 (some .int) 2 := ⟨gt_mem 682 (by rfl) (by rfl), gt_mem 683 (by rfl) (by rfl), gt_mem 684 (by rfl) (by rfl), gt_mem 62 (by rfl) (by rfl), gt_mem 685 (by rfl) (by rfl), ⟨by decide +kernel, by decide +kernel, by decide +kernel⟩⟩
set_option maxRecDepth 100000 in
theorem ff_X12_7 : FF RX12 7 12 0 := ⟨RX12, TX12, 30, ci_12, by decide, gt_mem 1155 (by rfl) (by rfl), rfl, rfl⟩
set_option maxRecDepth 100000 in
theorem ff_X12_13 : FF RX12 13 12 1 := ⟨RX12, TX12, 30, ci_12, by decide, gt_mem 1156 (by rfl) (by rfl), rfl, rfl⟩
set_option maxRecDepth 100000 in
theorem ff_X12_16 : FF RX12 16 12 2 := ⟨RX12, TX12, 30, ci_12, by decide, gt_mem 1157 (by rfl) (by rfl), rfl, rfl⟩
set_option maxRecDepth 100000 in
theorem ff_X12_20 : FF RX12 20 12 3 := ⟨RX12, TX12, 30, ci_12, by decide, gt_mem 1158 (by rfl) (by rfl), rfl, rfl⟩
set_option maxRecDepth 100000 in
theorem ff_X12_23 : FF RX12 23 12 5 := ⟨RX12, TX12, 30, ci_12, by decide, gt_mem 1160 (by rfl) (by rfl), rfl, rfl⟩
set_option maxRecDepth 100000 in
theorem ff_X12_26 : FF RX12 26 12 6 := ⟨RX12, TX12, 30, ci_12, by decide, gt_mem 1161 (by rfl) (by rfl), rfl, rfl⟩
set_option maxRecDepth 100000 in
theorem ff_X12_29 : FF RX12 29 12 7 := ⟨RX12, TX12, 30, ci_12, by decide, gt_mem 1162 (by rfl) (by rfl), rfl, rfl⟩
set_option maxRecDepth 100000 in
theorem ff_X12_32 : FF RX12 32 12 8 := ⟨RX12, TX12, 30, ci_12, by decide, gt_mem 1163 (by rfl) (by rfl), rfl, rfl⟩
set_option maxRecDepth 100000 in
theorem ff_X12_35 : FF RX12 35 12 9 := ⟨RX12, TX12, 30, ci_12, by decide, gt_mem 1164 (by rfl) (by rfl), rfl, rfl⟩
set_option maxRecDepth 100000 in
theorem ff_X12_38 : FF RX12 38 12 11 := ⟨RX12, TX12, 30, ci_12, by decide, gt_mem 1166 (by rfl) (by rfl), rfl, rfl⟩
set_option maxRecDepth 100000 in
theorem ff_X12_41 : FF RX12 41 12 13 := ⟨RX12, TX12, 30, ci_12, by decide, gt_mem 1168 (by rfl) (by rfl), rfl, rfl⟩
set_option maxRecDepth 100000 in
theorem ff_X12_44 : FF RX12 44 12 14 := ⟨RX12, TX12, 30, ci_12, by decide, gt_mem 1169 (by rfl) (by rfl), rfl, rfl⟩
set_option maxRecDepth 100000 in
theorem ff_X12_47 : FF RX12 47 12 15 := ⟨RX12, TX12, 30, ci_12, by decide, gt_mem 1170 (by rfl) (by rfl), rfl, rfl⟩
set_option maxRecDepth 100000 in
theorem ff_X12_50 : FF RX12 50 12 16 := ⟨RX12, TX12, 30, ci_12, by decide, gt_mem 1171 (by rfl) (by rfl), rfl, rfl⟩
set_option maxRecDepth 100000 in
theorem ff_X12_53 : FF RX12 53 12 17 := ⟨RX12, TX12, 30, ci_12, by decide, gt_mem 1172 (by rfl) (by rfl), rfl, rfl⟩
set_option maxRecDepth 100000 in
theorem ff_X12_56 : FF RX12 56 12 24 := ⟨RX12, TX12, 30, ci_12, by decide, gt_mem 1179 (by rfl) (by rfl), rfl, rfl⟩
set_option maxRecDepth 100000 in
theorem ff_X12_60 : FF RX12 60 12 26 := ⟨RX12, TX12, 30, ci_12, by decide, gt_mem 1181 (by rfl) (by rfl), rfl, rfl⟩
set_option maxRecDepth 100000 in
theorem ff_X12_63 : FF RX12 63 12 28 := ⟨RX12, TX12, 30, ci_12, by decide, gt_mem 1183 (by rfl) (by rfl), rfl, rfl⟩
set_option maxRecDepth 100000 in
theorem fl_X12_7 : FL RX12 7 12 0 := ⟨RX12, TX12, 30, ci_12, by decide, gt_mem 1155 (by rfl) (by rfl)⟩
set_option maxRecDepth 100000 in
theorem mv_X12_66 : MV RX12 66 yX12_many cX12_many 2 (some .int) 1 := ⟨gt_mem 1250 (by rfl) (by rfl), gt_mem 1252 (by rfl) (by rfl), gt_mem 30 (by rfl) (by rfl), gt_mem 74 (by rfl) (by rfl), gt_mem 1253 (by rfl) (by rfl), ⟨by decide +kernel, by decide +kernel, by decide +kernel⟩⟩
set_option maxRecDepth 100000 in
theorem ms_X12_70 : MS RX12 70 yX12_in cX12_in 6 (some .boolean) 3 := ⟨gt_mem 1262 (by rfl) (by rfl), gt_mem 1263 (by rfl) (by rfl), gt_mem 74 (by rfl) (by rfl), gt_mem 1264 (by rfl) (by rfl), ⟨by decide +kernel, by decide +kernel, by decide +kernel⟩⟩
set_option maxRecDepth 100000 in
theorem kc_X12_74 : Cond.constantLong RX12 74 (3) ∈ gtb := gt_mem 1298 (by rfl) (by rfl)
set_option maxRecDepth 100000 in
theorem kc_X12_76 : Cond.constantLong RX12 76 (7) ∈ gtb := gt_mem 1268 (by rfl) (by rfl)
set_option maxRecDepth 100000 in
theorem kc_X12_78 : Cond.constantLong RX12 78 (-1000) ∈ gtb := gt_mem 1269 (by rfl) (by rfl)
set_option maxRecDepth 100000 in
theorem kc_X12_80 : Cond.constantLong RX12 80 (1000) ∈ gtb := gt_mem 1270 (by rfl) (by rfl)
set_option maxRecDepth 100000 in
theorem kc_X12_82 : Cond.constantLong RX12 82 (39) ∈ gtb := gt_mem 1271 (by rfl) (by rfl)
set_option maxRecDepth 100000 in
theorem mv_X12_84 : MV RX12 84 yX12_has cX12_has 3 (some .boolean) 2 := ⟨gt_mem 1258 (by rfl) (by rfl), gt_mem 1260 (by rfl) (by rfl), gt_mem 31 (by rfl) (by rfl), gt_mem 74 (by rfl) (by rfl), gt_mem 1261 (by rfl) (by rfl), ⟨by decide +kernel, by decide +kernel, by decide +kernel⟩⟩
set_option maxRecDepth 100000 in
theorem ms_X12_88 : MS RX12 88 yX12_isLine cX12_isLine 4 (some .boolean) 4 := ⟨gt_mem 1265 (by rfl) (by rfl), gt_mem 1266 (by rfl) (by rfl), gt_mem 74 (by rfl) (by rfl), gt_mem 1267 (by rfl) (by rfl), ⟨by decide +kernel, by decide +kernel, by decide +kernel⟩⟩
set_option maxRecDepth 100000 in
theorem mv_X12_92 : MV RX12 92 yX12_put cX12_put 6 none 5 := ⟨gt_mem 1272 (by rfl) (by rfl), gt_mem 1274 (by rfl) (by rfl), gt_mem 32 (by rfl) (by rfl), gt_mem 74 (by rfl) (by rfl), gt_mem 1275 (by rfl) (by rfl), ⟨by decide +kernel, by decide +kernel, by decide +kernel⟩⟩
set_option maxRecDepth 100000 in
theorem ms_X12_96 : MS RX12 96 yX12_isStart cX12_isStart 1 (some .boolean) 1 := ⟨gt_mem 1288 (by rfl) (by rfl), gt_mem 1289 (by rfl) (by rfl), gt_mem 74 (by rfl) (by rfl), gt_mem 1290 (by rfl) (by rfl), ⟨by decide +kernel, by decide +kernel, by decide +kernel⟩⟩
set_option maxRecDepth 100000 in
theorem ms_X12_100 : MS RX12 100 yX12_isMachine cX12_isMachine 1 (some .boolean) 1 := ⟨gt_mem 1295 (by rfl) (by rfl), gt_mem 1296 (by rfl) (by rfl), gt_mem 74 (by rfl) (by rfl), gt_mem 1297 (by rfl) (by rfl), ⟨by decide +kernel, by decide +kernel, by decide +kernel⟩⟩
set_option maxRecDepth 100000 in
theorem kc_X12_103 : Cond.constantLong RX12 103 (50) ∈ gtb := gt_mem 1299 (by rfl) (by rfl)
set_option maxRecDepth 100000 in
theorem kc_X12_105 : Cond.constantLong RX12 105 (16) ∈ gtb := gt_mem 1304 (by rfl) (by rfl)
set_option maxRecDepth 100000 in
theorem kc_X12_107 : Cond.constantLong RX12 107 (8) ∈ gtb := gt_mem 1305 (by rfl) (by rfl)
set_option maxRecDepth 100000 in
theorem kc_X12_109 : Cond.constantLong RX12 109 (200) ∈ gtb := gt_mem 1306 (by rfl) (by rfl)
set_option maxRecDepth 100000 in
theorem kc_X12_111 : Cond.constantLong RX12 111 (100) ∈ gtb := gt_mem 1311 (by rfl) (by rfl)
set_option maxRecDepth 100000 in
theorem kc_X12_113 : Cond.constantLong RX12 113 (20) ∈ gtb := gt_mem 1316 (by rfl) (by rfl)
set_option maxRecDepth 100000 in
theorem fp_X12_115 : FP RX12 115 12 4 := ⟨RX12, TX12, 30, ci_12, by decide, gt_mem 1159 (by rfl) (by rfl), rfl⟩
set_option maxRecDepth 100000 in
theorem fl_X12_115 : FL RX12 115 12 4 := ⟨RX12, TX12, 30, ci_12, by decide, gt_mem 1159 (by rfl) (by rfl)⟩
set_option maxRecDepth 100000 in
theorem fl_X12_20 : FL RX12 20 12 3 := ⟨RX12, TX12, 30, ci_12, by decide, gt_mem 1158 (by rfl) (by rfl)⟩
set_option maxRecDepth 100000 in
theorem fl_X12_29 : FL RX12 29 12 7 := ⟨RX12, TX12, 30, ci_12, by decide, gt_mem 1162 (by rfl) (by rfl)⟩
set_option maxRecDepth 100000 in
theorem fl_X12_32 : FL RX12 32 12 8 := ⟨RX12, TX12, 30, ci_12, by decide, gt_mem 1163 (by rfl) (by rfl)⟩
set_option maxRecDepth 100000 in
theorem fl_X12_35 : FL RX12 35 12 9 := ⟨RX12, TX12, 30, ci_12, by decide, gt_mem 1164 (by rfl) (by rfl)⟩
set_option maxRecDepth 100000 in
theorem fl_X12_26 : FL RX12 26 12 6 := ⟨RX12, TX12, 30, ci_12, by decide, gt_mem 1161 (by rfl) (by rfl)⟩
set_option maxRecDepth 100000 in
theorem fl_X12_23 : FL RX12 23 12 5 := ⟨RX12, TX12, 30, ci_12, by decide, gt_mem 1160 (by rfl) (by rfl)⟩
set_option maxRecDepth 100000 in
theorem fp_X12_119 : FP RX12 119 12 10 := ⟨RX12, TX12, 30, ci_12, by decide, gt_mem 1165 (by rfl) (by rfl), rfl⟩
set_option maxRecDepth 100000 in
theorem fl_X12_119 : FL RX12 119 12 10 := ⟨RX12, TX12, 30, ci_12, by decide, gt_mem 1165 (by rfl) (by rfl)⟩
set_option maxRecDepth 100000 in
theorem mv_X12_123 : MV RX12 123 yX12_step cX12_step 10 (some .int) 3 := ⟨gt_mem 1355 (by rfl) (by rfl), gt_mem 1357 (by rfl) (by rfl), gt_mem 41 (by rfl) (by rfl), gt_mem 74 (by rfl) (by rfl), gt_mem 1358 (by rfl) (by rfl), ⟨by decide +kernel, by decide +kernel, by decide +kernel⟩⟩
set_option maxRecDepth 100000 in
theorem mv_X12_127 : MV RX12 127 yX12_touch cX12_touch 7 none 3 := ⟨gt_mem 1359 (by rfl) (by rfl), gt_mem 1361 (by rfl) (by rfl), gt_mem 42 (by rfl) (by rfl), gt_mem 74 (by rfl) (by rfl), gt_mem 1362 (by rfl) (by rfl), ⟨by decide +kernel, by decide +kernel, by decide +kernel⟩⟩
set_option maxRecDepth 100000 in
theorem kc_X12_131 : Cond.constant RX12 131 (1103515245) ∈ gtb := gt_mem 1342 (by rfl) (by rfl)
set_option maxRecDepth 100000 in
theorem mv_X12_132 : MV RX12 132 yX12_assemble cX12_assemble 6 none 2 := ⟨gt_mem 1343 (by rfl) (by rfl), gt_mem 1345 (by rfl) (by rfl), gt_mem 38 (by rfl) (by rfl), gt_mem 74 (by rfl) (by rfl), gt_mem 1346 (by rfl) (by rfl), ⟨by decide +kernel, by decide +kernel, by decide +kernel⟩⟩
set_option maxRecDepth 100000 in
theorem mv_X12_136 : MV RX12 136 yX12_bits cX12_bits 2 (some .int) 1 := ⟨gt_mem 1347 (by rfl) (by rfl), gt_mem 1349 (by rfl) (by rfl), gt_mem 39 (by rfl) (by rfl), gt_mem 74 (by rfl) (by rfl), gt_mem 1350 (by rfl) (by rfl), ⟨by decide +kernel, by decide +kernel, by decide +kernel⟩⟩
set_option maxRecDepth 100000 in
theorem mv_X12_139 : MV RX12 139 yX12_goes cX12_goes 7 none 3 := ⟨gt_mem 1351 (by rfl) (by rfl), gt_mem 1353 (by rfl) (by rfl), gt_mem 40 (by rfl) (by rfl), gt_mem 74 (by rfl) (by rfl), gt_mem 1354 (by rfl) (by rfl), ⟨by decide +kernel, by decide +kernel, by decide +kernel⟩⟩
set_option maxRecDepth 100000 in
theorem mv_X12_142 : MV RX12 142 yX12_fetch cX12_fetch 5 none 2 := ⟨gt_mem 1330 (by rfl) (by rfl), gt_mem 1332 (by rfl) (by rfl), gt_mem 35 (by rfl) (by rfl), gt_mem 74 (by rfl) (by rfl), gt_mem 1333 (by rfl) (by rfl), ⟨by decide +kernel, by decide +kernel, by decide +kernel⟩⟩
set_option maxRecDepth 100000 in
theorem mv_X12_146 : MV RX12 146 yX12_empty cX12_empty 2 none 0 := ⟨gt_mem 1334 (by rfl) (by rfl), gt_mem 1336 (by rfl) (by rfl), gt_mem 36 (by rfl) (by rfl), gt_mem 74 (by rfl) (by rfl), gt_mem 1337 (by rfl) (by rfl), ⟨by decide +kernel, by decide +kernel, by decide +kernel⟩⟩
set_option maxRecDepth 100000 in
theorem mv_X12_149 : MV RX12 149 yX12_goesBy cX12_goesBy 10 none 5 := ⟨gt_mem 1338 (by rfl) (by rfl), gt_mem 1340 (by rfl) (by rfl), gt_mem 37 (by rfl) (by rfl), gt_mem 74 (by rfl) (by rfl), gt_mem 1341 (by rfl) (by rfl), ⟨by decide +kernel, by decide +kernel, by decide +kernel⟩⟩
set_option maxRecDepth 100000 in
theorem mv_X12_152 : MV RX12 152 yX12_isThere cX12_isThere 4 (some .boolean) 3 := ⟨gt_mem 1321 (by rfl) (by rfl), gt_mem 1323 (by rfl) (by rfl), gt_mem 33 (by rfl) (by rfl), gt_mem 74 (by rfl) (by rfl), gt_mem 1324 (by rfl) (by rfl), ⟨by decide +kernel, by decide +kernel, by decide +kernel⟩⟩
set_option maxRecDepth 100000 in
theorem kc_X12_156 : Cond.constantLong RX12 156 (23) ∈ gtb := gt_mem 1325 (by rfl) (by rfl)
set_option maxRecDepth 100000 in
theorem mv_X12_158 : MV RX12 158 yX12_keepRun cX12_keepRun 9 none 6 := ⟨gt_mem 1326 (by rfl) (by rfl), gt_mem 1328 (by rfl) (by rfl), gt_mem 34 (by rfl) (by rfl), gt_mem 74 (by rfl) (by rfl), gt_mem 1329 (by rfl) (by rfl), ⟨by decide +kernel, by decide +kernel, by decide +kernel⟩⟩
set_option maxRecDepth 100000 in
theorem kc_X12_162 : Cond.constantLong RX12 162 (13) ∈ gtb := gt_mem 1367 (by rfl) (by rfl)
set_option maxRecDepth 100000 in
theorem kc_X12_164 : Cond.constant RX12 164 (-2000000000) ∈ gtb := gt_mem 1368 (by rfl) (by rfl)
set_option maxRecDepth 100000 in
theorem kc_X12_165 : Cond.constantLong RX12 165 (5) ∈ gtb := gt_mem 1373 (by rfl) (by rfl)
set_option maxRecDepth 100000 in
theorem mv_X12_167 : MV RX12 167 yX12_goesPlain cX12_goesPlain 5 none 4 := ⟨gt_mem 1374 (by rfl) (by rfl), gt_mem 1376 (by rfl) (by rfl), gt_mem 43 (by rfl) (by rfl), gt_mem 74 (by rfl) (by rfl), gt_mem 1377 (by rfl) (by rfl), ⟨by decide +kernel, by decide +kernel, by decide +kernel⟩⟩
set_option maxRecDepth 100000 in
theorem fl_X12_171 : FL RX12 171 12 12 := ⟨RX12, TX12, 30, ci_12, by decide, gt_mem 1167 (by rfl) (by rfl)⟩
set_option maxRecDepth 100000 in
theorem fl_X12_38 : FL RX12 38 12 11 := ⟨RX12, TX12, 30, ci_12, by decide, gt_mem 1166 (by rfl) (by rfl)⟩
set_option maxRecDepth 100000 in
theorem fp_X12_171 : FP RX12 171 12 12 := ⟨RX12, TX12, 30, ci_12, by decide, gt_mem 1167 (by rfl) (by rfl), rfl⟩
set_option maxRecDepth 100000 in
theorem mv_X12_174 : MV RX12 174 yX12_sortIn cX12_sortIn 3 none 1 := ⟨gt_mem 1386 (by rfl) (by rfl), gt_mem 1388 (by rfl) (by rfl), gt_mem 45 (by rfl) (by rfl), gt_mem 74 (by rfl) (by rfl), gt_mem 1389 (by rfl) (by rfl), ⟨by decide +kernel, by decide +kernel, by decide +kernel⟩⟩
set_option maxRecDepth 100000 in
theorem mv_X12_178 : MV RX12 178 yX12_sortRuns cX12_sortRuns 7 none 4 := ⟨gt_mem 1382 (by rfl) (by rfl), gt_mem 1384 (by rfl) (by rfl), gt_mem 44 (by rfl) (by rfl), gt_mem 74 (by rfl) (by rfl), gt_mem 1385 (by rfl) (by rfl), ⟨by decide +kernel, by decide +kernel, by decide +kernel⟩⟩
set_option maxRecDepth 100000 in
theorem mv_X12_181 : MV RX12 181 yX12_middle cX12_middle 2 (some .int) 0 := ⟨gt_mem 1390 (by rfl) (by rfl), gt_mem 1392 (by rfl) (by rfl), gt_mem 46 (by rfl) (by rfl), gt_mem 74 (by rfl) (by rfl), gt_mem 1393 (by rfl) (by rfl), ⟨by decide +kernel, by decide +kernel, by decide +kernel⟩⟩
set_option maxRecDepth 100000 in
theorem kc_X12_185 : Cond.constant RX12 185 (-1000000000) ∈ gtb := gt_mem 1402 (by rfl) (by rfl)
set_option maxRecDepth 100000 in
theorem mv_X12_186 : MV RX12 186 yX12_oddsOf cX12_oddsOf 8 (some .int) 2 := ⟨gt_mem 1411 (by rfl) (by rfl), gt_mem 1413 (by rfl) (by rfl), gt_mem 47 (by rfl) (by rfl), gt_mem 74 (by rfl) (by rfl), gt_mem 1414 (by rfl) (by rfl), ⟨by decide +kernel, by decide +kernel, by decide +kernel⟩⟩
set_option maxRecDepth 100000 in
theorem kc_X12_190 : Cond.constantLong RX12 190 (2) ∈ gtb := gt_mem 1423 (by rfl) (by rfl)
set_option maxRecDepth 100000 in
theorem kc_X12_192 : Cond.constantLong RX12 192 (10000) ∈ gtb := gt_mem 1424 (by rfl) (by rfl)
set_option maxRecDepth 100000 in
theorem fl_X12_41 : FL RX12 41 12 13 := ⟨RX12, TX12, 30, ci_12, by decide, gt_mem 1168 (by rfl) (by rfl)⟩
set_option maxRecDepth 100000 in
theorem kc_X12_194 : Cond.constantLong RX12 194 (100000) ∈ gtb := gt_mem 1433 (by rfl) (by rfl)
set_option maxRecDepth 100000 in
theorem fl_X12_44 : FL RX12 44 12 14 := ⟨RX12, TX12, 30, ci_12, by decide, gt_mem 1169 (by rfl) (by rfl)⟩
set_option maxRecDepth 100000 in
theorem fl_X12_47 : FL RX12 47 12 15 := ⟨RX12, TX12, 30, ci_12, by decide, gt_mem 1170 (by rfl) (by rfl)⟩
set_option maxRecDepth 100000 in
theorem mv_X12_196 : MV RX12 196 yX12_farOf cX12_farOf 6 (some .int) 2 := ⟨gt_mem 1434 (by rfl) (by rfl), gt_mem 1436 (by rfl) (by rfl), gt_mem 48 (by rfl) (by rfl), gt_mem 74 (by rfl) (by rfl), gt_mem 1437 (by rfl) (by rfl), ⟨by decide +kernel, by decide +kernel, by decide +kernel⟩⟩
set_option maxRecDepth 100000 in
theorem fl_X12_50 : FL RX12 50 12 16 := ⟨RX12, TX12, 30, ci_12, by decide, gt_mem 1171 (by rfl) (by rfl)⟩
set_option maxRecDepth 100000 in
theorem fl_X12_53 : FL RX12 53 12 17 := ⟨RX12, TX12, 30, ci_12, by decide, gt_mem 1172 (by rfl) (by rfl)⟩
set_option maxRecDepth 100000 in
theorem kc_X12_200 : Cond.constantLong RX12 200 (4) ∈ gtb := gt_mem 1449 (by rfl) (by rfl)
set_option maxRecDepth 100000 in
theorem ms_X12_202 : MS RX12 202 yX12_isCounter cX12_isCounter 1 (some .boolean) 1 := ⟨gt_mem 1446 (by rfl) (by rfl), gt_mem 1447 (by rfl) (by rfl), gt_mem 74 (by rfl) (by rfl), gt_mem 1448 (by rfl) (by rfl), ⟨by decide +kernel, by decide +kernel, by decide +kernel⟩⟩
set_option maxRecDepth 100000 in
theorem kc_X12_205 : Cond.constantLong RX12 205 (-2000000000000000000) ∈ gtb := gt_mem 1450 (by rfl) (by rfl)
set_option maxRecDepth 100000 in
theorem mv_X12_207 : MV RX12 207 yX12_isOf cX12_isOf 3 (some .boolean) 2 := ⟨gt_mem 1451 (by rfl) (by rfl), gt_mem 1453 (by rfl) (by rfl), gt_mem 49 (by rfl) (by rfl), gt_mem 74 (by rfl) (by rfl), gt_mem 1454 (by rfl) (by rfl), ⟨by decide +kernel, by decide +kernel, by decide +kernel⟩⟩
set_option maxRecDepth 100000 in
theorem kc_X12_210 : Cond.constantLong RX12 210 (-1) ∈ gtb := gt_mem 1471 (by rfl) (by rfl)
set_option maxRecDepth 100000 in
theorem fp_X12_212 : FP RX12 212 12 21 := ⟨RX12, TX12, 30, ci_12, by decide, gt_mem 1176 (by rfl) (by rfl), rfl⟩
set_option maxRecDepth 100000 in
theorem mv_X12_216 : MV RX12 216 yX12_made cX12_made 9 (some .long) 7 := ⟨gt_mem 1472 (by rfl) (by rfl), gt_mem 1474 (by rfl) (by rfl), gt_mem 51 (by rfl) (by rfl), gt_mem 74 (by rfl) (by rfl), gt_mem 1475 (by rfl) (by rfl), ⟨by decide +kernel, by decide +kernel, by decide +kernel⟩⟩
set_option maxRecDepth 100000 in
theorem ms_X12_220 : MS RX12 220 yX12_size cX12_size 2 (some .long) 1 := ⟨gt_mem 1476 (by rfl) (by rfl), gt_mem 1477 (by rfl) (by rfl), gt_mem 74 (by rfl) (by rfl), gt_mem 1478 (by rfl) (by rfl), ⟨by decide +kernel, by decide +kernel, by decide +kernel⟩⟩
set_option maxRecDepth 100000 in
theorem fl_X12_212 : FL RX12 212 12 21 := ⟨RX12, TX12, 30, ci_12, by decide, gt_mem 1176 (by rfl) (by rfl)⟩
set_option maxRecDepth 100000 in
theorem fp_X12_224 : FP RX12 224 12 18 := ⟨RX12, TX12, 30, ci_12, by decide, gt_mem 1173 (by rfl) (by rfl), rfl⟩
set_option maxRecDepth 100000 in
theorem fp_X12_227 : FP RX12 227 12 19 := ⟨RX12, TX12, 30, ci_12, by decide, gt_mem 1174 (by rfl) (by rfl), rfl⟩
set_option maxRecDepth 100000 in
theorem fp_X12_230 : FP RX12 230 12 20 := ⟨RX12, TX12, 30, ci_12, by decide, gt_mem 1175 (by rfl) (by rfl), rfl⟩
set_option maxRecDepth 100000 in
theorem ms_X12_233 : MS RX12 233 yX12_areCounters cX12_areCounters 3 (some .boolean) 3 := ⟨gt_mem 1463 (by rfl) (by rfl), gt_mem 1464 (by rfl) (by rfl), gt_mem 74 (by rfl) (by rfl), gt_mem 1465 (by rfl) (by rfl), ⟨by decide +kernel, by decide +kernel, by decide +kernel⟩⟩
set_option maxRecDepth 100000 in
theorem kc_X12_236 : Cond.constantLong RX12 236 (-2) ∈ gtb := gt_mem 1466 (by rfl) (by rfl)
set_option maxRecDepth 100000 in
theorem mv_X12_238 : MV RX12 238 yX12_fitAll cX12_fitAll 12 none 4 := ⟨gt_mem 1467 (by rfl) (by rfl), gt_mem 1469 (by rfl) (by rfl), gt_mem 50 (by rfl) (by rfl), gt_mem 74 (by rfl) (by rfl), gt_mem 1470 (by rfl) (by rfl), ⟨by decide +kernel, by decide +kernel, by decide +kernel⟩⟩
set_option maxRecDepth 100000 in
theorem fl_X12_224 : FL RX12 224 12 18 := ⟨RX12, TX12, 30, ci_12, by decide, gt_mem 1173 (by rfl) (by rfl)⟩
set_option maxRecDepth 100000 in
theorem fl_X12_227 : FL RX12 227 12 19 := ⟨RX12, TX12, 30, ci_12, by decide, gt_mem 1174 (by rfl) (by rfl)⟩
set_option maxRecDepth 100000 in
theorem fl_X12_230 : FL RX12 230 12 20 := ⟨RX12, TX12, 30, ci_12, by decide, gt_mem 1175 (by rfl) (by rfl)⟩
set_option maxRecDepth 100000 in
theorem kc_X12_241 : Cond.constantLong RX12 241 (-2000000000) ∈ gtb := gt_mem 1483 (by rfl) (by rfl)
set_option maxRecDepth 100000 in
theorem kc_X12_243 : Cond.constantLong RX12 243 (-1000000000) ∈ gtb := gt_mem 1484 (by rfl) (by rfl)
set_option maxRecDepth 100000 in
theorem kc_X12_245 : Cond.constantLong RX12 245 (1000000) ∈ gtb := gt_mem 1489 (by rfl) (by rfl)
set_option maxRecDepth 100000 in
theorem kc_X12_247 : Cond.constantLong RX12 247 (127) ∈ gtb := gt_mem 1494 (by rfl) (by rfl)
set_option maxRecDepth 100000 in
theorem fl_X12_249 : FL RX12 249 12 22 := ⟨RX12, TX12, 30, ci_12, by decide, gt_mem 1177 (by rfl) (by rfl)⟩
set_option maxRecDepth 100000 in
theorem fp_X12_249 : FP RX12 249 12 22 := ⟨RX12, TX12, 30, ci_12, by decide, gt_mem 1177 (by rfl) (by rfl), rfl⟩
set_option maxRecDepth 100000 in
theorem fl_X12_252 : FL RX12 252 12 27 := ⟨RX12, TX12, 30, ci_12, by decide, gt_mem 1182 (by rfl) (by rfl)⟩
set_option maxRecDepth 100000 in
theorem fp_X12_252 : FP RX12 252 12 27 := ⟨RX12, TX12, 30, ci_12, by decide, gt_mem 1182 (by rfl) (by rfl), rfl⟩
set_option maxRecDepth 100000 in
theorem fl_X12_255 : FL RX12 255 12 25 := ⟨RX12, TX12, 30, ci_12, by decide, gt_mem 1180 (by rfl) (by rfl)⟩
set_option maxRecDepth 100000 in
theorem fp_X12_255 : FP RX12 255 12 25 := ⟨RX12, TX12, 30, ci_12, by decide, gt_mem 1180 (by rfl) (by rfl), rfl⟩
set_option maxRecDepth 100000 in
theorem fl_X12_56 : FL RX12 56 12 24 := ⟨RX12, TX12, 30, ci_12, by decide, gt_mem 1179 (by rfl) (by rfl)⟩
set_option maxRecDepth 100000 in
theorem fl_X12_60 : FL RX12 60 12 26 := ⟨RX12, TX12, 30, ci_12, by decide, gt_mem 1181 (by rfl) (by rfl)⟩
set_option maxRecDepth 100000 in
theorem ms_X12_258 : MS RX12 258 yX12_rank cX12_rank 1 (some .int) 1 := ⟨gt_mem 1530 (by rfl) (by rfl), gt_mem 1531 (by rfl) (by rfl), gt_mem 74 (by rfl) (by rfl), gt_mem 1532 (by rfl) (by rfl), ⟨by decide +kernel, by decide +kernel, by decide +kernel⟩⟩
set_option maxRecDepth 100000 in
theorem mv_X12_261 : MV RX12 261 yX12_works cX12_works 7 none 0 := ⟨gt_mem 1533 (by rfl) (by rfl), gt_mem 1535 (by rfl) (by rfl), gt_mem 58 (by rfl) (by rfl), gt_mem 74 (by rfl) (by rfl), gt_mem 1536 (by rfl) (by rfl), ⟨by decide +kernel, by decide +kernel, by decide +kernel⟩⟩
set_option maxRecDepth 100000 in
theorem kc_X12_264 : Cond.constantLong RX12 264 (48) ∈ gtb := gt_mem 1511 (by rfl) (by rfl)
set_option maxRecDepth 100000 in
theorem kc_X12_266 : Cond.constantLong RX12 266 (57) ∈ gtb := gt_mem 1512 (by rfl) (by rfl)
set_option maxRecDepth 100000 in
theorem fp_X12_268 : FP RX12 268 12 23 := ⟨RX12, TX12, 30, ci_12, by decide, gt_mem 1178 (by rfl) (by rfl), rfl⟩
set_option maxRecDepth 100000 in
theorem kc_X12_271 : Cond.constantLong RX12 271 (10) ∈ gtb := gt_mem 1517 (by rfl) (by rfl)
set_option maxRecDepth 100000 in
theorem fl_X12_268 : FL RX12 268 12 23 := ⟨RX12, TX12, 30, ci_12, by decide, gt_mem 1178 (by rfl) (by rfl)⟩
set_option maxRecDepth 100000 in
theorem mv_X12_273 : MV RX12 273 yX12_ahead cX12_ahead 1 (some .int) 0 := ⟨gt_mem 1507 (by rfl) (by rfl), gt_mem 1509 (by rfl) (by rfl), gt_mem 53 (by rfl) (by rfl), gt_mem 74 (by rfl) (by rfl), gt_mem 1510 (by rfl) (by rfl), ⟨by decide +kernel, by decide +kernel, by decide +kernel⟩⟩
set_option maxRecDepth 100000 in
theorem mv_X12_276 : MV RX12 276 yX12_digits cX12_digits 4 (some .long) 0 := ⟨gt_mem 1513 (by rfl) (by rfl), gt_mem 1515 (by rfl) (by rfl), gt_mem 54 (by rfl) (by rfl), gt_mem 74 (by rfl) (by rfl), gt_mem 1516 (by rfl) (by rfl), ⟨by decide +kernel, by decide +kernel, by decide +kernel⟩⟩
set_option maxRecDepth 100000 in
theorem mv_X12_280 : MV RX12 280 yX12_stands cX12_stands 5 none 1 := ⟨gt_mem 1518 (by rfl) (by rfl), gt_mem 1520 (by rfl) (by rfl), gt_mem 55 (by rfl) (by rfl), gt_mem 74 (by rfl) (by rfl), gt_mem 1521 (by rfl) (by rfl), ⟨by decide +kernel, by decide +kernel, by decide +kernel⟩⟩
set_option maxRecDepth 100000 in
theorem mv_X12_284 : MV RX12 284 yX12_nameOf cX12_nameOf 2 (some .int) 1 := ⟨gt_mem 1522 (by rfl) (by rfl), gt_mem 1524 (by rfl) (by rfl), gt_mem 56 (by rfl) (by rfl), gt_mem 74 (by rfl) (by rfl), gt_mem 1525 (by rfl) (by rfl), ⟨by decide +kernel, by decide +kernel, by decide +kernel⟩⟩
set_option maxRecDepth 100000 in
theorem fl_X12_63 : FL RX12 63 12 28 := ⟨RX12, TX12, 30, ci_12, by decide, gt_mem 1183 (by rfl) (by rfl)⟩
set_option maxRecDepth 100000 in
theorem mv_X12_287 : MV RX12 287 yX12_worksDown cX12_worksDown 2 none 1 := ⟨gt_mem 1526 (by rfl) (by rfl), gt_mem 1528 (by rfl) (by rfl), gt_mem 57 (by rfl) (by rfl), gt_mem 74 (by rfl) (by rfl), gt_mem 1529 (by rfl) (by rfl), ⟨by decide +kernel, by decide +kernel, by decide +kernel⟩⟩
set_option maxRecDepth 100000 in
theorem fp_X12_290 : FP RX12 290 12 29 := ⟨RX12, TX12, 30, ci_12, by decide, gt_mem 1184 (by rfl) (by rfl), rfl⟩
set_option maxRecDepth 100000 in
theorem mv_X12_293 : MV RX12 293 yX12_reads cX12_reads 5 (some .boolean) 0 := ⟨gt_mem 1503 (by rfl) (by rfl), gt_mem 1505 (by rfl) (by rfl), gt_mem 52 (by rfl) (by rfl), gt_mem 74 (by rfl) (by rfl), gt_mem 1506 (by rfl) (by rfl), ⟨by decide +kernel, by decide +kernel, by decide +kernel⟩⟩
set_option maxRecDepth 100000 in
theorem fl_X12_290 : FL RX12 290 12 29 := ⟨RX12, TX12, 30, ci_12, by decide, gt_mem 1184 (by rfl) (by rfl)⟩
set_option maxRecDepth 100000 in
theorem kc_X12_297 : Cond.constantLong RX12 297 (10000000) ∈ gtb := gt_mem 1545 (by rfl) (by rfl)
set_option maxRecDepth 100000 in
theorem fl_X12_13 : FL RX12 13 12 1 := ⟨RX12, TX12, 30, ci_12, by decide, gt_mem 1156 (by rfl) (by rfl)⟩
set_option maxRecDepth 100000 in
theorem fl_X12_16 : FL RX12 16 12 2 := ⟨RX12, TX12, 30, ci_12, by decide, gt_mem 1157 (by rfl) (by rfl)⟩
set_option maxRecDepth 100000 in
theorem kc_X12_299 : Cond.constantLong RX12 299 (31) ∈ gtb := gt_mem 1567 (by rfl) (by rfl)
set_option maxRecDepth 100000 in
theorem kc_X12_301 : Cond.constantLong RX12 301 (349) ∈ gtb := gt_mem 1566 (by rfl) (by rfl)
set_option maxRecDepth 100000 in
theorem mv_X12_303 : MV RX12 303 yX12_count cX12_count 4 (some .int) 1 := ⟨gt_mem 1568 (by rfl) (by rfl), gt_mem 1559 (by rfl) (by rfl), gt_mem 1560 (by rfl) (by rfl), gt_mem 74 (by rfl) (by rfl), gt_mem 1561 (by rfl) (by rfl), ⟨by decide +kernel, by decide +kernel, by decide +kernel⟩⟩
set_option maxRecDepth 100000 in
theorem mv_X12_306 : MV RX12 306 yX12_sums cX12_sums 8 (some .long) 3 := ⟨gt_mem 1569 (by rfl) (by rfl), gt_mem 1571 (by rfl) (by rfl), gt_mem 59 (by rfl) (by rfl), gt_mem 74 (by rfl) (by rfl), gt_mem 1572 (by rfl) (by rfl), ⟨by decide +kernel, by decide +kernel, by decide +kernel⟩⟩
set_option maxRecDepth 100000 in
theorem kc_J6_265 : Cond.constant RJ6 265 (1431655765) ∈ gtb := gt_mem 869 (by rfl) (by rfl)
set_option maxRecDepth 100000 in
theorem kc_J6_266 : Cond.constant RJ6 266 (858993459) ∈ gtb := gt_mem 870 (by rfl) (by rfl)
set_option maxRecDepth 100000 in
theorem kc_J6_267 : Cond.constant RJ6 267 (252645135) ∈ gtb := gt_mem 871 (by rfl) (by rfl)
set_option maxRecDepth 100000 in
theorem mv_L_13 : MV RL 13 yX11_program cX11_program 1 (some .int) 0 := ⟨gt_mem 522 (by rfl) (by rfl), gt_mem 523 (by rfl) (by rfl), gt_mem 524 (by rfl) (by rfl), gt_mem 61 (by rfl) (by rfl), gt_mem 525 (by rfl) (by rfl), ⟨by decide +kernel, by decide +kernel, by decide +kernel⟩⟩
set_option maxRecDepth 100000 in
theorem mv_L_17 : MV RL 17 yX12_program cX12_program 1 (some .int) 0 := ⟨gt_mem 1246 (by rfl) (by rfl), gt_mem 1247 (by rfl) (by rfl), gt_mem 1248 (by rfl) (by rfl), gt_mem 74 (by rfl) (by rfl), gt_mem 1249 (by rfl) (by rfl), ⟨by decide +kernel, by decide +kernel, by decide +kernel⟩⟩
set_option maxRecDepth 100000 in
theorem mv_L_18 : MV RL 18 yX11_line cX11_line 7 (some .int) 5 := ⟨gt_mem 530 (by rfl) (by rfl), gt_mem 531 (by rfl) (by rfl), gt_mem 532 (by rfl) (by rfl), gt_mem 61 (by rfl) (by rfl), gt_mem 533 (by rfl) (by rfl), ⟨by decide +kernel, by decide +kernel, by decide +kernel⟩⟩
set_option maxRecDepth 100000 in
theorem mv_L_22 : MV RL 22 yX12_line cX12_line 7 (some .int) 5 := ⟨gt_mem 1254 (by rfl) (by rfl), gt_mem 1255 (by rfl) (by rfl), gt_mem 1256 (by rfl) (by rfl), gt_mem 74 (by rfl) (by rfl), gt_mem 1257 (by rfl) (by rfl), ⟨by decide +kernel, by decide +kernel, by decide +kernel⟩⟩
set_option maxRecDepth 100000 in
theorem mv_L_23 : MV RL 23 yX11_change cX11_change 8 (some .int) 6 := ⟨gt_mem 557 (by rfl) (by rfl), gt_mem 558 (by rfl) (by rfl), gt_mem 559 (by rfl) (by rfl), gt_mem 61 (by rfl) (by rfl), gt_mem 560 (by rfl) (by rfl), ⟨by decide +kernel, by decide +kernel, by decide +kernel⟩⟩
set_option maxRecDepth 100000 in
theorem mv_L_27 : MV RL 27 yX12_change cX12_change 8 (some .int) 6 := ⟨gt_mem 1276 (by rfl) (by rfl), gt_mem 1277 (by rfl) (by rfl), gt_mem 1278 (by rfl) (by rfl), gt_mem 74 (by rfl) (by rfl), gt_mem 1279 (by rfl) (by rfl), ⟨by decide +kernel, by decide +kernel, by decide +kernel⟩⟩
set_option maxRecDepth 100000 in
theorem mv_L_28 : MV RL 28 yX11_build cX11_build 4 (some .int) 2 := ⟨gt_mem 565 (by rfl) (by rfl), gt_mem 566 (by rfl) (by rfl), gt_mem 567 (by rfl) (by rfl), gt_mem 61 (by rfl) (by rfl), gt_mem 568 (by rfl) (by rfl), ⟨by decide +kernel, by decide +kernel, by decide +kernel⟩⟩
set_option maxRecDepth 100000 in
theorem mv_L_32 : MV RL 32 yX12_build cX12_build 5 (some .int) 2 := ⟨gt_mem 1280 (by rfl) (by rfl), gt_mem 1281 (by rfl) (by rfl), gt_mem 1282 (by rfl) (by rfl), gt_mem 74 (by rfl) (by rfl), gt_mem 1283 (by rfl) (by rfl), ⟨by decide +kernel, by decide +kernel, by decide +kernel⟩⟩
set_option maxRecDepth 100000 in
theorem mv_L_33 : MV RL 33 yX11_setting cX11_setting 5 (some .int) 4 := ⟨gt_mem 577 (by rfl) (by rfl), gt_mem 578 (by rfl) (by rfl), gt_mem 579 (by rfl) (by rfl), gt_mem 61 (by rfl) (by rfl), gt_mem 580 (by rfl) (by rfl), ⟨by decide +kernel, by decide +kernel, by decide +kernel⟩⟩
set_option maxRecDepth 100000 in
theorem mv_L_37 : MV RL 37 yX12_setting cX12_setting 6 (some .int) 4 := ⟨gt_mem 1284 (by rfl) (by rfl), gt_mem 1285 (by rfl) (by rfl), gt_mem 1286 (by rfl) (by rfl), gt_mem 74 (by rfl) (by rfl), gt_mem 1287 (by rfl) (by rfl), ⟨by decide +kernel, by decide +kernel, by decide +kernel⟩⟩
set_option maxRecDepth 100000 in
theorem mv_L_38 : MV RL 38 yX11_price cX11_price 6 (some .int) 3 := ⟨gt_mem 585 (by rfl) (by rfl), gt_mem 586 (by rfl) (by rfl), gt_mem 587 (by rfl) (by rfl), gt_mem 61 (by rfl) (by rfl), gt_mem 588 (by rfl) (by rfl), ⟨by decide +kernel, by decide +kernel, by decide +kernel⟩⟩
set_option maxRecDepth 100000 in
theorem mv_L_42 : MV RL 42 yX12_price cX12_price 6 (some .int) 3 := ⟨gt_mem 1291 (by rfl) (by rfl), gt_mem 1292 (by rfl) (by rfl), gt_mem 1293 (by rfl) (by rfl), gt_mem 74 (by rfl) (by rfl), gt_mem 1294 (by rfl) (by rfl), ⟨by decide +kernel, by decide +kernel, by decide +kernel⟩⟩
set_option maxRecDepth 100000 in
theorem mv_L_43 : MV RL 43 yX11_cache cX11_cache 5 (some .int) 4 := ⟨gt_mem 589 (by rfl) (by rfl), gt_mem 590 (by rfl) (by rfl), gt_mem 591 (by rfl) (by rfl), gt_mem 61 (by rfl) (by rfl), gt_mem 592 (by rfl) (by rfl), ⟨by decide +kernel, by decide +kernel, by decide +kernel⟩⟩
set_option maxRecDepth 100000 in
theorem mv_L_46 : MV RL 46 yX12_cache cX12_cache 7 (some .int) 4 := ⟨gt_mem 1300 (by rfl) (by rfl), gt_mem 1301 (by rfl) (by rfl), gt_mem 1302 (by rfl) (by rfl), gt_mem 74 (by rfl) (by rfl), gt_mem 1303 (by rfl) (by rfl), ⟨by decide +kernel, by decide +kernel, by decide +kernel⟩⟩
set_option maxRecDepth 100000 in
theorem mv_L_47 : MV RL 47 yX11_guess cX11_guess 4 (some .int) 3 := ⟨gt_mem 597 (by rfl) (by rfl), gt_mem 598 (by rfl) (by rfl), gt_mem 599 (by rfl) (by rfl), gt_mem 61 (by rfl) (by rfl), gt_mem 600 (by rfl) (by rfl), ⟨by decide +kernel, by decide +kernel, by decide +kernel⟩⟩
set_option maxRecDepth 100000 in
theorem mv_L_50 : MV RL 50 yX12_guess cX12_guess 6 (some .int) 3 := ⟨gt_mem 1307 (by rfl) (by rfl), gt_mem 1308 (by rfl) (by rfl), gt_mem 1309 (by rfl) (by rfl), gt_mem 74 (by rfl) (by rfl), gt_mem 1310 (by rfl) (by rfl), ⟨by decide +kernel, by decide +kernel, by decide +kernel⟩⟩
set_option maxRecDepth 100000 in
theorem mv_L_51 : MV RL 51 yX11_noise cX11_noise 6 (some .int) 5 := ⟨gt_mem 605 (by rfl) (by rfl), gt_mem 606 (by rfl) (by rfl), gt_mem 607 (by rfl) (by rfl), gt_mem 61 (by rfl) (by rfl), gt_mem 608 (by rfl) (by rfl), ⟨by decide +kernel, by decide +kernel, by decide +kernel⟩⟩
set_option maxRecDepth 100000 in
theorem mv_L_55 : MV RL 55 yX12_noise cX12_noise 7 (some .int) 5 := ⟨gt_mem 1312 (by rfl) (by rfl), gt_mem 1313 (by rfl) (by rfl), gt_mem 1314 (by rfl) (by rfl), gt_mem 74 (by rfl) (by rfl), gt_mem 1315 (by rfl) (by rfl), ⟨by decide +kernel, by decide +kernel, by decide +kernel⟩⟩
set_option maxRecDepth 100000 in
theorem mv_L_56 : MV RL 56 yX11_run cX11_run 7 (some .int) 6 := ⟨gt_mem 613 (by rfl) (by rfl), gt_mem 614 (by rfl) (by rfl), gt_mem 615 (by rfl) (by rfl), gt_mem 61 (by rfl) (by rfl), gt_mem 616 (by rfl) (by rfl), ⟨by decide +kernel, by decide +kernel, by decide +kernel⟩⟩
set_option maxRecDepth 100000 in
theorem mv_L_60 : MV RL 60 yX12_run cX12_run 7 (some .int) 6 := ⟨gt_mem 1317 (by rfl) (by rfl), gt_mem 1318 (by rfl) (by rfl), gt_mem 1319 (by rfl) (by rfl), gt_mem 74 (by rfl) (by rfl), gt_mem 1320 (by rfl) (by rfl), ⟨by decide +kernel, by decide +kernel, by decide +kernel⟩⟩
set_option maxRecDepth 100000 in
theorem mv_L_61 : MV RL 61 yX11_of cX11_of 3 (some .int) 2 := ⟨gt_mem 691 (by rfl) (by rfl), gt_mem 692 (by rfl) (by rfl), gt_mem 693 (by rfl) (by rfl), gt_mem 61 (by rfl) (by rfl), gt_mem 694 (by rfl) (by rfl), ⟨by decide +kernel, by decide +kernel, by decide +kernel⟩⟩
set_option maxRecDepth 100000 in
theorem mv_L_64 : MV RL 64 yX12_of cX12_of 3 (some .int) 2 := ⟨gt_mem 1363 (by rfl) (by rfl), gt_mem 1364 (by rfl) (by rfl), gt_mem 1365 (by rfl) (by rfl), gt_mem 74 (by rfl) (by rfl), gt_mem 1366 (by rfl) (by rfl), ⟨by decide +kernel, by decide +kernel, by decide +kernel⟩⟩
set_option maxRecDepth 100000 in
theorem mv_L_65 : MV RL 65 yX11_plain cX11_plain 5 (some .int) 4 := ⟨gt_mem 700 (by rfl) (by rfl), gt_mem 701 (by rfl) (by rfl), gt_mem 702 (by rfl) (by rfl), gt_mem 61 (by rfl) (by rfl), gt_mem 703 (by rfl) (by rfl), ⟨by decide +kernel, by decide +kernel, by decide +kernel⟩⟩
set_option maxRecDepth 100000 in
theorem mv_L_68 : MV RL 68 yX12_plain cX12_plain 5 (some .int) 4 := ⟨gt_mem 1369 (by rfl) (by rfl), gt_mem 1370 (by rfl) (by rfl), gt_mem 1371 (by rfl) (by rfl), gt_mem 74 (by rfl) (by rfl), gt_mem 1372 (by rfl) (by rfl), ⟨by decide +kernel, by decide +kernel, by decide +kernel⟩⟩
set_option maxRecDepth 100000 in
theorem mv_L_69 : MV RL 69 yX11_figure cX11_figure 6 (some .int) 5 := ⟨gt_mem 716 (by rfl) (by rfl), gt_mem 717 (by rfl) (by rfl), gt_mem 718 (by rfl) (by rfl), gt_mem 61 (by rfl) (by rfl), gt_mem 719 (by rfl) (by rfl), ⟨by decide +kernel, by decide +kernel, by decide +kernel⟩⟩
set_option maxRecDepth 100000 in
theorem mv_L_72 : MV RL 72 yX12_figure cX12_figure 6 (some .int) 5 := ⟨gt_mem 1378 (by rfl) (by rfl), gt_mem 1379 (by rfl) (by rfl), gt_mem 1380 (by rfl) (by rfl), gt_mem 74 (by rfl) (by rfl), gt_mem 1381 (by rfl) (by rfl), ⟨by decide +kernel, by decide +kernel, by decide +kernel⟩⟩
set_option maxRecDepth 100000 in
theorem mv_L_73 : MV RL 73 yX11_pair cX11_pair 11 (some .int) 7 := ⟨gt_mem 749 (by rfl) (by rfl), gt_mem 750 (by rfl) (by rfl), gt_mem 751 (by rfl) (by rfl), gt_mem 61 (by rfl) (by rfl), gt_mem 752 (by rfl) (by rfl), ⟨by decide +kernel, by decide +kernel, by decide +kernel⟩⟩
set_option maxRecDepth 100000 in
theorem mv_L_77 : MV RL 77 yX12_pair cX12_pair 10 (some .int) 7 := ⟨gt_mem 1394 (by rfl) (by rfl), gt_mem 1395 (by rfl) (by rfl), gt_mem 1396 (by rfl) (by rfl), gt_mem 74 (by rfl) (by rfl), gt_mem 1397 (by rfl) (by rfl), ⟨by decide +kernel, by decide +kernel, by decide +kernel⟩⟩
set_option maxRecDepth 100000 in
theorem mv_L_78 : MV RL 78 yX11_difference cX11_difference 2 (some .int) 1 := ⟨gt_mem 757 (by rfl) (by rfl), gt_mem 758 (by rfl) (by rfl), gt_mem 759 (by rfl) (by rfl), gt_mem 61 (by rfl) (by rfl), gt_mem 760 (by rfl) (by rfl), ⟨by decide +kernel, by decide +kernel, by decide +kernel⟩⟩
set_option maxRecDepth 100000 in
theorem mv_L_82 : MV RL 82 yX12_difference cX12_difference 2 (some .int) 1 := ⟨gt_mem 1398 (by rfl) (by rfl), gt_mem 1399 (by rfl) (by rfl), gt_mem 1400 (by rfl) (by rfl), gt_mem 74 (by rfl) (by rfl), gt_mem 1401 (by rfl) (by rfl), ⟨by decide +kernel, by decide +kernel, by decide +kernel⟩⟩
set_option maxRecDepth 100000 in
theorem mv_L_83 : MV RL 83 yX11_stand cX11_stand 2 (some .int) 0 := ⟨gt_mem 762 (by rfl) (by rfl), gt_mem 763 (by rfl) (by rfl), gt_mem 764 (by rfl) (by rfl), gt_mem 61 (by rfl) (by rfl), gt_mem 765 (by rfl) (by rfl), ⟨by decide +kernel, by decide +kernel, by decide +kernel⟩⟩
set_option maxRecDepth 100000 in
theorem mv_L_86 : MV RL 86 yX12_stand cX12_stand 2 (some .int) 0 := ⟨gt_mem 1403 (by rfl) (by rfl), gt_mem 1404 (by rfl) (by rfl), gt_mem 1405 (by rfl) (by rfl), gt_mem 74 (by rfl) (by rfl), gt_mem 1406 (by rfl) (by rfl), ⟨by decide +kernel, by decide +kernel, by decide +kernel⟩⟩
set_option maxRecDepth 100000 in
theorem mv_L_87 : MV RL 87 yX11_odds cX11_odds 2 (some .int) 1 := ⟨gt_mem 766 (by rfl) (by rfl), gt_mem 767 (by rfl) (by rfl), gt_mem 768 (by rfl) (by rfl), gt_mem 61 (by rfl) (by rfl), gt_mem 769 (by rfl) (by rfl), ⟨by decide +kernel, by decide +kernel, by decide +kernel⟩⟩
set_option maxRecDepth 100000 in
theorem mv_L_90 : MV RL 90 yX12_odds cX12_odds 2 (some .int) 1 := ⟨gt_mem 1407 (by rfl) (by rfl), gt_mem 1408 (by rfl) (by rfl), gt_mem 1409 (by rfl) (by rfl), gt_mem 74 (by rfl) (by rfl), gt_mem 1410 (by rfl) (by rfl), ⟨by decide +kernel, by decide +kernel, by decide +kernel⟩⟩
set_option maxRecDepth 100000 in
theorem mv_L_91 : MV RL 91 yX11_look cX11_look 3 (some .int) 1 := ⟨gt_mem 783 (by rfl) (by rfl), gt_mem 784 (by rfl) (by rfl), gt_mem 785 (by rfl) (by rfl), gt_mem 61 (by rfl) (by rfl), gt_mem 786 (by rfl) (by rfl), ⟨by decide +kernel, by decide +kernel, by decide +kernel⟩⟩
set_option maxRecDepth 100000 in
theorem mv_L_94 : MV RL 94 yX12_look cX12_look 3 (some .int) 1 := ⟨gt_mem 1415 (by rfl) (by rfl), gt_mem 1416 (by rfl) (by rfl), gt_mem 1417 (by rfl) (by rfl), gt_mem 74 (by rfl) (by rfl), gt_mem 1418 (by rfl) (by rfl), ⟨by decide +kernel, by decide +kernel, by decide +kernel⟩⟩
set_option maxRecDepth 100000 in
theorem mv_L_95 : MV RL 95 yX11_sure cX11_sure 3 (some .int) 2 := ⟨gt_mem 795 (by rfl) (by rfl), gt_mem 796 (by rfl) (by rfl), gt_mem 797 (by rfl) (by rfl), gt_mem 61 (by rfl) (by rfl), gt_mem 798 (by rfl) (by rfl), ⟨by decide +kernel, by decide +kernel, by decide +kernel⟩⟩
set_option maxRecDepth 100000 in
theorem mv_L_98 : MV RL 98 yX12_sure cX12_sure 3 (some .int) 2 := ⟨gt_mem 1419 (by rfl) (by rfl), gt_mem 1420 (by rfl) (by rfl), gt_mem 1421 (by rfl) (by rfl), gt_mem 74 (by rfl) (by rfl), gt_mem 1422 (by rfl) (by rfl), ⟨by decide +kernel, by decide +kernel, by decide +kernel⟩⟩
set_option maxRecDepth 100000 in
theorem mv_L_99 : MV RL 99 yX11_answer cX11_answer 1 (some .int) 0 := ⟨gt_mem 799 (by rfl) (by rfl), gt_mem 800 (by rfl) (by rfl), gt_mem 801 (by rfl) (by rfl), gt_mem 61 (by rfl) (by rfl), gt_mem 802 (by rfl) (by rfl), ⟨by decide +kernel, by decide +kernel, by decide +kernel⟩⟩
set_option maxRecDepth 100000 in
theorem mv_L_102 : MV RL 102 yX12_answer cX12_answer 6 (some .int) 0 := ⟨gt_mem 1425 (by rfl) (by rfl), gt_mem 1426 (by rfl) (by rfl), gt_mem 1427 (by rfl) (by rfl), gt_mem 74 (by rfl) (by rfl), gt_mem 1428 (by rfl) (by rfl), ⟨by decide +kernel, by decide +kernel, by decide +kernel⟩⟩
set_option maxRecDepth 100000 in
theorem mv_L_103 : MV RL 103 yX11_step cX11_step 7 (some .int) 6 := ⟨gt_mem 819 (by rfl) (by rfl), gt_mem 820 (by rfl) (by rfl), gt_mem 821 (by rfl) (by rfl), gt_mem 61 (by rfl) (by rfl), gt_mem 822 (by rfl) (by rfl), ⟨by decide +kernel, by decide +kernel, by decide +kernel⟩⟩
set_option maxRecDepth 100000 in
theorem mv_L_106 : MV RL 106 yX12_step_ cX12_step_ 11 (some .int) 6 := ⟨gt_mem 1429 (by rfl) (by rfl), gt_mem 1430 (by rfl) (by rfl), gt_mem 1431 (by rfl) (by rfl), gt_mem 74 (by rfl) (by rfl), gt_mem 1432 (by rfl) (by rfl), ⟨by decide +kernel, by decide +kernel, by decide +kernel⟩⟩
set_option maxRecDepth 100000 in
theorem mv_L_107 : MV RL 107 yX11_back cX11_back 7 (some .int) 6 := ⟨gt_mem 845 (by rfl) (by rfl), gt_mem 846 (by rfl) (by rfl), gt_mem 847 (by rfl) (by rfl), gt_mem 61 (by rfl) (by rfl), gt_mem 848 (by rfl) (by rfl), ⟨by decide +kernel, by decide +kernel, by decide +kernel⟩⟩
set_option maxRecDepth 100000 in
theorem mv_L_110 : MV RL 110 yX12_back cX12_back 19 (some .int) 6 := ⟨gt_mem 1438 (by rfl) (by rfl), gt_mem 1439 (by rfl) (by rfl), gt_mem 1440 (by rfl) (by rfl), gt_mem 74 (by rfl) (by rfl), gt_mem 1441 (by rfl) (by rfl), ⟨by decide +kernel, by decide +kernel, by decide +kernel⟩⟩
set_option maxRecDepth 100000 in
theorem mv_L_111 : MV RL 111 yX11_with cX11_with 16 (some .long) 2 := ⟨gt_mem 880 (by rfl) (by rfl), gt_mem 881 (by rfl) (by rfl), gt_mem 882 (by rfl) (by rfl), gt_mem 61 (by rfl) (by rfl), gt_mem 883 (by rfl) (by rfl), ⟨by decide +kernel, by decide +kernel, by decide +kernel⟩⟩
set_option maxRecDepth 100000 in
theorem mv_L_115 : MV RL 115 yX12_with cX12_with 16 (some .long) 2 := ⟨gt_mem 1442 (by rfl) (by rfl), gt_mem 1443 (by rfl) (by rfl), gt_mem 1444 (by rfl) (by rfl), gt_mem 74 (by rfl) (by rfl), gt_mem 1445 (by rfl) (by rfl), ⟨by decide +kernel, by decide +kernel, by decide +kernel⟩⟩
set_option maxRecDepth 100000 in
theorem mv_L_116 : MV RL 116 yX11_keep cX11_keep 4 (some .int) 2 := ⟨gt_mem 886 (by rfl) (by rfl), gt_mem 887 (by rfl) (by rfl), gt_mem 888 (by rfl) (by rfl), gt_mem 61 (by rfl) (by rfl), gt_mem 889 (by rfl) (by rfl), ⟨by decide +kernel, by decide +kernel, by decide +kernel⟩⟩
set_option maxRecDepth 100000 in
theorem mv_L_120 : MV RL 120 yX12_keep cX12_keep 4 (some .int) 2 := ⟨gt_mem 1455 (by rfl) (by rfl), gt_mem 1456 (by rfl) (by rfl), gt_mem 1457 (by rfl) (by rfl), gt_mem 74 (by rfl) (by rfl), gt_mem 1458 (by rfl) (by rfl), ⟨by decide +kernel, by decide +kernel, by decide +kernel⟩⟩
set_option maxRecDepth 100000 in
theorem mv_L_121 : MV RL 121 yX11_fit cX11_fit 6 (some .long) 5 := ⟨gt_mem 890 (by rfl) (by rfl), gt_mem 891 (by rfl) (by rfl), gt_mem 892 (by rfl) (by rfl), gt_mem 61 (by rfl) (by rfl), gt_mem 893 (by rfl) (by rfl), ⟨by decide +kernel, by decide +kernel, by decide +kernel⟩⟩
set_option maxRecDepth 100000 in
theorem mv_L_125 : MV RL 125 yX12_fit cX12_fit 12 (some .long) 5 := ⟨gt_mem 1459 (by rfl) (by rfl), gt_mem 1460 (by rfl) (by rfl), gt_mem 1461 (by rfl) (by rfl), gt_mem 74 (by rfl) (by rfl), gt_mem 1462 (by rfl) (by rfl), ⟨by decide +kernel, by decide +kernel, by decide +kernel⟩⟩
set_option maxRecDepth 100000 in
theorem mv_L_126 : MV RL 126 yX11_foretell cX11_foretell 10 (some .long) 7 := ⟨gt_mem 926 (by rfl) (by rfl), gt_mem 927 (by rfl) (by rfl), gt_mem 928 (by rfl) (by rfl), gt_mem 61 (by rfl) (by rfl), gt_mem 929 (by rfl) (by rfl), ⟨by decide +kernel, by decide +kernel, by decide +kernel⟩⟩
set_option maxRecDepth 100000 in
theorem mv_L_130 : MV RL 130 yX12_foretell cX12_foretell 16 (some .long) 7 := ⟨gt_mem 1479 (by rfl) (by rfl), gt_mem 1480 (by rfl) (by rfl), gt_mem 1481 (by rfl) (by rfl), gt_mem 74 (by rfl) (by rfl), gt_mem 1482 (by rfl) (by rfl), ⟨by decide +kernel, by decide +kernel, by decide +kernel⟩⟩
set_option maxRecDepth 100000 in
theorem mv_L_131 : MV RL 131 yX11_seek cX11_seek 10 (some .int) 4 := ⟨gt_mem 939 (by rfl) (by rfl), gt_mem 940 (by rfl) (by rfl), gt_mem 941 (by rfl) (by rfl), gt_mem 61 (by rfl) (by rfl), gt_mem 942 (by rfl) (by rfl), ⟨by decide +kernel, by decide +kernel, by decide +kernel⟩⟩
set_option maxRecDepth 100000 in
theorem mv_L_134 : MV RL 134 yX12_seek cX12_seek 10 (some .int) 4 := ⟨gt_mem 1485 (by rfl) (by rfl), gt_mem 1486 (by rfl) (by rfl), gt_mem 1487 (by rfl) (by rfl), gt_mem 74 (by rfl) (by rfl), gt_mem 1488 (by rfl) (by rfl), ⟨by decide +kernel, by decide +kernel, by decide +kernel⟩⟩
set_option maxRecDepth 100000 in
theorem mv_L_135 : MV RL 135 yX11_write cX11_write 2 (some .int) 1 := ⟨gt_mem 944 (by rfl) (by rfl), gt_mem 945 (by rfl) (by rfl), gt_mem 946 (by rfl) (by rfl), gt_mem 61 (by rfl) (by rfl), gt_mem 947 (by rfl) (by rfl), ⟨by decide +kernel, by decide +kernel, by decide +kernel⟩⟩
set_option maxRecDepth 100000 in
theorem mv_L_138 : MV RL 138 yX12_write cX12_write 2 (some .int) 1 := ⟨gt_mem 1490 (by rfl) (by rfl), gt_mem 1491 (by rfl) (by rfl), gt_mem 1492 (by rfl) (by rfl), gt_mem 74 (by rfl) (by rfl), gt_mem 1493 (by rfl) (by rfl), ⟨by decide +kernel, by decide +kernel, by decide +kernel⟩⟩
set_option maxRecDepth 100000 in
theorem mv_L_139 : MV RL 139 yX11_erase cX11_erase 2 (some .int) 0 := ⟨gt_mem 948 (by rfl) (by rfl), gt_mem 949 (by rfl) (by rfl), gt_mem 950 (by rfl) (by rfl), gt_mem 61 (by rfl) (by rfl), gt_mem 951 (by rfl) (by rfl), ⟨by decide +kernel, by decide +kernel, by decide +kernel⟩⟩
set_option maxRecDepth 100000 in
theorem mv_L_142 : MV RL 142 yX12_erase cX12_erase 2 (some .int) 0 := ⟨gt_mem 1495 (by rfl) (by rfl), gt_mem 1496 (by rfl) (by rfl), gt_mem 1497 (by rfl) (by rfl), gt_mem 74 (by rfl) (by rfl), gt_mem 1498 (by rfl) (by rfl), ⟨by decide +kernel, by decide +kernel, by decide +kernel⟩⟩
set_option maxRecDepth 100000 in
theorem mv_L_143 : MV RL 143 yX11_fault cX11_fault 1 (some .int) 0 := ⟨gt_mem 952 (by rfl) (by rfl), gt_mem 953 (by rfl) (by rfl), gt_mem 954 (by rfl) (by rfl), gt_mem 61 (by rfl) (by rfl), gt_mem 955 (by rfl) (by rfl), ⟨by decide +kernel, by decide +kernel, by decide +kernel⟩⟩
set_option maxRecDepth 100000 in
theorem mv_L_146 : MV RL 146 yX12_fault cX12_fault 2 (some .int) 0 := ⟨gt_mem 1499 (by rfl) (by rfl), gt_mem 1500 (by rfl) (by rfl), gt_mem 1501 (by rfl) (by rfl), gt_mem 74 (by rfl) (by rfl), gt_mem 1502 (by rfl) (by rfl), ⟨by decide +kernel, by decide +kernel, by decide +kernel⟩⟩
set_option maxRecDepth 100000 in
theorem mv_L_147 : MV RL 147 yX11_rung cX11_rung 7 (some .int) 3 := ⟨gt_mem 1074 (by rfl) (by rfl), gt_mem 1075 (by rfl) (by rfl), gt_mem 1076 (by rfl) (by rfl), gt_mem 61 (by rfl) (by rfl), gt_mem 1077 (by rfl) (by rfl), ⟨by decide +kernel, by decide +kernel, by decide +kernel⟩⟩
set_option maxRecDepth 100000 in
theorem mv_L_150 : MV RL 150 yX12_rung cX12_rung 9 (some .int) 3 := ⟨gt_mem 1537 (by rfl) (by rfl), gt_mem 1538 (by rfl) (by rfl), gt_mem 1539 (by rfl) (by rfl), gt_mem 74 (by rfl) (by rfl), gt_mem 1540 (by rfl) (by rfl), ⟨by decide +kernel, by decide +kernel, by decide +kernel⟩⟩
set_option maxRecDepth 100000 in
theorem mv_L_151 : MV RL 151 yX11_forge cX11_forge 4 (some .int) 2 := ⟨gt_mem 1085 (by rfl) (by rfl), gt_mem 1086 (by rfl) (by rfl), gt_mem 1087 (by rfl) (by rfl), gt_mem 61 (by rfl) (by rfl), gt_mem 1088 (by rfl) (by rfl), ⟨by decide +kernel, by decide +kernel, by decide +kernel⟩⟩
set_option maxRecDepth 100000 in
theorem mv_L_154 : MV RL 154 yX12_forge cX12_forge 4 (some .int) 2 := ⟨gt_mem 1541 (by rfl) (by rfl), gt_mem 1542 (by rfl) (by rfl), gt_mem 1543 (by rfl) (by rfl), gt_mem 74 (by rfl) (by rfl), gt_mem 1544 (by rfl) (by rfl), ⟨by decide +kernel, by decide +kernel, by decide +kernel⟩⟩
set_option maxRecDepth 100000 in
theorem mv_L_155 : MV RL 155 yX11_check cX11_check 2 (some .int) 0 := ⟨gt_mem 1090 (by rfl) (by rfl), gt_mem 1091 (by rfl) (by rfl), gt_mem 1092 (by rfl) (by rfl), gt_mem 61 (by rfl) (by rfl), gt_mem 1093 (by rfl) (by rfl), ⟨by decide +kernel, by decide +kernel, by decide +kernel⟩⟩
set_option maxRecDepth 100000 in
theorem mv_L_158 : MV RL 158 yX12_check cX12_check 4 (some .int) 0 := ⟨gt_mem 1546 (by rfl) (by rfl), gt_mem 1547 (by rfl) (by rfl), gt_mem 1548 (by rfl) (by rfl), gt_mem 74 (by rfl) (by rfl), gt_mem 1549 (by rfl) (by rfl), ⟨by decide +kernel, by decide +kernel, by decide +kernel⟩⟩
set_option maxRecDepth 100000 in
theorem mv_L_159 : MV RL 159 yX11_image cX11_image 2 (some .int) 1 := ⟨gt_mem 1103 (by rfl) (by rfl), gt_mem 1104 (by rfl) (by rfl), gt_mem 1105 (by rfl) (by rfl), gt_mem 61 (by rfl) (by rfl), gt_mem 1106 (by rfl) (by rfl), ⟨by decide +kernel, by decide +kernel, by decide +kernel⟩⟩
set_option maxRecDepth 100000 in
theorem mv_L_162 : MV RL 162 yX12_image cX12_image 3 (some .int) 1 := ⟨gt_mem 1550 (by rfl) (by rfl), gt_mem 1551 (by rfl) (by rfl), gt_mem 1552 (by rfl) (by rfl), gt_mem 74 (by rfl) (by rfl), gt_mem 1553 (by rfl) (by rfl), ⟨by decide +kernel, by decide +kernel, by decide +kernel⟩⟩
set_option maxRecDepth 100000 in
theorem mv_L_163 : MV RL 163 yX11_from cX11_from 2 (some .int) 1 := ⟨gt_mem 1127 (by rfl) (by rfl), gt_mem 1128 (by rfl) (by rfl), gt_mem 1129 (by rfl) (by rfl), gt_mem 61 (by rfl) (by rfl), gt_mem 1130 (by rfl) (by rfl), ⟨by decide +kernel, by decide +kernel, by decide +kernel⟩⟩
set_option maxRecDepth 100000 in
theorem mv_L_166 : MV RL 166 yX12_from cX12_from 3 (some .int) 1 := ⟨gt_mem 1554 (by rfl) (by rfl), gt_mem 1555 (by rfl) (by rfl), gt_mem 1556 (by rfl) (by rfl), gt_mem 74 (by rfl) (by rfl), gt_mem 1557 (by rfl) (by rfl), ⟨by decide +kernel, by decide +kernel, by decide +kernel⟩⟩
set_option maxRecDepth 100000 in
theorem mv_L_167 : MV RL 167 yX11_count cX11_count 2 (some .int) 1 := ⟨gt_mem 1131 (by rfl) (by rfl), gt_mem 1132 (by rfl) (by rfl), gt_mem 1133 (by rfl) (by rfl), gt_mem 61 (by rfl) (by rfl), gt_mem 1134 (by rfl) (by rfl), ⟨by decide +kernel, by decide +kernel, by decide +kernel⟩⟩
set_option maxRecDepth 100000 in
theorem mv_L_170 : MV RL 170 yX12_count cX12_count 4 (some .int) 1 := ⟨gt_mem 1558 (by rfl) (by rfl), gt_mem 1559 (by rfl) (by rfl), gt_mem 1560 (by rfl) (by rfl), gt_mem 74 (by rfl) (by rfl), gt_mem 1561 (by rfl) (by rfl), ⟨by decide +kernel, by decide +kernel, by decide +kernel⟩⟩
set_option maxRecDepth 100000 in
theorem mv_L_171 : MV RL 171 yX11_digest cX11_digest 4 (some .long) 0 := ⟨gt_mem 1139 (by rfl) (by rfl), gt_mem 1140 (by rfl) (by rfl), gt_mem 1141 (by rfl) (by rfl), gt_mem 61 (by rfl) (by rfl), gt_mem 1142 (by rfl) (by rfl), ⟨by decide +kernel, by decide +kernel, by decide +kernel⟩⟩
set_option maxRecDepth 100000 in
theorem mv_L_175 : MV RL 175 yX12_digest cX12_digest 5 (some .long) 0 := ⟨gt_mem 1562 (by rfl) (by rfl), gt_mem 1563 (by rfl) (by rfl), gt_mem 1564 (by rfl) (by rfl), gt_mem 74 (by rfl) (by rfl), gt_mem 1565 (by rfl) (by rfl), ⟨by decide +kernel, by decide +kernel, by decide +kernel⟩⟩
theorem s0 : sh 0 = .inl 11 := rfl
theorem s1 : sh 1 = .inl 8 := rfl
theorem s2 : sh 2 = .inl 6 := rfl
theorem s3 : isA 0 3 := rfl
theorem s4 : isA 0 4 := rfl
theorem s5 : isA 0 5 := rfl
theorem s6 : isA 0 6 := rfl
theorem s7 : isA 0 7 := rfl
theorem s8 : isA 0 8 := rfl
theorem s9 : isA 0 9 := rfl
theorem s10 : isA 0 10 := rfl
theorem s11 : isA 3 11 := rfl
theorem s12 : sh 12 = .inl 5 := rfl
theorem s13 : isA 0 13 := rfl
theorem s14 : isA 0 14 := rfl
theorem s15 : isA 0 15 := rfl
theorem s16 : isA 0 16 := rfl
theorem s17 : sh 17 = .inl 3 := rfl
theorem s18 : isA 0 18 := rfl
theorem s19 : isA 0 19 := rfl
theorem s20 : isA 0 20 := rfl
theorem s21 : sh 21 = .inl 3 := rfl
theorem s22 : isA 0 22 := rfl
theorem s23 : isA 0 23 := rfl
theorem s24 : isA 0 24 := rfl
theorem s25 : sh 25 = .inl 3 := rfl
theorem s26 : isA 0 26 := rfl
theorem s27 : isA 0 27 := rfl
theorem s28 : isA 0 28 := rfl
theorem s29 : sh 29 = .inl 3 := rfl
theorem s30 : isA 0 30 := rfl
theorem s31 : isA 0 31 := rfl
theorem s32 : isA 0 32 := rfl
theorem s33 : isA 4 33 := rfl
theorem s34 : isA 2 34 := rfl
theorem s35 : sh 35 = .inl 7 := rfl
theorem s36 : isA 0 36 := rfl
theorem s37 : isA 0 37 := rfl
theorem s38 : isA 0 38 := rfl
theorem s39 : isA 0 39 := rfl
theorem s40 : isA 0 40 := rfl
theorem s41 : isA 0 41 := rfl
theorem s42 : sh 42 = .inl 3 := rfl
theorem s43 : isA 0 43 := rfl
theorem s44 : isA 0 44 := rfl
theorem s45 : isA 0 45 := rfl
theorem s46 : sh 46 = .inl 0 := rfl
theorem s47 : isA 0 47 := rfl
theorem s48 : sh 48 = .inl 10 := rfl
theorem s49 : isA 0 49 := rfl
theorem s50 : isA 0 50 := rfl
theorem s51 : isA 0 51 := rfl
theorem s52 : sh 52 = .inl 1 := rfl
theorem s53 : isA 0 53 := rfl
theorem s54 : isA 0 54 := rfl
theorem s55 : isA 0 55 := rfl
theorem s56 : sh 56 = .inl 0 := rfl
theorem s57 : isA 0 57 := rfl
theorem s58 : sh 58 = .inl 9 := rfl
theorem s59 : isA 0 59 := rfl
theorem s60 : sh 60 = .inl 2 := rfl
theorem s61 : isA 0 61 := rfl
theorem s62 : isA 0 62 := rfl
theorem s63 : isA 0 63 := rfl
theorem s64 : isA 0 64 := rfl
theorem s65 : isA 0 65 := rfl
theorem s66 : isA 0 66 := rfl
theorem s67 : isA 0 67 := rfl
theorem s68 : sh 68 = .inl 4 := rfl
theorem s69 : isA 0 69 := rfl
theorem s70 : isA 1 70 := rfl
theorem s71 : sh 71 = .inl 8 := rfl
theorem s72 : sh 72 = .inl 6 := rfl
theorem s73 : isA 0 73 := rfl
theorem s74 : isA 0 74 := rfl
theorem s75 : isA 0 75 := rfl
theorem s76 : isA 0 76 := rfl
theorem s77 : isA 0 77 := rfl
theorem s78 : isA 0 78 := rfl
theorem s79 : isA 0 79 := rfl
theorem s80 : isA 0 80 := rfl
theorem s81 : isA 3 81 := rfl
theorem s82 : sh 82 = .inl 5 := rfl
theorem s83 : isA 0 83 := rfl
theorem s84 : isA 0 84 := rfl
theorem s85 : isA 0 85 := rfl
theorem s86 : isA 0 86 := rfl
theorem s87 : sh 87 = .inl 3 := rfl
theorem s88 : isA 0 88 := rfl
theorem s89 : isA 0 89 := rfl
theorem s90 : isA 0 90 := rfl
theorem s91 : sh 91 = .inl 3 := rfl
theorem s92 : isA 0 92 := rfl
theorem s93 : isA 0 93 := rfl
theorem s94 : isA 0 94 := rfl
theorem s95 : sh 95 = .inl 3 := rfl
theorem s96 : isA 0 96 := rfl
theorem s97 : isA 0 97 := rfl
theorem s98 : isA 0 98 := rfl
theorem s99 : sh 99 = .inl 3 := rfl
theorem s100 : isA 0 100 := rfl
theorem s101 : isA 0 101 := rfl
theorem s102 : isA 0 102 := rfl
theorem s103 : sh 103 = .inl 8 := rfl
theorem s104 : sh 104 = .inl 6 := rfl
theorem s105 : isA 0 105 := rfl
theorem s106 : isA 0 106 := rfl
theorem s107 : isA 0 107 := rfl
theorem s108 : isA 0 108 := rfl
theorem s109 : isA 0 109 := rfl
theorem s110 : isA 0 110 := rfl
theorem s111 : isA 0 111 := rfl
theorem s112 : isA 0 112 := rfl
theorem s113 : isA 3 113 := rfl
theorem s114 : sh 114 = .inl 5 := rfl
theorem s115 : isA 0 115 := rfl
theorem s116 : isA 0 116 := rfl
theorem s117 : isA 0 117 := rfl
theorem s118 : isA 0 118 := rfl
theorem s119 : sh 119 = .inl 3 := rfl
theorem s120 : isA 0 120 := rfl
theorem s121 : isA 0 121 := rfl
theorem s122 : isA 0 122 := rfl
theorem s123 : sh 123 = .inl 3 := rfl
theorem s124 : isA 0 124 := rfl
theorem s125 : isA 0 125 := rfl
theorem s126 : isA 0 126 := rfl
theorem s127 : sh 127 = .inl 3 := rfl
theorem s128 : isA 0 128 := rfl
theorem s129 : isA 0 129 := rfl
theorem s130 : isA 0 130 := rfl
theorem s131 : sh 131 = .inl 3 := rfl
theorem s132 : isA 0 132 := rfl
theorem s133 : isA 0 133 := rfl
theorem s134 : isA 0 134 := rfl
theorem s135 : sh 135 = .inl 12 := rfl
theorem s136 : isA 0 136 := rfl
theorem s137 : isA 0 137 := rfl
theorem s138 : isA 2 138 := rfl
theorem s139 : isA 0 139 := rfl
theorem s140 : isA 0 140 := rfl
theorem s141 : isA 0 141 := rfl
theorem s142 : isA 0 142 := rfl
theorem s143 : isA 0 143 := rfl
theorem s144 : isA 0 144 := rfl
theorem s145 : isA 0 145 := rfl
theorem s146 : isA 0 146 := rfl
theorem s147 : isA 0 147 := rfl
theorem s148 : isA 0 148 := rfl
theorem s149 : isA 2 149 := rfl
theorem s150 : isA 2 150 := rfl
theorem s151 : isA 1 151 := rfl
theorem s152 : isA 0 152 := rfl
theorem s153 : isA 1 153 := rfl
set_option maxRecDepth 20000 in
theorem ss_0_0 {o : Nat} (h : sh o = .inl 0) : isA 0 (o + 1) := (by decide +kernel : ∀ k, k < KT → sh k = .inl 0 → sh (k + 1) = .inr (0, len (k + 1))) o (sh_lt h) h
set_option maxRecDepth 20000 in
theorem ss_1_2 {o : Nat} (h : sh o = .inl 1) : isA 0 (o + 1) := (by decide +kernel : ∀ k, k < KT → sh k = .inl 1 → sh (k + 1) = .inr (0, len (k + 1))) o (sh_lt h) h
set_option maxRecDepth 20000 in
theorem ss_1_3 {o : Nat} (h : sh o = .inl 1) : isA 0 (o + 2) := (by decide +kernel : ∀ k, k < KT → sh k = .inl 1 → sh (k + 2) = .inr (0, len (k + 2))) o (sh_lt h) h
set_option maxRecDepth 20000 in
theorem ss_1_4 {o : Nat} (h : sh o = .inl 1) : isA 0 (o + 3) := (by decide +kernel : ∀ k, k < KT → sh k = .inl 1 → sh (k + 3) = .inr (0, len (k + 3))) o (sh_lt h) h
set_option maxRecDepth 20000 in
theorem ss_1_6 {o : Nat} (h : sh o = .inl 1) : sh (o + 4) = .inl 0 := (by decide +kernel : ∀ k, k < KT → sh k = .inl 1 → sh (k + 4) = .inl 0) o (sh_lt h) h
set_option maxRecDepth 20000 in
theorem ss_2_0 {o : Nat} (h : sh o = .inl 2) : isA 0 (o + 1) := (by decide +kernel : ∀ k, k < KT → sh k = .inl 2 → sh (k + 1) = .inr (0, len (k + 1))) o (sh_lt h) h
set_option maxRecDepth 20000 in
theorem ss_2_2 {o : Nat} (h : sh o = .inl 2) : isA 0 (o + 2) := (by decide +kernel : ∀ k, k < KT → sh k = .inl 2 → sh (k + 2) = .inr (0, len (k + 2))) o (sh_lt h) h
set_option maxRecDepth 20000 in
theorem ss_2_3 {o : Nat} (h : sh o = .inl 2) : isA 0 (o + 3) := (by decide +kernel : ∀ k, k < KT → sh k = .inl 2 → sh (k + 3) = .inr (0, len (k + 3))) o (sh_lt h) h
set_option maxRecDepth 20000 in
theorem ss_2_4 {o : Nat} (h : sh o = .inl 2) : isA 0 (o + 4) := (by decide +kernel : ∀ k, k < KT → sh k = .inl 2 → sh (k + 4) = .inr (0, len (k + 4))) o (sh_lt h) h
set_option maxRecDepth 20000 in
theorem ss_2_5 {o : Nat} (h : sh o = .inl 2) : isA 0 (o + 5) := (by decide +kernel : ∀ k, k < KT → sh k = .inl 2 → sh (k + 5) = .inr (0, len (k + 5))) o (sh_lt h) h
set_option maxRecDepth 20000 in
theorem ss_2_6 {o : Nat} (h : sh o = .inl 2) : isA 0 (o + 6) := (by decide +kernel : ∀ k, k < KT → sh k = .inl 2 → sh (k + 6) = .inr (0, len (k + 6))) o (sh_lt h) h
set_option maxRecDepth 20000 in
theorem ss_2_7 {o : Nat} (h : sh o = .inl 2) : isA 0 (o + 7) := (by decide +kernel : ∀ k, k < KT → sh k = .inl 2 → sh (k + 7) = .inr (0, len (k + 7))) o (sh_lt h) h
set_option maxRecDepth 20000 in
theorem ss_3_0 {o : Nat} (h : sh o = .inl 3) : isA 0 (o + 1) := (by decide +kernel : ∀ k, k < KT → sh k = .inl 3 → sh (k + 1) = .inr (0, len (k + 1))) o (sh_lt h) h
set_option maxRecDepth 20000 in
theorem ss_3_4 {o : Nat} (h : sh o = .inl 3) : isA 0 (o + 2) := (by decide +kernel : ∀ k, k < KT → sh k = .inl 3 → sh (k + 2) = .inr (0, len (k + 2))) o (sh_lt h) h
set_option maxRecDepth 20000 in
theorem ss_3_7 {o : Nat} (h : sh o = .inl 3) : isA 0 (o + 3) := (by decide +kernel : ∀ k, k < KT → sh k = .inl 3 → sh (k + 3) = .inr (0, len (k + 3))) o (sh_lt h) h
set_option maxRecDepth 20000 in
theorem ss_4_1 {o : Nat} (h : sh o = .inl 4) : isA 0 (o + 1) := (by decide +kernel : ∀ k, k < KT → sh k = .inl 4 → sh (k + 1) = .inr (0, len (k + 1))) o (sh_lt h) h
set_option maxRecDepth 20000 in
theorem ss_4_4 {o : Nat} (h : sh o = .inl 4) : isA 1 (o + 2) := (by decide +kernel : ∀ k, k < KT → sh k = .inl 4 → sh (k + 2) = .inr (1, len (k + 2))) o (sh_lt h) h
set_option maxRecDepth 20000 in
theorem ss_5_0 {o : Nat} (h : sh o = .inl 5) : isA 0 (o + 1) := (by decide +kernel : ∀ k, k < KT → sh k = .inl 5 → sh (k + 1) = .inr (0, len (k + 1))) o (sh_lt h) h
set_option maxRecDepth 20000 in
theorem ss_5_2 {o : Nat} (h : sh o = .inl 5) : isA 0 (o + 2) := (by decide +kernel : ∀ k, k < KT → sh k = .inl 5 → sh (k + 2) = .inr (0, len (k + 2))) o (sh_lt h) h
set_option maxRecDepth 20000 in
theorem ss_6_1 {o : Nat} (h : sh o = .inl 6) : isA 0 (o + 1) := (by decide +kernel : ∀ k, k < KT → sh k = .inl 6 → sh (k + 1) = .inr (0, len (k + 1))) o (sh_lt h) h
set_option maxRecDepth 20000 in
theorem ss_6_2 {o : Nat} (h : sh o = .inl 6) : isA 0 (o + 2) := (by decide +kernel : ∀ k, k < KT → sh k = .inl 6 → sh (k + 2) = .inr (0, len (k + 2))) o (sh_lt h) h
set_option maxRecDepth 20000 in
theorem ss_6_4 {o : Nat} (h : sh o = .inl 6) : isA 0 (o + 3) := (by decide +kernel : ∀ k, k < KT → sh k = .inl 6 → sh (k + 3) = .inr (0, len (k + 3))) o (sh_lt h) h
set_option maxRecDepth 20000 in
theorem ss_6_5 {o : Nat} (h : sh o = .inl 6) : isA 0 (o + 4) := (by decide +kernel : ∀ k, k < KT → sh k = .inl 6 → sh (k + 4) = .inr (0, len (k + 4))) o (sh_lt h) h
set_option maxRecDepth 20000 in
theorem ss_6_6 {o : Nat} (h : sh o = .inl 6) : isA 0 (o + 5) := (by decide +kernel : ∀ k, k < KT → sh k = .inl 6 → sh (k + 5) = .inr (0, len (k + 5))) o (sh_lt h) h
set_option maxRecDepth 20000 in
theorem ss_6_8 {o : Nat} (h : sh o = .inl 6) : isA 0 (o + 6) := (by decide +kernel : ∀ k, k < KT → sh k = .inl 6 → sh (k + 6) = .inr (0, len (k + 6))) o (sh_lt h) h
set_option maxRecDepth 20000 in
theorem ss_6_9 {o : Nat} (h : sh o = .inl 6) : isA 0 (o + 7) := (by decide +kernel : ∀ k, k < KT → sh k = .inl 6 → sh (k + 7) = .inr (0, len (k + 7))) o (sh_lt h) h
set_option maxRecDepth 20000 in
theorem ss_6_11 {o : Nat} (h : sh o = .inl 6) : isA 0 (o + 8) := (by decide +kernel : ∀ k, k < KT → sh k = .inl 6 → sh (k + 8) = .inr (0, len (k + 8))) o (sh_lt h) h
set_option maxRecDepth 20000 in
theorem ss_7_0 {o : Nat} (h : sh o = .inl 7) : isA 0 (o + 1) := (by decide +kernel : ∀ k, k < KT → sh k = .inl 7 → sh (k + 1) = .inr (0, len (k + 1))) o (sh_lt h) h
set_option maxRecDepth 20000 in
theorem ss_7_2 {o : Nat} (h : sh o = .inl 7) : isA 0 (o + 2) := (by decide +kernel : ∀ k, k < KT → sh k = .inl 7 → sh (k + 2) = .inr (0, len (k + 2))) o (sh_lt h) h
set_option maxRecDepth 20000 in
theorem ss_7_4 {o : Nat} (h : sh o = .inl 7) : isA 0 (o + 3) := (by decide +kernel : ∀ k, k < KT → sh k = .inl 7 → sh (k + 3) = .inr (0, len (k + 3))) o (sh_lt h) h
set_option maxRecDepth 20000 in
theorem ss_7_5 {o : Nat} (h : sh o = .inl 7) : isA 0 (o + 4) := (by decide +kernel : ∀ k, k < KT → sh k = .inl 7 → sh (k + 4) = .inr (0, len (k + 4))) o (sh_lt h) h
set_option maxRecDepth 20000 in
theorem ss_7_6 {o : Nat} (h : sh o = .inl 7) : isA 0 (o + 5) := (by decide +kernel : ∀ k, k < KT → sh k = .inl 7 → sh (k + 5) = .inr (0, len (k + 5))) o (sh_lt h) h
set_option maxRecDepth 20000 in
theorem ss_7_7 {o : Nat} (h : sh o = .inl 7) : isA 0 (o + 6) := (by decide +kernel : ∀ k, k < KT → sh k = .inl 7 → sh (k + 6) = .inr (0, len (k + 6))) o (sh_lt h) h
set_option maxRecDepth 20000 in
theorem ss_8_0 {o : Nat} (h : sh o = .inl 8) : sh (o + 1) = .inl 6 := (by decide +kernel : ∀ k, k < KT → sh k = .inl 8 → sh (k + 1) = .inl 6) o (sh_lt h) h
set_option maxRecDepth 20000 in
theorem ss_8_1 {o : Nat} (h : sh o = .inl 8) : isA 3 (o + 10) := (by decide +kernel : ∀ k, k < KT → sh k = .inl 8 → sh (k + 10) = .inr (3, len (k + 10))) o (sh_lt h) h
set_option maxRecDepth 20000 in
theorem ss_8_2 {o : Nat} (h : sh o = .inl 8) : sh (o + 11) = .inl 5 := (by decide +kernel : ∀ k, k < KT → sh k = .inl 8 → sh (k + 11) = .inl 5) o (sh_lt h) h
set_option maxRecDepth 20000 in
theorem ss_8_3 {o : Nat} (h : sh o = .inl 8) : isA 0 (o + 14) := (by decide +kernel : ∀ k, k < KT → sh k = .inl 8 → sh (k + 14) = .inr (0, len (k + 14))) o (sh_lt h) h
set_option maxRecDepth 20000 in
theorem ss_8_5 {o : Nat} (h : sh o = .inl 8) : isA 0 (o + 15) := (by decide +kernel : ∀ k, k < KT → sh k = .inl 8 → sh (k + 15) = .inr (0, len (k + 15))) o (sh_lt h) h
set_option maxRecDepth 20000 in
theorem ss_9_1 {o : Nat} (h : sh o = .inl 9) : isA 0 (o + 1) := (by decide +kernel : ∀ k, k < KT → sh k = .inl 9 → sh (k + 1) = .inr (0, len (k + 1))) o (sh_lt h) h
set_option maxRecDepth 20000 in
theorem ss_10_0 {o : Nat} (h : sh o = .inl 10) : isA 0 (o + 1) := (by decide +kernel : ∀ k, k < KT → sh k = .inl 10 → sh (k + 1) = .inr (0, len (k + 1))) o (sh_lt h) h
set_option maxRecDepth 20000 in
theorem ss_10_1 {o : Nat} (h : sh o = .inl 10) : isA 0 (o + 2) := (by decide +kernel : ∀ k, k < KT → sh k = .inl 10 → sh (k + 2) = .inr (0, len (k + 2))) o (sh_lt h) h
set_option maxRecDepth 20000 in
theorem ss_10_2 {o : Nat} (h : sh o = .inl 10) : isA 0 (o + 3) := (by decide +kernel : ∀ k, k < KT → sh k = .inl 10 → sh (k + 3) = .inr (0, len (k + 3))) o (sh_lt h) h
set_option maxRecDepth 20000 in
theorem ss_11_0 {o : Nat} (h : sh o = .inl 11) : sh (o + 1) = .inl 8 := (by decide +kernel : ∀ k, k < KT → sh k = .inl 11 → sh (k + 1) = .inl 8) o (sh_lt h) h
set_option maxRecDepth 20000 in
theorem ss_11_1 {o : Nat} (h : sh o = .inl 11) : isA 4 (o + 33) := (by decide +kernel : ∀ k, k < KT → sh k = .inl 11 → sh (k + 33) = .inr (4, len (k + 33))) o (sh_lt h) h
set_option maxRecDepth 20000 in
theorem ss_11_2 {o : Nat} (h : sh o = .inl 11) : isA 2 (o + 34) := (by decide +kernel : ∀ k, k < KT → sh k = .inl 11 → sh (k + 34) = .inr (2, len (k + 34))) o (sh_lt h) h
set_option maxRecDepth 20000 in
theorem ss_11_3 {o : Nat} (h : sh o = .inl 11) : sh (o + 35) = .inl 7 := (by decide +kernel : ∀ k, k < KT → sh k = .inl 11 → sh (k + 35) = .inl 7) o (sh_lt h) h
set_option maxRecDepth 20000 in
theorem ss_11_4 {o : Nat} (h : sh o = .inl 11) : sh (o + 46) = .inl 0 := (by decide +kernel : ∀ k, k < KT → sh k = .inl 11 → sh (k + 46) = .inl 0) o (sh_lt h) h
set_option maxRecDepth 20000 in
theorem ss_11_5 {o : Nat} (h : sh o = .inl 11) : sh (o + 48) = .inl 10 := (by decide +kernel : ∀ k, k < KT → sh k = .inl 11 → sh (k + 48) = .inl 10) o (sh_lt h) h
set_option maxRecDepth 20000 in
theorem ss_11_6 {o : Nat} (h : sh o = .inl 11) : sh (o + 52) = .inl 1 := (by decide +kernel : ∀ k, k < KT → sh k = .inl 11 → sh (k + 52) = .inl 1) o (sh_lt h) h
set_option maxRecDepth 20000 in
theorem ss_11_7 {o : Nat} (h : sh o = .inl 11) : sh (o + 58) = .inl 9 := (by decide +kernel : ∀ k, k < KT → sh k = .inl 11 → sh (k + 58) = .inl 9) o (sh_lt h) h
set_option maxRecDepth 20000 in
theorem ss_11_8 {o : Nat} (h : sh o = .inl 11) : sh (o + 60) = .inl 2 := (by decide +kernel : ∀ k, k < KT → sh k = .inl 11 → sh (k + 60) = .inl 2) o (sh_lt h) h
set_option maxRecDepth 20000 in
theorem ss_11_9 {o : Nat} (h : sh o = .inl 11) : sh (o + 68) = .inl 4 := (by decide +kernel : ∀ k, k < KT → sh k = .inl 11 → sh (k + 68) = .inl 4) o (sh_lt h) h
set_option maxRecDepth 20000 in
theorem ss_12_0 {o : Nat} (h : sh o = .inl 12) : isA 0 (o + 1) := (by decide +kernel : ∀ k, k < KT → sh k = .inl 12 → sh (k + 1) = .inr (0, len (k + 1))) o (sh_lt h) h
set_option maxRecDepth 20000 in
theorem ss_12_1 {o : Nat} (h : sh o = .inl 12) : isA 0 (o + 2) := (by decide +kernel : ∀ k, k < KT → sh k = .inl 12 → sh (k + 2) = .inr (0, len (k + 2))) o (sh_lt h) h
set_option maxRecDepth 20000 in
theorem ss_12_2 {o : Nat} (h : sh o = .inl 12) : isA 2 (o + 3) := (by decide +kernel : ∀ k, k < KT → sh k = .inl 12 → sh (k + 3) = .inr (2, len (k + 3))) o (sh_lt h) h
set_option maxRecDepth 20000 in
theorem ss_12_3 {o : Nat} (h : sh o = .inl 12) : isA 0 (o + 4) := (by decide +kernel : ∀ k, k < KT → sh k = .inl 12 → sh (k + 4) = .inr (0, len (k + 4))) o (sh_lt h) h
set_option maxRecDepth 20000 in
theorem ss_12_5 {o : Nat} (h : sh o = .inl 12) : isA 0 (o + 5) := (by decide +kernel : ∀ k, k < KT → sh k = .inl 12 → sh (k + 5) = .inr (0, len (k + 5))) o (sh_lt h) h
set_option maxRecDepth 20000 in
theorem ss_12_6 {o : Nat} (h : sh o = .inl 12) : isA 0 (o + 6) := (by decide +kernel : ∀ k, k < KT → sh k = .inl 12 → sh (k + 6) = .inr (0, len (k + 6))) o (sh_lt h) h
set_option maxRecDepth 20000 in
theorem ss_12_7 {o : Nat} (h : sh o = .inl 12) : isA 0 (o + 7) := (by decide +kernel : ∀ k, k < KT → sh k = .inl 12 → sh (k + 7) = .inr (0, len (k + 7))) o (sh_lt h) h
set_option maxRecDepth 20000 in
theorem ss_12_8 {o : Nat} (h : sh o = .inl 12) : isA 0 (o + 8) := (by decide +kernel : ∀ k, k < KT → sh k = .inl 12 → sh (k + 8) = .inr (0, len (k + 8))) o (sh_lt h) h
set_option maxRecDepth 20000 in
theorem ss_12_9 {o : Nat} (h : sh o = .inl 12) : isA 0 (o + 9) := (by decide +kernel : ∀ k, k < KT → sh k = .inl 12 → sh (k + 9) = .inr (0, len (k + 9))) o (sh_lt h) h
set_option maxRecDepth 20000 in
theorem ss_12_11 {o : Nat} (h : sh o = .inl 12) : isA 0 (o + 10) := (by decide +kernel : ∀ k, k < KT → sh k = .inl 12 → sh (k + 10) = .inr (0, len (k + 10))) o (sh_lt h) h
set_option maxRecDepth 20000 in
theorem ss_12_13 {o : Nat} (h : sh o = .inl 12) : isA 0 (o + 11) := (by decide +kernel : ∀ k, k < KT → sh k = .inl 12 → sh (k + 11) = .inr (0, len (k + 11))) o (sh_lt h) h
set_option maxRecDepth 20000 in
theorem ss_12_14 {o : Nat} (h : sh o = .inl 12) : isA 0 (o + 12) := (by decide +kernel : ∀ k, k < KT → sh k = .inl 12 → sh (k + 12) = .inr (0, len (k + 12))) o (sh_lt h) h
set_option maxRecDepth 20000 in
theorem ss_12_15 {o : Nat} (h : sh o = .inl 12) : isA 0 (o + 13) := (by decide +kernel : ∀ k, k < KT → sh k = .inl 12 → sh (k + 13) = .inr (0, len (k + 13))) o (sh_lt h) h
set_option maxRecDepth 20000 in
theorem ss_12_16 {o : Nat} (h : sh o = .inl 12) : isA 2 (o + 14) := (by decide +kernel : ∀ k, k < KT → sh k = .inl 12 → sh (k + 14) = .inr (2, len (k + 14))) o (sh_lt h) h
set_option maxRecDepth 20000 in
theorem ss_12_17 {o : Nat} (h : sh o = .inl 12) : isA 2 (o + 15) := (by decide +kernel : ∀ k, k < KT → sh k = .inl 12 → sh (k + 15) = .inr (2, len (k + 15))) o (sh_lt h) h
set_option maxRecDepth 20000 in
theorem ss_12_24 {o : Nat} (h : sh o = .inl 12) : isA 1 (o + 16) := (by decide +kernel : ∀ k, k < KT → sh k = .inl 12 → sh (k + 16) = .inr (1, len (k + 16))) o (sh_lt h) h
set_option maxRecDepth 20000 in
theorem ss_12_26 {o : Nat} (h : sh o = .inl 12) : isA 0 (o + 17) := (by decide +kernel : ∀ k, k < KT → sh k = .inl 12 → sh (k + 17) = .inr (0, len (k + 17))) o (sh_lt h) h
set_option maxRecDepth 20000 in
theorem ss_12_28 {o : Nat} (h : sh o = .inl 12) : isA 1 (o + 18) := (by decide +kernel : ∀ k, k < KT → sh k = .inl 12 → sh (k + 18) = .inr (1, len (k + 18))) o (sh_lt h) h
theorem vp_lt {i : Int32} {n : Nat} (h : vp_in i n) : i.toNatClampNeg < n := Nat.not_le.mp fun q => h (Or.inr q)
set_option maxRecDepth 20000 in
theorem el3 {k : Nat} {i : Int32} (h : isA 3 k) (hi : vp_in i (len k)) : sh (k + 6 + 4 * i.toNatClampNeg) = .inl 3 := (by decide +kernel : ∀ k, k < KT → sh k = .inr (3, len k) → ∀ j, j < len k → sh (k + 6 + 4 * j) = .inl 3) k (isA_lt (by decide) h) h _ (vp_lt hi)
set_option maxRecDepth 20000 in
theorem el4 {k : Nat} {i : Int32} (h : isA 4 k) (hi : vp_in i (len k)) : sh (k + 38 + 32 * i.toNatClampNeg) = .inl 8 := (by decide +kernel : ∀ k, k < KT → sh k = .inr (4, len k) → ∀ j, j < len k → sh (k + 38 + 32 * j) = .inl 8) k (isA_lt (by decide) h) h _ (vp_lt hi)
