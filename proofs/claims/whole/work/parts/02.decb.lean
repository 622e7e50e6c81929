theorem dX11_init_0 : decode cX11_init 0 = .ok (.aload_n 0, 1) := by decide +kernel
theorem dX11_init_1 : decode cX11_init 1 = .ok (.invokespecial 1, 3) := by decide +kernel
theorem dX11_init_4 : decode cX11_init 4 = .ok (.aload_n 0, 1) := by decide +kernel
theorem dX11_init_5 : decode cX11_init 5 = .ok (.new 7, 3) := by decide +kernel
theorem dX11_init_8 : decode cX11_init 8 = .ok (.dup, 1) := by decide +kernel
theorem dX11_init_9 : decode cX11_init 9 = .ok (.invokespecial 9, 3) := by decide +kernel
theorem dX11_init_12 : decode cX11_init 12 = .ok (.putfield 10, 3) := by decide +kernel
theorem dX11_init_15 : decode cX11_init 15 = .ok (.aload_n 0, 1) := by decide +kernel
theorem dX11_init_16 : decode cX11_init 16 = .ok (.iconst 2, 1) := by decide +kernel
theorem dX11_init_17 : decode cX11_init 17 = .ok (.anewarray 7, 3) := by decide +kernel
theorem dX11_init_20 : decode cX11_init 20 = .ok (.putfield 16, 3) := by decide +kernel
theorem dX11_init_23 : decode cX11_init 23 = .ok (.aload_n 0, 1) := by decide +kernel
theorem dX11_init_24 : decode cX11_init 24 = .ok (.iconst 2, 1) := by decide +kernel
theorem dX11_init_25 : decode cX11_init 25 = .ok (.newarray .boolean, 2) := by decide +kernel
theorem dX11_init_27 : decode cX11_init 27 = .ok (.putfield 20, 3) := by decide +kernel
theorem dX11_init_30 : decode cX11_init 30 = .ok (.aload_n 0, 1) := by decide +kernel
theorem dX11_init_31 : decode cX11_init 31 = .ok (.new 24, 3) := by decide +kernel
theorem dX11_init_34 : decode cX11_init 34 = .ok (.dup, 1) := by decide +kernel
theorem dX11_init_35 : decode cX11_init 35 = .ok (.invokespecial 26, 3) := by decide +kernel
theorem dX11_init_38 : decode cX11_init 38 = .ok (.putfield 27, 3) := by decide +kernel
theorem dX11_init_41 : decode cX11_init 41 = .ok (.aload_n 0, 1) := by decide +kernel
theorem dX11_init_42 : decode cX11_init 42 = .ok (.new 31, 3) := by decide +kernel
theorem dX11_init_45 : decode cX11_init 45 = .ok (.dup, 1) := by decide +kernel
theorem dX11_init_46 : decode cX11_init 46 = .ok (.invokespecial 33, 3) := by decide +kernel
theorem dX11_init_49 : decode cX11_init 49 = .ok (.putfield 34, 3) := by decide +kernel
theorem dX11_init_52 : decode cX11_init 52 = .ok (.aload_n 0, 1) := by decide +kernel
theorem dX11_init_53 : decode cX11_init 53 = .ok (.new 38, 3) := by decide +kernel
theorem dX11_init_56 : decode cX11_init 56 = .ok (.dup, 1) := by decide +kernel
theorem dX11_init_57 : decode cX11_init 57 = .ok (.invokespecial 40, 3) := by decide +kernel
theorem dX11_init_60 : decode cX11_init 60 = .ok (.putfield 41, 3) := by decide +kernel
theorem dX11_init_63 : decode cX11_init 63 = .ok (.aload_n 0, 1) := by decide +kernel
theorem dX11_init_64 : decode cX11_init 64 = .ok (.new 45, 3) := by decide +kernel
theorem dX11_init_67 : decode cX11_init 67 = .ok (.dup, 1) := by decide +kernel
theorem dX11_init_68 : decode cX11_init 68 = .ok (.invokespecial 47, 3) := by decide +kernel
theorem dX11_init_71 : decode cX11_init 71 = .ok (.putfield 48, 3) := by decide +kernel
theorem dX11_init_74 : decode cX11_init 74 = .ok (.aload_n 0, 1) := by decide +kernel
theorem dX11_init_75 : decode cX11_init 75 = .ok (.new 52, 3) := by decide +kernel
theorem dX11_init_78 : decode cX11_init 78 = .ok (.dup, 1) := by decide +kernel
theorem dX11_init_79 : decode cX11_init 79 = .ok (.invokespecial 54, 3) := by decide +kernel
theorem dX11_init_82 : decode cX11_init 82 = .ok (.putfield 55, 3) := by decide +kernel
theorem dX11_init_85 : decode cX11_init 85 = .ok (.aload_n 0, 1) := by decide +kernel
theorem dX11_init_86 : decode cX11_init 86 = .ok (.new 59, 3) := by decide +kernel
theorem dX11_init_89 : decode cX11_init 89 = .ok (.dup, 1) := by decide +kernel
theorem dX11_init_90 : decode cX11_init 90 = .ok (.invokespecial 61, 3) := by decide +kernel
theorem dX11_init_93 : decode cX11_init 93 = .ok (.putfield 62, 3) := by decide +kernel
theorem dX11_init_96 : decode cX11_init 96 = .ok (.aload_n 0, 1) := by decide +kernel
theorem dX11_init_97 : decode cX11_init 97 = .ok (.new 66, 3) := by decide +kernel
theorem dX11_init_100 : decode cX11_init 100 = .ok (.dup, 1) := by decide +kernel
theorem dX11_init_101 : decode cX11_init 101 = .ok (.invokespecial 68, 3) := by decide +kernel
theorem dX11_init_104 : decode cX11_init 104 = .ok (.putfield 69, 3) := by decide +kernel
theorem dX11_init_107 : decode cX11_init 107 = .ok (.iconst 0, 1) := by decide +kernel
theorem dX11_init_108 : decode cX11_init 108 = .ok (.istore_n 1, 1) := by decide +kernel
theorem dX11_init_109 : decode cX11_init 109 = .ok (.iload_n 1, 1) := by decide +kernel
theorem dX11_init_110 : decode cX11_init 110 = .ok (.iconst 2, 1) := by decide +kernel
theorem dX11_init_111 : decode cX11_init 111 = .ok (.if_icmp .ge 22, 3) := by decide +kernel
theorem dX11_init_114 : decode cX11_init 114 = .ok (.aload_n 0, 1) := by decide +kernel
theorem dX11_init_115 : decode cX11_init 115 = .ok (.getfield 16, 3) := by decide +kernel
theorem dX11_init_118 : decode cX11_init 118 = .ok (.iload_n 1, 1) := by decide +kernel
theorem dX11_init_119 : decode cX11_init 119 = .ok (.new 7, 3) := by decide +kernel
theorem dX11_init_122 : decode cX11_init 122 = .ok (.dup, 1) := by decide +kernel
theorem dX11_init_123 : decode cX11_init 123 = .ok (.invokespecial 9, 3) := by decide +kernel
theorem dX11_init_126 : decode cX11_init 126 = .ok (.aastore, 1) := by decide +kernel
theorem dX11_init_127 : decode cX11_init 127 = .ok (.iinc 1 1, 3) := by decide +kernel
theorem dX11_init_130 : decode cX11_init 130 = .ok (.goto (-21), 3) := by decide +kernel
theorem dX11_init_133 : decode cX11_init 133 = .ok (.return_, 1) := by decide +kernel
theorem dX11_program_0 : decode cX11_program 0 = .ok (.aload_n 0, 1) := by decide +kernel
theorem dX11_program_1 : decode cX11_program 1 = .ok (.getfield 10, 3) := by decide +kernel
theorem dX11_program_4 : decode cX11_program 4 = .ok (.getfield 73, 3) := by decide +kernel
theorem dX11_program_7 : decode cX11_program 7 = .ok (.invokevirtual 77, 3) := by decide +kernel
theorem dX11_program_10 : decode cX11_program 10 = .ok (.ireturn, 1) := by decide +kernel
theorem dX11_line_0 : decode cX11_line 0 = .ok (.aload_n 0, 1) := by decide +kernel
theorem dX11_line_1 : decode cX11_line 1 = .ok (.getfield 10, 3) := by decide +kernel
theorem dX11_line_4 : decode cX11_line 4 = .ok (.getfield 73, 3) := by decide +kernel
theorem dX11_line_7 : decode cX11_line 7 = .ok (.astore 6, 2) := by decide +kernel
theorem dX11_line_9 : decode cX11_line 9 = .ok (.iload_n 1, 1) := by decide +kernel
theorem dX11_line_10 : decode cX11_line 10 = .ok (.aload 6, 2) := by decide +kernel
theorem dX11_line_12 : decode cX11_line 12 = .ok (.getfield 83, 3) := by decide +kernel
theorem dX11_line_15 : decode cX11_line 15 = .ok (.invokestatic 87, 3) := by decide +kernel
theorem dX11_line_18 : decode cX11_line 18 = .ok (.ifCond .ne 15, 3) := by decide +kernel
theorem dX11_line_21 : decode cX11_line 21 = .ok (.iload_n 2, 1) := by decide +kernel
theorem dX11_line_22 : decode cX11_line 22 = .ok (.iload_n 3, 1) := by decide +kernel
theorem dX11_line_23 : decode cX11_line 23 = .ok (.iload 4, 2) := by decide +kernel
theorem dX11_line_25 : decode cX11_line 25 = .ok (.iload 5, 2) := by decide +kernel
theorem dX11_line_27 : decode cX11_line 27 = .ok (.invokestatic 91, 3) := by decide +kernel
theorem dX11_line_30 : decode cX11_line 30 = .ok (.ifCond .ne 6, 3) := by decide +kernel
theorem dX11_line_33 : decode cX11_line 33 = .ok (.bipush (-2), 2) := by decide +kernel
theorem dX11_line_35 : decode cX11_line 35 = .ok (.ireturn, 1) := by decide +kernel
theorem dX11_line_36 : decode cX11_line 36 = .ok (.aload 6, 2) := by decide +kernel
theorem dX11_line_38 : decode cX11_line 38 = .ok (.iload_n 1, 1) := by decide +kernel
theorem dX11_line_39 : decode cX11_line 39 = .ok (.invokevirtual 95, 3) := by decide +kernel
theorem dX11_line_42 : decode cX11_line 42 = .ok (.ifCond .eq 6, 3) := by decide +kernel
theorem dX11_line_45 : decode cX11_line 45 = .ok (.bipush (-3), 2) := by decide +kernel
theorem dX11_line_47 : decode cX11_line 47 = .ok (.ireturn, 1) := by decide +kernel
theorem dX11_line_48 : decode cX11_line 48 = .ok (.aload 6, 2) := by decide +kernel
theorem dX11_line_50 : decode cX11_line 50 = .ok (.iload_n 1, 1) := by decide +kernel
theorem dX11_line_51 : decode cX11_line 51 = .ok (.iload_n 2, 1) := by decide +kernel
theorem dX11_line_52 : decode cX11_line 52 = .ok (.iload_n 3, 1) := by decide +kernel
theorem dX11_line_53 : decode cX11_line 53 = .ok (.iload 4, 2) := by decide +kernel
theorem dX11_line_55 : decode cX11_line 55 = .ok (.iload 5, 2) := by decide +kernel
theorem dX11_line_57 : decode cX11_line 57 = .ok (.invokevirtual 99, 3) := by decide +kernel
theorem dX11_line_60 : decode cX11_line 60 = .ok (.ireturn, 1) := by decide +kernel
theorem dX11_change_0 : decode cX11_change 0 = .ok (.aload_n 0, 1) := by decide +kernel
theorem dX11_change_1 : decode cX11_change 1 = .ok (.getfield 10, 3) := by decide +kernel
theorem dX11_change_4 : decode cX11_change 4 = .ok (.getfield 73, 3) := by decide +kernel
theorem dX11_change_7 : decode cX11_change 7 = .ok (.astore 7, 2) := by decide +kernel
theorem dX11_change_9 : decode cX11_change 9 = .ok (.iload_n 1, 1) := by decide +kernel
theorem dX11_change_10 : decode cX11_change 10 = .ok (.aload 7, 2) := by decide +kernel
theorem dX11_change_12 : decode cX11_change 12 = .ok (.getfield 83, 3) := by decide +kernel
theorem dX11_change_15 : decode cX11_change 15 = .ok (.invokestatic 87, 3) := by decide +kernel
theorem dX11_change_18 : decode cX11_change 18 = .ok (.ifCond .ne 30, 3) := by decide +kernel
theorem dX11_change_21 : decode cX11_change 21 = .ok (.iload_n 2, 1) := by decide +kernel
theorem dX11_change_22 : decode cX11_change 22 = .ok (.aload 7, 2) := by decide +kernel
theorem dX11_change_24 : decode cX11_change 24 = .ok (.getfield 103, 3) := by decide +kernel
theorem dX11_change_27 : decode cX11_change 27 = .ok (.iload_n 1, 1) := by decide +kernel
theorem dX11_change_28 : decode cX11_change 28 = .ok (.iaload, 1) := by decide +kernel
theorem dX11_change_29 : decode cX11_change 29 = .ok (.invokestatic 87, 3) := by decide +kernel
theorem dX11_change_32 : decode cX11_change 32 = .ok (.ifCond .ne 16, 3) := by decide +kernel
theorem dX11_change_35 : decode cX11_change 35 = .ok (.iload_n 3, 1) := by decide +kernel
theorem dX11_change_36 : decode cX11_change 36 = .ok (.iload 4, 2) := by decide +kernel
theorem dX11_change_38 : decode cX11_change 38 = .ok (.iload 5, 2) := by decide +kernel
theorem dX11_change_40 : decode cX11_change 40 = .ok (.iload 6, 2) := by decide +kernel
theorem dX11_change_42 : decode cX11_change 42 = .ok (.invokestatic 91, 3) := by decide +kernel
theorem dX11_change_45 : decode cX11_change 45 = .ok (.ifCond .ne 6, 3) := by decide +kernel
theorem dX11_change_48 : decode cX11_change 48 = .ok (.bipush (-2), 2) := by decide +kernel
theorem dX11_change_50 : decode cX11_change 50 = .ok (.ireturn, 1) := by decide +kernel
theorem dX11_change_51 : decode cX11_change 51 = .ok (.aload 7, 2) := by decide +kernel
theorem dX11_change_53 : decode cX11_change 53 = .ok (.iload_n 1, 1) := by decide +kernel
theorem dX11_change_54 : decode cX11_change 54 = .ok (.iload_n 2, 1) := by decide +kernel
theorem dX11_change_55 : decode cX11_change 55 = .ok (.iload_n 3, 1) := by decide +kernel
theorem dX11_change_56 : decode cX11_change 56 = .ok (.iload 4, 2) := by decide +kernel
theorem dX11_change_58 : decode cX11_change 58 = .ok (.iload 5, 2) := by decide +kernel
theorem dX11_change_60 : decode cX11_change 60 = .ok (.iload 6, 2) := by decide +kernel
theorem dX11_change_62 : decode cX11_change 62 = .ok (.invokevirtual 107, 3) := by decide +kernel
theorem dX11_change_65 : decode cX11_change 65 = .ok (.ireturn, 1) := by decide +kernel
theorem dX11_build_0 : decode cX11_build 0 = .ok (.aload_n 0, 1) := by decide +kernel
theorem dX11_build_1 : decode cX11_build 1 = .ok (.getfield 10, 3) := by decide +kernel
theorem dX11_build_4 : decode cX11_build 4 = .ok (.getfield 73, 3) := by decide +kernel
theorem dX11_build_7 : decode cX11_build 7 = .ok (.astore_n 3, 1) := by decide +kernel
theorem dX11_build_8 : decode cX11_build 8 = .ok (.iload_n 1, 1) := by decide +kernel
theorem dX11_build_9 : decode cX11_build 9 = .ok (.aload_n 3, 1) := by decide +kernel
theorem dX11_build_10 : decode cX11_build 10 = .ok (.getfield 83, 3) := by decide +kernel
theorem dX11_build_13 : decode cX11_build 13 = .ok (.invokestatic 87, 3) := by decide +kernel
theorem dX11_build_16 : decode cX11_build 16 = .ok (.ifCond .ne 16, 3) := by decide +kernel
theorem dX11_build_19 : decode cX11_build 19 = .ok (.iload_n 2, 1) := by decide +kernel
theorem dX11_build_20 : decode cX11_build 20 = .ok (.iconst 1, 1) := by decide +kernel
theorem dX11_build_21 : decode cX11_build 21 = .ok (.aload_n 3, 1) := by decide +kernel
theorem dX11_build_22 : decode cX11_build 22 = .ok (.getfield 111, 3) := by decide +kernel
theorem dX11_build_25 : decode cX11_build 25 = .ok (.ishl, 1) := by decide +kernel
theorem dX11_build_26 : decode cX11_build 26 = .ok (.invokestatic 87, 3) := by decide +kernel
theorem dX11_build_29 : decode cX11_build 29 = .ok (.ifCond .eq 6, 3) := by decide +kernel
theorem dX11_build_32 : decode cX11_build 32 = .ok (.bipush (-2), 2) := by decide +kernel
theorem dX11_build_34 : decode cX11_build 34 = .ok (.ireturn, 1) := by decide +kernel
theorem dX11_build_35 : decode cX11_build 35 = .ok (.aload_n 3, 1) := by decide +kernel
theorem dX11_build_36 : decode cX11_build 36 = .ok (.iload_n 1, 1) := by decide +kernel
theorem dX11_build_37 : decode cX11_build 37 = .ok (.iload_n 2, 1) := by decide +kernel
theorem dX11_build_38 : decode cX11_build 38 = .ok (.invokevirtual 114, 3) := by decide +kernel
theorem dX11_build_41 : decode cX11_build 41 = .ok (.ifCond .ne 6, 3) := by decide +kernel
theorem dX11_build_44 : decode cX11_build 44 = .ok (.bipush (-3), 2) := by decide +kernel
theorem dX11_build_46 : decode cX11_build 46 = .ok (.ireturn, 1) := by decide +kernel
theorem dX11_build_47 : decode cX11_build 47 = .ok (.aload_n 3, 1) := by decide +kernel
theorem dX11_build_48 : decode cX11_build 48 = .ok (.iload_n 1, 1) := by decide +kernel
theorem dX11_build_49 : decode cX11_build 49 = .ok (.iload_n 2, 1) := by decide +kernel
theorem dX11_build_50 : decode cX11_build 50 = .ok (.invokevirtual 117, 3) := by decide +kernel
theorem dX11_build_53 : decode cX11_build 53 = .ok (.ireturn, 1) := by decide +kernel
theorem dX11_setting_0 : decode cX11_setting 0 = .ok (.iload_n 1, 1) := by decide +kernel
theorem dX11_setting_1 : decode cX11_setting 1 = .ok (.invokestatic 121, 3) := by decide +kernel
theorem dX11_setting_4 : decode cX11_setting 4 = .ok (.ifCond .ne 25, 3) := by decide +kernel
theorem dX11_setting_7 : decode cX11_setting 7 = .ok (.iload_n 2, 1) := by decide +kernel
theorem dX11_setting_8 : decode cX11_setting 8 = .ok (.invokestatic 121, 3) := by decide +kernel
theorem dX11_setting_11 : decode cX11_setting 11 = .ok (.ifCond .ne 18, 3) := by decide +kernel
theorem dX11_setting_14 : decode cX11_setting 14 = .ok (.iload_n 3, 1) := by decide +kernel
theorem dX11_setting_15 : decode cX11_setting 15 = .ok (.invokestatic 121, 3) := by decide +kernel
theorem dX11_setting_18 : decode cX11_setting 18 = .ok (.ifCond .ne 11, 3) := by decide +kernel
theorem dX11_setting_21 : decode cX11_setting 21 = .ok (.iload 4, 2) := by decide +kernel
theorem dX11_setting_23 : decode cX11_setting 23 = .ok (.invokestatic 121, 3) := by decide +kernel
theorem dX11_setting_26 : decode cX11_setting 26 = .ok (.ifCond .eq 6, 3) := by decide +kernel
theorem dX11_setting_29 : decode cX11_setting 29 = .ok (.bipush (-2), 2) := by decide +kernel
theorem dX11_setting_31 : decode cX11_setting 31 = .ok (.ireturn, 1) := by decide +kernel
theorem dX11_setting_32 : decode cX11_setting 32 = .ok (.aload_n 0, 1) := by decide +kernel
theorem dX11_setting_33 : decode cX11_setting 33 = .ok (.getfield 10, 3) := by decide +kernel
theorem dX11_setting_36 : decode cX11_setting 36 = .ok (.getfield 73, 3) := by decide +kernel
theorem dX11_setting_39 : decode cX11_setting 39 = .ok (.iload_n 1, 1) := by decide +kernel
theorem dX11_setting_40 : decode cX11_setting 40 = .ok (.iload_n 2, 1) := by decide +kernel
theorem dX11_setting_41 : decode cX11_setting 41 = .ok (.iload_n 3, 1) := by decide +kernel
theorem dX11_setting_42 : decode cX11_setting 42 = .ok (.iload 4, 2) := by decide +kernel
theorem dX11_setting_44 : decode cX11_setting 44 = .ok (.invokevirtual 124, 3) := by decide +kernel
theorem dX11_setting_47 : decode cX11_setting 47 = .ok (.ireturn, 1) := by decide +kernel
theorem dX11_price_0 : decode cX11_price 0 = .ok (.iload_n 1, 1) := by decide +kernel
theorem dX11_price_1 : decode cX11_price 1 = .ok (.iconst 4, 1) := by decide +kernel
theorem dX11_price_2 : decode cX11_price 2 = .ok (.invokestatic 87, 3) := by decide +kernel
theorem dX11_price_5 : decode cX11_price 5 = .ok (.ifCond .ne 22, 3) := by decide +kernel
theorem dX11_price_8 : decode cX11_price 8 = .ok (.iload_n 2, 1) := by decide +kernel
theorem dX11_price_9 : decode cX11_price 9 = .ok (.bipush 8, 2) := by decide +kernel
theorem dX11_price_11 : decode cX11_price 11 = .ok (.invokestatic 87, 3) := by decide +kernel
theorem dX11_price_14 : decode cX11_price 14 = .ok (.ifCond .ne 13, 3) := by decide +kernel
theorem dX11_price_17 : decode cX11_price 17 = .ok (.iload_n 3, 1) := by decide +kernel
theorem dX11_price_18 : decode cX11_price 18 = .ok (.iconst 0, 1) := by decide +kernel
theorem dX11_price_19 : decode cX11_price 19 = .ok (.bipush 50, 2) := by decide +kernel
theorem dX11_price_21 : decode cX11_price 21 = .ok (.invokestatic 128, 3) := by decide +kernel
theorem dX11_price_24 : decode cX11_price 24 = .ok (.ifCond .eq 6, 3) := by decide +kernel
theorem dX11_price_27 : decode cX11_price 27 = .ok (.bipush (-2), 2) := by decide +kernel
theorem dX11_price_29 : decode cX11_price 29 = .ok (.ireturn, 1) := by decide +kernel
theorem dX11_price_30 : decode cX11_price 30 = .ok (.aload_n 0, 1) := by decide +kernel
theorem dX11_price_31 : decode cX11_price 31 = .ok (.getfield 10, 3) := by decide +kernel
theorem dX11_price_34 : decode cX11_price 34 = .ok (.getfield 132, 3) := by decide +kernel
theorem dX11_price_37 : decode cX11_price 37 = .ok (.iload_n 1, 1) := by decide +kernel
theorem dX11_price_38 : decode cX11_price 38 = .ok (.aaload, 1) := by decide +kernel
theorem dX11_price_39 : decode cX11_price 39 = .ok (.getfield 136, 3) := by decide +kernel
theorem dX11_price_42 : decode cX11_price 42 = .ok (.astore 4, 2) := by decide +kernel
theorem dX11_price_44 : decode cX11_price 44 = .ok (.aload 4, 2) := by decide +kernel
theorem dX11_price_46 : decode cX11_price 46 = .ok (.iload_n 2, 1) := by decide +kernel
theorem dX11_price_47 : decode cX11_price 47 = .ok (.iaload, 1) := by decide +kernel
theorem dX11_price_48 : decode cX11_price 48 = .ok (.istore 5, 2) := by decide +kernel
theorem dX11_price_50 : decode cX11_price 50 = .ok (.aload 4, 2) := by decide +kernel
theorem dX11_price_52 : decode cX11_price 52 = .ok (.iload_n 2, 1) := by decide +kernel
theorem dX11_price_53 : decode cX11_price 53 = .ok (.iload_n 3, 1) := by decide +kernel
theorem dX11_price_54 : decode cX11_price 54 = .ok (.iastore, 1) := by decide +kernel
theorem dX11_price_55 : decode cX11_price 55 = .ok (.iload 5, 2) := by decide +kernel
theorem dX11_price_57 : decode cX11_price 57 = .ok (.ireturn, 1) := by decide +kernel
theorem dX11_cache_0 : decode cX11_cache 0 = .ok (.iload_n 1, 1) := by decide +kernel
theorem dX11_cache_1 : decode cX11_cache 1 = .ok (.iconst 4, 1) := by decide +kernel
theorem dX11_cache_2 : decode cX11_cache 2 = .ok (.invokestatic 87, 3) := by decide +kernel
theorem dX11_cache_5 : decode cX11_cache 5 = .ok (.ifCond .ne 35, 3) := by decide +kernel
theorem dX11_cache_8 : decode cX11_cache 8 = .ok (.iload_n 2, 1) := by decide +kernel
theorem dX11_cache_9 : decode cX11_cache 9 = .ok (.iconst 1, 1) := by decide +kernel
theorem dX11_cache_10 : decode cX11_cache 10 = .ok (.bipush 16, 2) := by decide +kernel
theorem dX11_cache_12 : decode cX11_cache 12 = .ok (.invokestatic 128, 3) := by decide +kernel
theorem dX11_cache_15 : decode cX11_cache 15 = .ok (.ifCond .ne 25, 3) := by decide +kernel
theorem dX11_cache_18 : decode cX11_cache 18 = .ok (.iload_n 3, 1) := by decide +kernel
theorem dX11_cache_19 : decode cX11_cache 19 = .ok (.iconst 1, 1) := by decide +kernel
theorem dX11_cache_20 : decode cX11_cache 20 = .ok (.bipush 8, 2) := by decide +kernel
theorem dX11_cache_22 : decode cX11_cache 22 = .ok (.invokestatic 128, 3) := by decide +kernel
theorem dX11_cache_25 : decode cX11_cache 25 = .ok (.ifCond .ne 15, 3) := by decide +kernel
theorem dX11_cache_28 : decode cX11_cache 28 = .ok (.iload 4, 2) := by decide +kernel
theorem dX11_cache_30 : decode cX11_cache 30 = .ok (.iconst 0, 1) := by decide +kernel
theorem dX11_cache_31 : decode cX11_cache 31 = .ok (.sipush 200, 3) := by decide +kernel
theorem dX11_cache_34 : decode cX11_cache 34 = .ok (.invokestatic 128, 3) := by decide +kernel
theorem dX11_cache_37 : decode cX11_cache 37 = .ok (.ifCond .eq 6, 3) := by decide +kernel
theorem dX11_cache_40 : decode cX11_cache 40 = .ok (.bipush (-2), 2) := by decide +kernel
theorem dX11_cache_42 : decode cX11_cache 42 = .ok (.ireturn, 1) := by decide +kernel
theorem dX11_cache_43 : decode cX11_cache 43 = .ok (.aload_n 0, 1) := by decide +kernel
theorem dX11_cache_44 : decode cX11_cache 44 = .ok (.getfield 10, 3) := by decide +kernel
theorem dX11_cache_47 : decode cX11_cache 47 = .ok (.getfield 132, 3) := by decide +kernel
theorem dX11_cache_50 : decode cX11_cache 50 = .ok (.iload_n 1, 1) := by decide +kernel
theorem dX11_cache_51 : decode cX11_cache 51 = .ok (.aaload, 1) := by decide +kernel
theorem dX11_cache_52 : decode cX11_cache 52 = .ok (.iload_n 2, 1) := by decide +kernel
theorem dX11_cache_53 : decode cX11_cache 53 = .ok (.iload_n 3, 1) := by decide +kernel
theorem dX11_cache_54 : decode cX11_cache 54 = .ok (.iload 4, 2) := by decide +kernel
theorem dX11_cache_56 : decode cX11_cache 56 = .ok (.invokevirtual 141, 3) := by decide +kernel
theorem dX11_cache_59 : decode cX11_cache 59 = .ok (.iconst 1, 1) := by decide +kernel
theorem dX11_cache_60 : decode cX11_cache 60 = .ok (.ireturn, 1) := by decide +kernel
theorem dX11_guess_0 : decode cX11_guess 0 = .ok (.iload_n 1, 1) := by decide +kernel
theorem dX11_guess_1 : decode cX11_guess 1 = .ok (.iconst 4, 1) := by decide +kernel
theorem dX11_guess_2 : decode cX11_guess 2 = .ok (.invokestatic 87, 3) := by decide +kernel
theorem dX11_guess_5 : decode cX11_guess 5 = .ok (.ifCond .ne 23, 3) := by decide +kernel
theorem dX11_guess_8 : decode cX11_guess 8 = .ok (.iload_n 2, 1) := by decide +kernel
theorem dX11_guess_9 : decode cX11_guess 9 = .ok (.iconst 1, 1) := by decide +kernel
theorem dX11_guess_10 : decode cX11_guess 10 = .ok (.bipush 16, 2) := by decide +kernel
theorem dX11_guess_12 : decode cX11_guess 12 = .ok (.invokestatic 128, 3) := by decide +kernel
theorem dX11_guess_15 : decode cX11_guess 15 = .ok (.ifCond .ne 13, 3) := by decide +kernel
theorem dX11_guess_18 : decode cX11_guess 18 = .ok (.iload_n 3, 1) := by decide +kernel
theorem dX11_guess_19 : decode cX11_guess 19 = .ok (.iconst 0, 1) := by decide +kernel
theorem dX11_guess_20 : decode cX11_guess 20 = .ok (.bipush 100, 2) := by decide +kernel
theorem dX11_guess_22 : decode cX11_guess 22 = .ok (.invokestatic 128, 3) := by decide +kernel
theorem dX11_guess_25 : decode cX11_guess 25 = .ok (.ifCond .eq 6, 3) := by decide +kernel
theorem dX11_guess_28 : decode cX11_guess 28 = .ok (.bipush (-2), 2) := by decide +kernel
theorem dX11_guess_30 : decode cX11_guess 30 = .ok (.ireturn, 1) := by decide +kernel
theorem dX11_guess_31 : decode cX11_guess 31 = .ok (.aload_n 0, 1) := by decide +kernel
theorem dX11_guess_32 : decode cX11_guess 32 = .ok (.getfield 10, 3) := by decide +kernel
theorem dX11_guess_35 : decode cX11_guess 35 = .ok (.getfield 132, 3) := by decide +kernel
theorem dX11_guess_38 : decode cX11_guess 38 = .ok (.iload_n 1, 1) := by decide +kernel
theorem dX11_guess_39 : decode cX11_guess 39 = .ok (.aaload, 1) := by decide +kernel
theorem dX11_guess_40 : decode cX11_guess 40 = .ok (.iload_n 2, 1) := by decide +kernel
theorem dX11_guess_41 : decode cX11_guess 41 = .ok (.iload_n 3, 1) := by decide +kernel
theorem dX11_guess_42 : decode cX11_guess 42 = .ok (.invokevirtual 145, 3) := by decide +kernel
theorem dX11_guess_45 : decode cX11_guess 45 = .ok (.iconst 1, 1) := by decide +kernel
theorem dX11_guess_46 : decode cX11_guess 46 = .ok (.ireturn, 1) := by decide +kernel
theorem dX11_noise_0 : decode cX11_noise 0 = .ok (.iload_n 1, 1) := by decide +kernel
theorem dX11_noise_1 : decode cX11_noise 1 = .ok (.iconst 4, 1) := by decide +kernel
theorem dX11_noise_2 : decode cX11_noise 2 = .ok (.invokestatic 87, 3) := by decide +kernel
theorem dX11_noise_5 : decode cX11_noise 5 = .ok (.ifCond .ne 35, 3) := by decide +kernel
theorem dX11_noise_8 : decode cX11_noise 8 = .ok (.iload_n 2, 1) := by decide +kernel
theorem dX11_noise_9 : decode cX11_noise 9 = .ok (.iconst 0, 1) := by decide +kernel
theorem dX11_noise_10 : decode cX11_noise 10 = .ok (.bipush 20, 2) := by decide +kernel
theorem dX11_noise_12 : decode cX11_noise 12 = .ok (.invokestatic 128, 3) := by decide +kernel
theorem dX11_noise_15 : decode cX11_noise 15 = .ok (.ifCond .ne 25, 3) := by decide +kernel
theorem dX11_noise_18 : decode cX11_noise 18 = .ok (.iload_n 3, 1) := by decide +kernel
theorem dX11_noise_19 : decode cX11_noise 19 = .ok (.iconst 0, 1) := by decide +kernel
theorem dX11_noise_20 : decode cX11_noise 20 = .ok (.sipush 1000, 3) := by decide +kernel
theorem dX11_noise_23 : decode cX11_noise 23 = .ok (.invokestatic 128, 3) := by decide +kernel
theorem dX11_noise_26 : decode cX11_noise 26 = .ok (.ifCond .ne 14, 3) := by decide +kernel
theorem dX11_noise_29 : decode cX11_noise 29 = .ok (.iload 4, 2) := by decide +kernel
theorem dX11_noise_31 : decode cX11_noise 31 = .ok (.iconst 0, 1) := by decide +kernel
theorem dX11_noise_32 : decode cX11_noise 32 = .ok (.bipush 100, 2) := by decide +kernel
theorem dX11_noise_34 : decode cX11_noise 34 = .ok (.invokestatic 128, 3) := by decide +kernel
theorem dX11_noise_37 : decode cX11_noise 37 = .ok (.ifCond .eq 6, 3) := by decide +kernel
theorem dX11_noise_40 : decode cX11_noise 40 = .ok (.bipush (-2), 2) := by decide +kernel
theorem dX11_noise_42 : decode cX11_noise 42 = .ok (.ireturn, 1) := by decide +kernel
theorem dX11_noise_43 : decode cX11_noise 43 = .ok (.aload_n 0, 1) := by decide +kernel
theorem dX11_noise_44 : decode cX11_noise 44 = .ok (.getfield 10, 3) := by decide +kernel
theorem dX11_noise_47 : decode cX11_noise 47 = .ok (.getfield 132, 3) := by decide +kernel
theorem dX11_noise_50 : decode cX11_noise 50 = .ok (.iload_n 1, 1) := by decide +kernel
theorem dX11_noise_51 : decode cX11_noise 51 = .ok (.aaload, 1) := by decide +kernel
theorem dX11_noise_52 : decode cX11_noise 52 = .ok (.iload_n 2, 1) := by decide +kernel
theorem dX11_noise_53 : decode cX11_noise 53 = .ok (.iload_n 3, 1) := by decide +kernel
theorem dX11_noise_54 : decode cX11_noise 54 = .ok (.iload 4, 2) := by decide +kernel
theorem dX11_noise_56 : decode cX11_noise 56 = .ok (.iload 5, 2) := by decide +kernel
theorem dX11_noise_58 : decode cX11_noise 58 = .ok (.invokevirtual 149, 3) := by decide +kernel
theorem dX11_noise_61 : decode cX11_noise 61 = .ok (.iconst 1, 1) := by decide +kernel
theorem dX11_noise_62 : decode cX11_noise 62 = .ok (.ireturn, 1) := by decide +kernel
theorem dX11_run_0 : decode cX11_run 0 = .ok (.aload_n 0, 1) := by decide +kernel
theorem dX11_run_1 : decode cX11_run 1 = .ok (.iload_n 1, 1) := by decide +kernel
theorem dX11_run_2 : decode cX11_run 2 = .ok (.iload_n 2, 1) := by decide +kernel
theorem dX11_run_3 : decode cX11_run 3 = .ok (.iload_n 3, 1) := by decide +kernel
theorem dX11_run_4 : decode cX11_run 4 = .ok (.invokevirtual 153, 3) := by decide +kernel
theorem dX11_run_7 : decode cX11_run 7 = .ok (.ifCond .ne 11, 3) := by decide +kernel
theorem dX11_run_10 : decode cX11_run 10 = .ok (.iload 5, 2) := by decide +kernel
theorem dX11_run_12 : decode cX11_run 12 = .ok (.invokestatic 156, 3) := by decide +kernel
theorem dX11_run_15 : decode cX11_run 15 = .ok (.ifCond .eq 6, 3) := by decide +kernel
theorem dX11_run_18 : decode cX11_run 18 = .ok (.bipush (-2), 2) := by decide +kernel
theorem dX11_run_20 : decode cX11_run 20 = .ok (.ireturn, 1) := by decide +kernel
theorem dX11_run_21 : decode cX11_run 21 = .ok (.aload_n 0, 1) := by decide +kernel
theorem dX11_run_22 : decode cX11_run 22 = .ok (.getfield 10, 3) := by decide +kernel
theorem dX11_run_25 : decode cX11_run 25 = .ok (.getfield 159, 3) := by decide +kernel
theorem dX11_run_28 : decode cX11_run 28 = .ok (.sipush 200, 3) := by decide +kernel
theorem dX11_run_31 : decode cX11_run 31 = .ok (.if_icmp .lt 6, 3) := by decide +kernel
theorem dX11_run_34 : decode cX11_run 34 = .ok (.bipush (-4), 2) := by decide +kernel
theorem dX11_run_36 : decode cX11_run 36 = .ok (.ireturn, 1) := by decide +kernel
theorem dX11_run_37 : decode cX11_run 37 = .ok (.aload_n 0, 1) := by decide +kernel
theorem dX11_run_38 : decode cX11_run 38 = .ok (.iload_n 1, 1) := by decide +kernel
theorem dX11_run_39 : decode cX11_run 39 = .ok (.iload_n 2, 1) := by decide +kernel
theorem dX11_run_40 : decode cX11_run 40 = .ok (.iload_n 3, 1) := by decide +kernel
theorem dX11_run_41 : decode cX11_run 41 = .ok (.iload 4, 2) := by decide +kernel
theorem dX11_run_43 : decode cX11_run 43 = .ok (.iload 5, 2) := by decide +kernel
theorem dX11_run_45 : decode cX11_run 45 = .ok (.iload 6, 2) := by decide +kernel
theorem dX11_run_47 : decode cX11_run 47 = .ok (.invokevirtual 162, 3) := by decide +kernel
theorem dX11_run_50 : decode cX11_run 50 = .ok (.ireturn, 1) := by decide +kernel
theorem dX11_of_0 : decode cX11_of 0 = .ok (.iload_n 1, 1) := by decide +kernel
theorem dX11_of_1 : decode cX11_of 1 = .ok (.aload_n 0, 1) := by decide +kernel
theorem dX11_of_2 : decode cX11_of 2 = .ok (.getfield 10, 3) := by decide +kernel
theorem dX11_of_5 : decode cX11_of 5 = .ok (.getfield 159, 3) := by decide +kernel
theorem dX11_of_8 : decode cX11_of 8 = .ok (.invokestatic 87, 3) := by decide +kernel
theorem dX11_of_11 : decode cX11_of 11 = .ok (.ifCond .ne 12, 3) := by decide +kernel
theorem dX11_of_14 : decode cX11_of 14 = .ok (.iload_n 2, 1) := by decide +kernel
theorem dX11_of_15 : decode cX11_of 15 = .ok (.bipush 14, 2) := by decide +kernel
theorem dX11_of_17 : decode cX11_of 17 = .ok (.invokestatic 87, 3) := by decide +kernel
theorem dX11_of_20 : decode cX11_of 20 = .ok (.ifCond .eq 6, 3) := by decide +kernel
theorem dX11_of_23 : decode cX11_of 23 = .ok (.ldc 166, 2) := by decide +kernel
theorem dX11_of_25 : decode cX11_of 25 = .ok (.ireturn, 1) := by decide +kernel
theorem dX11_of_26 : decode cX11_of 26 = .ok (.aload_n 0, 1) := by decide +kernel
theorem dX11_of_27 : decode cX11_of 27 = .ok (.getfield 10, 3) := by decide +kernel
theorem dX11_of_30 : decode cX11_of 30 = .ok (.iload_n 1, 1) := by decide +kernel
theorem dX11_of_31 : decode cX11_of 31 = .ok (.iload_n 2, 1) := by decide +kernel
theorem dX11_of_32 : decode cX11_of 32 = .ok (.invokevirtual 167, 3) := by decide +kernel
theorem dX11_of_35 : decode cX11_of 35 = .ok (.ireturn, 1) := by decide +kernel
theorem dX11_plain_0 : decode cX11_plain 0 = .ok (.aload_n 0, 1) := by decide +kernel
theorem dX11_plain_1 : decode cX11_plain 1 = .ok (.iload_n 1, 1) := by decide +kernel
theorem dX11_plain_2 : decode cX11_plain 2 = .ok (.iload_n 2, 1) := by decide +kernel
theorem dX11_plain_3 : decode cX11_plain 3 = .ok (.iload_n 3, 1) := by decide +kernel
theorem dX11_plain_4 : decode cX11_plain 4 = .ok (.invokevirtual 153, 3) := by decide +kernel
theorem dX11_plain_7 : decode cX11_plain 7 = .ok (.ifCond .ne 13, 3) := by decide +kernel
theorem dX11_plain_10 : decode cX11_plain 10 = .ok (.iload 4, 2) := by decide +kernel
theorem dX11_plain_12 : decode cX11_plain 12 = .ok (.bipush 6, 2) := by decide +kernel
theorem dX11_plain_14 : decode cX11_plain 14 = .ok (.invokestatic 87, 3) := by decide +kernel
theorem dX11_plain_17 : decode cX11_plain 17 = .ok (.ifCond .eq 6, 3) := by decide +kernel
theorem dX11_plain_20 : decode cX11_plain 20 = .ok (.bipush (-2), 2) := by decide +kernel
theorem dX11_plain_22 : decode cX11_plain 22 = .ok (.ireturn, 1) := by decide +kernel
theorem dX11_plain_23 : decode cX11_plain 23 = .ok (.aload_n 0, 1) := by decide +kernel
theorem dX11_plain_24 : decode cX11_plain 24 = .ok (.getfield 27, 3) := by decide +kernel
theorem dX11_plain_27 : decode cX11_plain 27 = .ok (.aload_n 0, 1) := by decide +kernel
theorem dX11_plain_28 : decode cX11_plain 28 = .ok (.getfield 10, 3) := by decide +kernel
theorem dX11_plain_31 : decode cX11_plain 31 = .ok (.iload_n 1, 1) := by decide +kernel
theorem dX11_plain_32 : decode cX11_plain 32 = .ok (.iload_n 2, 1) := by decide +kernel
theorem dX11_plain_33 : decode cX11_plain 33 = .ok (.iload_n 3, 1) := by decide +kernel
theorem dX11_plain_34 : decode cX11_plain 34 = .ok (.invokevirtual 170, 3) := by decide +kernel
theorem dX11_plain_37 : decode cX11_plain 37 = .ok (.aload_n 0, 1) := by decide +kernel
theorem dX11_plain_38 : decode cX11_plain 38 = .ok (.getfield 27, 3) := by decide +kernel
theorem dX11_plain_41 : decode cX11_plain 41 = .ok (.getfield 174, 3) := by decide +kernel
theorem dX11_plain_44 : decode cX11_plain 44 = .ok (.iload 4, 2) := by decide +kernel
theorem dX11_plain_46 : decode cX11_plain 46 = .ok (.iaload, 1) := by decide +kernel
theorem dX11_plain_47 : decode cX11_plain 47 = .ok (.ireturn, 1) := by decide +kernel
theorem dX11_figure_0 : decode cX11_figure 0 = .ok (.aload_n 0, 1) := by decide +kernel
theorem dX11_figure_1 : decode cX11_figure 1 = .ok (.iload_n 1, 1) := by decide +kernel
theorem dX11_figure_2 : decode cX11_figure 2 = .ok (.iload_n 2, 1) := by decide +kernel
theorem dX11_figure_3 : decode cX11_figure 3 = .ok (.iload_n 3, 1) := by decide +kernel
theorem dX11_figure_4 : decode cX11_figure 4 = .ok (.invokevirtual 153, 3) := by decide +kernel
theorem dX11_figure_7 : decode cX11_figure 7 = .ok (.ifCond .ne 24, 3) := by decide +kernel
theorem dX11_figure_10 : decode cX11_figure 10 = .ok (.iload 4, 2) := by decide +kernel
theorem dX11_figure_12 : decode cX11_figure 12 = .ok (.iconst 0, 1) := by decide +kernel
theorem dX11_figure_13 : decode cX11_figure 13 = .ok (.sipush 200, 3) := by decide +kernel
theorem dX11_figure_16 : decode cX11_figure 16 = .ok (.invokestatic 128, 3) := by decide +kernel
theorem dX11_figure_19 : decode cX11_figure 19 = .ok (.ifCond .ne 12, 3) := by decide +kernel
theorem dX11_figure_22 : decode cX11_figure 22 = .ok (.iload 5, 2) := by decide +kernel
theorem dX11_figure_24 : decode cX11_figure 24 = .ok (.iconst 4, 1) := by decide +kernel
theorem dX11_figure_25 : decode cX11_figure 25 = .ok (.invokestatic 87, 3) := by decide +kernel
theorem dX11_figure_28 : decode cX11_figure 28 = .ok (.ifCond .eq 6, 3) := by decide +kernel
theorem dX11_figure_31 : decode cX11_figure 31 = .ok (.bipush (-2), 2) := by decide +kernel
theorem dX11_figure_33 : decode cX11_figure 33 = .ok (.ireturn, 1) := by decide +kernel
theorem dX11_figure_34 : decode cX11_figure 34 = .ok (.aload_n 0, 1) := by decide +kernel
theorem dX11_figure_35 : decode cX11_figure 35 = .ok (.getfield 10, 3) := by decide +kernel
theorem dX11_figure_38 : decode cX11_figure 38 = .ok (.aload_n 0, 1) := by decide +kernel
theorem dX11_figure_39 : decode cX11_figure 39 = .ok (.getfield 34, 3) := by decide +kernel
theorem dX11_figure_42 : decode cX11_figure 42 = .ok (.iload_n 1, 1) := by decide +kernel
theorem dX11_figure_43 : decode cX11_figure 43 = .ok (.iload_n 2, 1) := by decide +kernel
theorem dX11_figure_44 : decode cX11_figure 44 = .ok (.iload_n 3, 1) := by decide +kernel
theorem dX11_figure_45 : decode cX11_figure 45 = .ok (.iload 4, 2) := by decide +kernel
theorem dX11_figure_47 : decode cX11_figure 47 = .ok (.invokevirtual 177, 3) := by decide +kernel
theorem dX11_figure_50 : decode cX11_figure 50 = .ok (.iload 5, 2) := by decide +kernel
theorem dX11_figure_52 : decode cX11_figure 52 = .ok (.ifCond .ne 11, 3) := by decide +kernel
theorem dX11_figure_55 : decode cX11_figure 55 = .ok (.aload_n 0, 1) := by decide +kernel
theorem dX11_figure_56 : decode cX11_figure 56 = .ok (.getfield 34, 3) := by decide +kernel
theorem dX11_figure_59 : decode cX11_figure 59 = .ok (.getfield 181, 3) := by decide +kernel
theorem dX11_figure_62 : decode cX11_figure 62 = .ok (.ireturn, 1) := by decide +kernel
theorem dX11_figure_63 : decode cX11_figure 63 = .ok (.aload_n 0, 1) := by decide +kernel
theorem dX11_figure_64 : decode cX11_figure 64 = .ok (.getfield 34, 3) := by decide +kernel
theorem dX11_figure_67 : decode cX11_figure 67 = .ok (.getfield 181, 3) := by decide +kernel
theorem dX11_figure_70 : decode cX11_figure 70 = .ok (.ifCond .ne 5, 3) := by decide +kernel
theorem dX11_figure_73 : decode cX11_figure 73 = .ok (.iconst (-1), 1) := by decide +kernel
theorem dX11_figure_74 : decode cX11_figure 74 = .ok (.ireturn, 1) := by decide +kernel
theorem dX11_figure_75 : decode cX11_figure 75 = .ok (.iload 5, 2) := by decide +kernel
theorem dX11_figure_77 : decode cX11_figure 77 = .ok (.iconst 1, 1) := by decide +kernel
theorem dX11_figure_78 : decode cX11_figure 78 = .ok (.if_icmp .ne 13, 3) := by decide +kernel
theorem dX11_figure_81 : decode cX11_figure 81 = .ok (.aload_n 0, 1) := by decide +kernel
theorem dX11_figure_82 : decode cX11_figure 82 = .ok (.getfield 34, 3) := by decide +kernel
theorem dX11_figure_85 : decode cX11_figure 85 = .ok (.invokevirtual 184, 3) := by decide +kernel
theorem dX11_figure_88 : decode cX11_figure 88 = .ok (.goto 26, 3) := by decide +kernel
theorem dX11_figure_91 : decode cX11_figure 91 = .ok (.iload 5, 2) := by decide +kernel
theorem dX11_figure_93 : decode cX11_figure 93 = .ok (.iconst 2, 1) := by decide +kernel
theorem dX11_figure_94 : decode cX11_figure 94 = .ok (.if_icmp .ne 13, 3) := by decide +kernel
theorem dX11_figure_97 : decode cX11_figure 97 = .ok (.aload_n 0, 1) := by decide +kernel
theorem dX11_figure_98 : decode cX11_figure 98 = .ok (.getfield 34, 3) := by decide +kernel
theorem dX11_figure_101 : decode cX11_figure 101 = .ok (.invokevirtual 187, 3) := by decide +kernel
theorem dX11_figure_104 : decode cX11_figure 104 = .ok (.goto 10, 3) := by decide +kernel
theorem dX11_figure_107 : decode cX11_figure 107 = .ok (.aload_n 0, 1) := by decide +kernel
theorem dX11_figure_108 : decode cX11_figure 108 = .ok (.getfield 34, 3) := by decide +kernel
theorem dX11_figure_111 : decode cX11_figure 111 = .ok (.invokevirtual 190, 3) := by decide +kernel
theorem dX11_figure_114 : decode cX11_figure 114 = .ok (.ireturn, 1) := by decide +kernel
theorem dX11_pair_0 : decode cX11_pair 0 = .ok (.aload_n 0, 1) := by decide +kernel
theorem dX11_pair_1 : decode cX11_pair 1 = .ok (.iload_n 1, 1) := by decide +kernel
theorem dX11_pair_2 : decode cX11_pair 2 = .ok (.iload_n 3, 1) := by decide +kernel
theorem dX11_pair_3 : decode cX11_pair 3 = .ok (.iload 4, 2) := by decide +kernel
theorem dX11_pair_5 : decode cX11_pair 5 = .ok (.invokevirtual 153, 3) := by decide +kernel
theorem dX11_pair_8 : decode cX11_pair 8 = .ok (.ifCond .ne 28, 3) := by decide +kernel
theorem dX11_pair_11 : decode cX11_pair 11 = .ok (.iload_n 2, 1) := by decide +kernel
theorem dX11_pair_12 : decode cX11_pair 12 = .ok (.aload_n 0, 1) := by decide +kernel
theorem dX11_pair_13 : decode cX11_pair 13 = .ok (.getfield 10, 3) := by decide +kernel
theorem dX11_pair_16 : decode cX11_pair 16 = .ok (.getfield 73, 3) := by decide +kernel
theorem dX11_pair_19 : decode cX11_pair 19 = .ok (.getfield 193, 3) := by decide +kernel
theorem dX11_pair_22 : decode cX11_pair 22 = .ok (.invokestatic 87, 3) := by decide +kernel
theorem dX11_pair_25 : decode cX11_pair 25 = .ok (.ifCond .ne 11, 3) := by decide +kernel
theorem dX11_pair_28 : decode cX11_pair 28 = .ok (.iload 6, 2) := by decide +kernel
theorem dX11_pair_30 : decode cX11_pair 30 = .ok (.invokestatic 156, 3) := by decide +kernel
theorem dX11_pair_33 : decode cX11_pair 33 = .ok (.ifCond .eq 6, 3) := by decide +kernel
theorem dX11_pair_36 : decode cX11_pair 36 = .ok (.bipush (-2), 2) := by decide +kernel
theorem dX11_pair_38 : decode cX11_pair 38 = .ok (.ireturn, 1) := by decide +kernel
theorem dX11_pair_39 : decode cX11_pair 39 = .ok (.aload_n 0, 1) := by decide +kernel
theorem dX11_pair_40 : decode cX11_pair 40 = .ok (.getfield 10, 3) := by decide +kernel
theorem dX11_pair_43 : decode cX11_pair 43 = .ok (.getfield 196, 3) := by decide +kernel
theorem dX11_pair_46 : decode cX11_pair 46 = .ok (.getfield 200, 3) := by decide +kernel
theorem dX11_pair_49 : decode cX11_pair 49 = .ok (.bipush 16, 2) := by decide +kernel
theorem dX11_pair_51 : decode cX11_pair 51 = .ok (.if_icmp .lt 6, 3) := by decide +kernel
theorem dX11_pair_54 : decode cX11_pair 54 = .ok (.bipush (-3), 2) := by decide +kernel
theorem dX11_pair_56 : decode cX11_pair 56 = .ok (.ireturn, 1) := by decide +kernel
theorem dX11_pair_57 : decode cX11_pair 57 = .ok (.aload_n 0, 1) := by decide +kernel
theorem dX11_pair_58 : decode cX11_pair 58 = .ok (.getfield 10, 3) := by decide +kernel
theorem dX11_pair_61 : decode cX11_pair 61 = .ok (.getfield 159, 3) := by decide +kernel
theorem dX11_pair_64 : decode cX11_pair 64 = .ok (.iconst 2, 1) := by decide +kernel
theorem dX11_pair_65 : decode cX11_pair 65 = .ok (.iadd, 1) := by decide +kernel
theorem dX11_pair_66 : decode cX11_pair 66 = .ok (.sipush 200, 3) := by decide +kernel
theorem dX11_pair_69 : decode cX11_pair 69 = .ok (.if_icmp .le 6, 3) := by decide +kernel
theorem dX11_pair_72 : decode cX11_pair 72 = .ok (.bipush (-4), 2) := by decide +kernel
theorem dX11_pair_74 : decode cX11_pair 74 = .ok (.ireturn, 1) := by decide +kernel
theorem dX11_pair_75 : decode cX11_pair 75 = .ok (.aload_n 0, 1) := by decide +kernel
theorem dX11_pair_76 : decode cX11_pair 76 = .ok (.iload 7, 2) := by decide +kernel
theorem dX11_pair_78 : decode cX11_pair 78 = .ok (.ifCond .eq 7, 3) := by decide +kernel
theorem dX11_pair_81 : decode cX11_pair 81 = .ok (.iload_n 2, 1) := by decide +kernel
theorem dX11_pair_82 : decode cX11_pair 82 = .ok (.goto 4, 3) := by decide +kernel
theorem dX11_pair_85 : decode cX11_pair 85 = .ok (.iload_n 1, 1) := by decide +kernel
theorem dX11_pair_86 : decode cX11_pair 86 = .ok (.iload_n 3, 1) := by decide +kernel
theorem dX11_pair_87 : decode cX11_pair 87 = .ok (.iload 4, 2) := by decide +kernel
theorem dX11_pair_89 : decode cX11_pair 89 = .ok (.iload 5, 2) := by decide +kernel
theorem dX11_pair_91 : decode cX11_pair 91 = .ok (.iload 6, 2) := by decide +kernel
theorem dX11_pair_93 : decode cX11_pair 93 = .ok (.iconst 0, 1) := by decide +kernel
theorem dX11_pair_94 : decode cX11_pair 94 = .ok (.invokevirtual 162, 3) := by decide +kernel
theorem dX11_pair_97 : decode cX11_pair 97 = .ok (.istore 8, 2) := by decide +kernel
theorem dX11_pair_99 : decode cX11_pair 99 = .ok (.aload_n 0, 1) := by decide +kernel
theorem dX11_pair_100 : decode cX11_pair 100 = .ok (.iload 7, 2) := by decide +kernel
theorem dX11_pair_102 : decode cX11_pair 102 = .ok (.ifCond .eq 7, 3) := by decide +kernel
theorem dX11_pair_105 : decode cX11_pair 105 = .ok (.iload_n 1, 1) := by decide +kernel
theorem dX11_pair_106 : decode cX11_pair 106 = .ok (.goto 4, 3) := by decide +kernel
theorem dX11_pair_109 : decode cX11_pair 109 = .ok (.iload_n 2, 1) := by decide +kernel
theorem dX11_pair_110 : decode cX11_pair 110 = .ok (.iload_n 3, 1) := by decide +kernel
theorem dX11_pair_111 : decode cX11_pair 111 = .ok (.iload 4, 2) := by decide +kernel
theorem dX11_pair_113 : decode cX11_pair 113 = .ok (.iload 5, 2) := by decide +kernel
theorem dX11_pair_115 : decode cX11_pair 115 = .ok (.iload 6, 2) := by decide +kernel
theorem dX11_pair_117 : decode cX11_pair 117 = .ok (.iconst 1, 1) := by decide +kernel
theorem dX11_pair_118 : decode cX11_pair 118 = .ok (.invokevirtual 162, 3) := by decide +kernel
theorem dX11_pair_121 : decode cX11_pair 121 = .ok (.istore 9, 2) := by decide +kernel
theorem dX11_pair_123 : decode cX11_pair 123 = .ok (.aload_n 0, 1) := by decide +kernel
theorem dX11_pair_124 : decode cX11_pair 124 = .ok (.getfield 10, 3) := by decide +kernel
theorem dX11_pair_127 : decode cX11_pair 127 = .ok (.iload 8, 2) := by decide +kernel
theorem dX11_pair_129 : decode cX11_pair 129 = .ok (.bipush 6, 2) := by decide +kernel
theorem dX11_pair_131 : decode cX11_pair 131 = .ok (.invokevirtual 167, 3) := by decide +kernel
theorem dX11_pair_134 : decode cX11_pair 134 = .ok (.ifCond .ne 63, 3) := by decide +kernel
theorem dX11_pair_137 : decode cX11_pair 137 = .ok (.aload_n 0, 1) := by decide +kernel
theorem dX11_pair_138 : decode cX11_pair 138 = .ok (.getfield 10, 3) := by decide +kernel
theorem dX11_pair_141 : decode cX11_pair 141 = .ok (.iload 9, 2) := by decide +kernel
theorem dX11_pair_143 : decode cX11_pair 143 = .ok (.bipush 6, 2) := by decide +kernel
theorem dX11_pair_145 : decode cX11_pair 145 = .ok (.invokevirtual 167, 3) := by decide +kernel
theorem dX11_pair_148 : decode cX11_pair 148 = .ok (.ifCond .ne 49, 3) := by decide +kernel
theorem dX11_pair_151 : decode cX11_pair 151 = .ok (.aload_n 0, 1) := by decide +kernel
theorem dX11_pair_152 : decode cX11_pair 152 = .ok (.getfield 10, 3) := by decide +kernel
theorem dX11_pair_155 : decode cX11_pair 155 = .ok (.iload 9, 2) := by decide +kernel
theorem dX11_pair_157 : decode cX11_pair 157 = .ok (.iconst 5, 1) := by decide +kernel
theorem dX11_pair_158 : decode cX11_pair 158 = .ok (.invokevirtual 167, 3) := by decide +kernel
theorem dX11_pair_161 : decode cX11_pair 161 = .ok (.aload_n 0, 1) := by decide +kernel
theorem dX11_pair_162 : decode cX11_pair 162 = .ok (.getfield 10, 3) := by decide +kernel
theorem dX11_pair_165 : decode cX11_pair 165 = .ok (.iload 8, 2) := by decide +kernel
theorem dX11_pair_167 : decode cX11_pair 167 = .ok (.iconst 5, 1) := by decide +kernel
theorem dX11_pair_168 : decode cX11_pair 168 = .ok (.invokevirtual 167, 3) := by decide +kernel
theorem dX11_pair_171 : decode cX11_pair 171 = .ok (.isub, 1) := by decide +kernel
theorem dX11_pair_172 : decode cX11_pair 172 = .ok (.istore 10, 2) := by decide +kernel
theorem dX11_pair_174 : decode cX11_pair 174 = .ok (.aload_n 0, 1) := by decide +kernel
theorem dX11_pair_175 : decode cX11_pair 175 = .ok (.getfield 10, 3) := by decide +kernel
theorem dX11_pair_178 : decode cX11_pair 178 = .ok (.getfield 196, 3) := by decide +kernel
theorem dX11_pair_181 : decode cX11_pair 181 = .ok (.iload 7, 2) := by decide +kernel
theorem dX11_pair_183 : decode cX11_pair 183 = .ok (.ifCond .eq 9, 3) := by decide +kernel
theorem dX11_pair_186 : decode cX11_pair 186 = .ok (.iload 10, 2) := by decide +kernel
theorem dX11_pair_188 : decode cX11_pair 188 = .ok (.ineg, 1) := by decide +kernel
theorem dX11_pair_189 : decode cX11_pair 189 = .ok (.goto 5, 3) := by decide +kernel
theorem dX11_pair_192 : decode cX11_pair 192 = .ok (.iload 10, 2) := by decide +kernel
theorem dX11_pair_194 : decode cX11_pair 194 = .ok (.invokevirtual 203, 3) := by decide +kernel
theorem dX11_pair_197 : decode cX11_pair 197 = .ok (.aload_n 0, 1) := by decide +kernel
theorem dX11_pair_198 : decode cX11_pair 198 = .ok (.getfield 10, 3) := by decide +kernel
theorem dX11_pair_201 : decode cX11_pair 201 = .ok (.getfield 196, 3) := by decide +kernel
theorem dX11_pair_204 : decode cX11_pair 204 = .ok (.getfield 200, 3) := by decide +kernel
theorem dX11_pair_207 : decode cX11_pair 207 = .ok (.ireturn, 1) := by decide +kernel
theorem dX11_difference_0 : decode cX11_difference 0 = .ok (.iload_n 1, 1) := by decide +kernel
theorem dX11_difference_1 : decode cX11_difference 1 = .ok (.ifCond .ge 6, 3) := by decide +kernel
theorem dX11_difference_4 : decode cX11_difference 4 = .ok (.ldc 166, 2) := by decide +kernel
theorem dX11_difference_6 : decode cX11_difference 6 = .ok (.ireturn, 1) := by decide +kernel
theorem dX11_difference_7 : decode cX11_difference 7 = .ok (.iload_n 1, 1) := by decide +kernel
theorem dX11_difference_8 : decode cX11_difference 8 = .ok (.aload_n 0, 1) := by decide +kernel
theorem dX11_difference_9 : decode cX11_difference 9 = .ok (.getfield 10, 3) := by decide +kernel
theorem dX11_difference_12 : decode cX11_difference 12 = .ok (.getfield 196, 3) := by decide +kernel
theorem dX11_difference_15 : decode cX11_difference 15 = .ok (.getfield 200, 3) := by decide +kernel
theorem dX11_difference_18 : decode cX11_difference 18 = .ok (.invokestatic 87, 3) := by decide +kernel
theorem dX11_difference_21 : decode cX11_difference 21 = .ok (.ifCond .eq 8, 3) := by decide +kernel
theorem dX11_difference_24 : decode cX11_difference 24 = .ok (.ldc 207, 2) := by decide +kernel
theorem dX11_difference_26 : decode cX11_difference 26 = .ok (.goto 15, 3) := by decide +kernel
theorem dX11_difference_29 : decode cX11_difference 29 = .ok (.aload_n 0, 1) := by decide +kernel
theorem dX11_difference_30 : decode cX11_difference 30 = .ok (.getfield 10, 3) := by decide +kernel
theorem dX11_difference_33 : decode cX11_difference 33 = .ok (.getfield 196, 3) := by decide +kernel
theorem dX11_difference_36 : decode cX11_difference 36 = .ok (.getfield 208, 3) := by decide +kernel
theorem dX11_difference_39 : decode cX11_difference 39 = .ok (.iload_n 1, 1) := by decide +kernel
theorem dX11_difference_40 : decode cX11_difference 40 = .ok (.iaload, 1) := by decide +kernel
theorem dX11_difference_41 : decode cX11_difference 41 = .ok (.ireturn, 1) := by decide +kernel
theorem dX11_stand_0 : decode cX11_stand 0 = .ok (.aload_n 0, 1) := by decide +kernel
theorem dX11_stand_1 : decode cX11_stand 1 = .ok (.getfield 10, 3) := by decide +kernel
theorem dX11_stand_4 : decode cX11_stand 4 = .ok (.getfield 196, 3) := by decide +kernel
theorem dX11_stand_7 : decode cX11_stand 7 = .ok (.getfield 200, 3) := by decide +kernel
theorem dX11_stand_10 : decode cX11_stand 10 = .ok (.istore_n 1, 1) := by decide +kernel
theorem dX11_stand_11 : decode cX11_stand 11 = .ok (.aload_n 0, 1) := by decide +kernel
theorem dX11_stand_12 : decode cX11_stand 12 = .ok (.getfield 10, 3) := by decide +kernel
theorem dX11_stand_15 : decode cX11_stand 15 = .ok (.getfield 196, 3) := by decide +kernel
theorem dX11_stand_18 : decode cX11_stand 18 = .ok (.iconst 0, 1) := by decide +kernel
theorem dX11_stand_19 : decode cX11_stand 19 = .ok (.putfield 200, 3) := by decide +kernel
theorem dX11_stand_22 : decode cX11_stand 22 = .ok (.iload_n 1, 1) := by decide +kernel
theorem dX11_stand_23 : decode cX11_stand 23 = .ok (.ireturn, 1) := by decide +kernel
theorem dX11_odds_0 : decode cX11_odds 0 = .ok (.iload_n 1, 1) := by decide +kernel
theorem dX11_odds_1 : decode cX11_odds 1 = .ok (.iconst 2, 1) := by decide +kernel
theorem dX11_odds_2 : decode cX11_odds 2 = .ok (.invokestatic 87, 3) := by decide +kernel
theorem dX11_odds_5 : decode cX11_odds 5 = .ok (.ifCond .eq 6, 3) := by decide +kernel
theorem dX11_odds_8 : decode cX11_odds 8 = .ok (.bipush (-2), 2) := by decide +kernel
theorem dX11_odds_10 : decode cX11_odds 10 = .ok (.ireturn, 1) := by decide +kernel
theorem dX11_odds_11 : decode cX11_odds 11 = .ok (.aload_n 0, 1) := by decide +kernel
theorem dX11_odds_12 : decode cX11_odds 12 = .ok (.getfield 41, 3) := by decide +kernel
theorem dX11_odds_15 : decode cX11_odds 15 = .ok (.aload_n 0, 1) := by decide +kernel
theorem dX11_odds_16 : decode cX11_odds 16 = .ok (.getfield 10, 3) := by decide +kernel
theorem dX11_odds_19 : decode cX11_odds 19 = .ok (.getfield 196, 3) := by decide +kernel
theorem dX11_odds_22 : decode cX11_odds 22 = .ok (.getfield 208, 3) := by decide +kernel
theorem dX11_odds_25 : decode cX11_odds 25 = .ok (.aload_n 0, 1) := by decide +kernel
theorem dX11_odds_26 : decode cX11_odds 26 = .ok (.getfield 10, 3) := by decide +kernel
theorem dX11_odds_29 : decode cX11_odds 29 = .ok (.getfield 196, 3) := by decide +kernel
theorem dX11_odds_32 : decode cX11_odds 32 = .ok (.getfield 200, 3) := by decide +kernel
theorem dX11_odds_35 : decode cX11_odds 35 = .ok (.iload_n 1, 1) := by decide +kernel
theorem dX11_odds_36 : decode cX11_odds 36 = .ok (.iconst 1, 1) := by decide +kernel
theorem dX11_odds_37 : decode cX11_odds 37 = .ok (.if_icmp .ne 7, 3) := by decide +kernel
theorem dX11_odds_40 : decode cX11_odds 40 = .ok (.iconst 1, 1) := by decide +kernel
theorem dX11_odds_41 : decode cX11_odds 41 = .ok (.goto 4, 3) := by decide +kernel
theorem dX11_odds_44 : decode cX11_odds 44 = .ok (.iconst 0, 1) := by decide +kernel
theorem dX11_odds_45 : decode cX11_odds 45 = .ok (.invokevirtual 211, 3) := by decide +kernel
theorem dX11_odds_48 : decode cX11_odds 48 = .ok (.ireturn, 1) := by decide +kernel
theorem dX11_look_0 : decode cX11_look 0 = .ok (.aload_n 0, 1) := by decide +kernel
theorem dX11_look_1 : decode cX11_look 1 = .ok (.getfield 10, 3) := by decide +kernel
theorem dX11_look_4 : decode cX11_look 4 = .ok (.getfield 196, 3) := by decide +kernel
theorem dX11_look_7 : decode cX11_look 7 = .ok (.astore_n 2, 1) := by decide +kernel
theorem dX11_look_8 : decode cX11_look 8 = .ok (.iload_n 1, 1) := by decide +kernel
theorem dX11_look_9 : decode cX11_look 9 = .ok (.iconst 1, 1) := by decide +kernel
theorem dX11_look_10 : decode cX11_look 10 = .ok (.bipush 16, 2) := by decide +kernel
theorem dX11_look_12 : decode cX11_look 12 = .ok (.invokestatic 128, 3) := by decide +kernel
theorem dX11_look_15 : decode cX11_look 15 = .ok (.ifCond .ne 11, 3) := by decide +kernel
theorem dX11_look_18 : decode cX11_look 18 = .ok (.iload_n 1, 1) := by decide +kernel
theorem dX11_look_19 : decode cX11_look 19 = .ok (.aload_n 2, 1) := by decide +kernel
theorem dX11_look_20 : decode cX11_look 20 = .ok (.invokevirtual 215, 3) := by decide +kernel
theorem dX11_look_23 : decode cX11_look 23 = .ok (.if_icmp .gt 6, 3) := by decide +kernel
theorem dX11_look_26 : decode cX11_look 26 = .ok (.bipush (-2), 2) := by decide +kernel
theorem dX11_look_28 : decode cX11_look 28 = .ok (.ireturn, 1) := by decide +kernel
theorem dX11_look_29 : decode cX11_look 29 = .ok (.aload_n 2, 1) := by decide +kernel
theorem dX11_look_30 : decode cX11_look 30 = .ok (.iload_n 1, 1) := by decide +kernel
theorem dX11_look_31 : decode cX11_look 31 = .ok (.invokevirtual 218, 3) := by decide +kernel
theorem dX11_look_34 : decode cX11_look 34 = .ok (.ireturn, 1) := by decide +kernel
theorem dX11_sure_0 : decode cX11_sure 0 = .ok (.iload_n 1, 1) := by decide +kernel
theorem dX11_sure_1 : decode cX11_sure 1 = .ok (.iconst 2, 1) := by decide +kernel
theorem dX11_sure_2 : decode cX11_sure 2 = .ok (.sipush 1000, 3) := by decide +kernel
theorem dX11_sure_5 : decode cX11_sure 5 = .ok (.invokestatic 128, 3) := by decide +kernel
theorem dX11_sure_8 : decode cX11_sure 8 = .ok (.ifCond .ne 14, 3) := by decide +kernel
theorem dX11_sure_11 : decode cX11_sure 11 = .ok (.iload_n 2, 1) := by decide +kernel
theorem dX11_sure_12 : decode cX11_sure 12 = .ok (.iconst 0, 1) := by decide +kernel
theorem dX11_sure_13 : decode cX11_sure 13 = .ok (.sipush 10000, 3) := by decide +kernel
theorem dX11_sure_16 : decode cX11_sure 16 = .ok (.invokestatic 128, 3) := by decide +kernel
theorem dX11_sure_19 : decode cX11_sure 19 = .ok (.ifCond .eq 6, 3) := by decide +kernel
theorem dX11_sure_22 : decode cX11_sure 22 = .ok (.bipush (-2), 2) := by decide +kernel
theorem dX11_sure_24 : decode cX11_sure 24 = .ok (.ireturn, 1) := by decide +kernel
theorem dX11_sure_25 : decode cX11_sure 25 = .ok (.aload_n 0, 1) := by decide +kernel
theorem dX11_sure_26 : decode cX11_sure 26 = .ok (.getfield 10, 3) := by decide +kernel
theorem dX11_sure_29 : decode cX11_sure 29 = .ok (.getfield 196, 3) := by decide +kernel
theorem dX11_sure_32 : decode cX11_sure 32 = .ok (.iload_n 1, 1) := by decide +kernel
theorem dX11_sure_33 : decode cX11_sure 33 = .ok (.putfield 222, 3) := by decide +kernel
theorem dX11_sure_36 : decode cX11_sure 36 = .ok (.aload_n 0, 1) := by decide +kernel
theorem dX11_sure_37 : decode cX11_sure 37 = .ok (.getfield 10, 3) := by decide +kernel
theorem dX11_sure_40 : decode cX11_sure 40 = .ok (.getfield 196, 3) := by decide +kernel
theorem dX11_sure_43 : decode cX11_sure 43 = .ok (.iload_n 2, 1) := by decide +kernel
theorem dX11_sure_44 : decode cX11_sure 44 = .ok (.putfield 225, 3) := by decide +kernel
theorem dX11_sure_47 : decode cX11_sure 47 = .ok (.aload_n 0, 1) := by decide +kernel
theorem dX11_sure_48 : decode cX11_sure 48 = .ok (.getfield 10, 3) := by decide +kernel
theorem dX11_sure_51 : decode cX11_sure 51 = .ok (.getfield 196, 3) := by decide +kernel
theorem dX11_sure_54 : decode cX11_sure 54 = .ok (.iconst 0, 1) := by decide +kernel
theorem dX11_sure_55 : decode cX11_sure 55 = .ok (.putfield 228, 3) := by decide +kernel
theorem dX11_sure_58 : decode cX11_sure 58 = .ok (.iconst 1, 1) := by decide +kernel
theorem dX11_sure_59 : decode cX11_sure 59 = .ok (.ireturn, 1) := by decide +kernel
theorem dX11_answer_0 : decode cX11_answer 0 = .ok (.aload_n 0, 1) := by decide +kernel
theorem dX11_answer_1 : decode cX11_answer 1 = .ok (.getfield 10, 3) := by decide +kernel
theorem dX11_answer_4 : decode cX11_answer 4 = .ok (.getfield 196, 3) := by decide +kernel
theorem dX11_answer_7 : decode cX11_answer 7 = .ok (.aload_n 0, 1) := by decide +kernel
theorem dX11_answer_8 : decode cX11_answer 8 = .ok (.getfield 41, 3) := by decide +kernel
theorem dX11_answer_11 : decode cX11_answer 11 = .ok (.aload_n 0, 1) := by decide +kernel
theorem dX11_answer_12 : decode cX11_answer 12 = .ok (.getfield 34, 3) := by decide +kernel
theorem dX11_answer_15 : decode cX11_answer 15 = .ok (.invokevirtual 231, 3) := by decide +kernel
theorem dX11_answer_18 : decode cX11_answer 18 = .ok (.ireturn, 1) := by decide +kernel
theorem dX11_step_0 : decode cX11_step 0 = .ok (.aload_n 0, 1) := by decide +kernel
theorem dX11_step_1 : decode cX11_step 1 = .ok (.iload_n 1, 1) := by decide +kernel
theorem dX11_step_2 : decode cX11_step 2 = .ok (.iload_n 3, 1) := by decide +kernel
theorem dX11_step_3 : decode cX11_step 3 = .ok (.iload 4, 2) := by decide +kernel
theorem dX11_step_5 : decode cX11_step 5 = .ok (.invokevirtual 153, 3) := by decide +kernel
theorem dX11_step_8 : decode cX11_step 8 = .ok (.ifCond .ne 45, 3) := by decide +kernel
theorem dX11_step_11 : decode cX11_step 11 = .ok (.iload_n 2, 1) := by decide +kernel
theorem dX11_step_12 : decode cX11_step 12 = .ok (.aload_n 0, 1) := by decide +kernel
theorem dX11_step_13 : decode cX11_step 13 = .ok (.getfield 10, 3) := by decide +kernel
theorem dX11_step_16 : decode cX11_step 16 = .ok (.getfield 73, 3) := by decide +kernel
theorem dX11_step_19 : decode cX11_step 19 = .ok (.getfield 193, 3) := by decide +kernel
theorem dX11_step_22 : decode cX11_step 22 = .ok (.invokestatic 87, 3) := by decide +kernel
theorem dX11_step_25 : decode cX11_step 25 = .ok (.ifCond .ne 28, 3) := by decide +kernel
theorem dX11_step_28 : decode cX11_step 28 = .ok (.iload_n 1, 1) := by decide +kernel
theorem dX11_step_29 : decode cX11_step 29 = .ok (.iload_n 2, 1) := by decide +kernel
theorem dX11_step_30 : decode cX11_step 30 = .ok (.if_icmp .gt 23, 3) := by decide +kernel
theorem dX11_step_33 : decode cX11_step 33 = .ok (.iload 5, 2) := by decide +kernel
theorem dX11_step_35 : decode cX11_step 35 = .ok (.iconst 0, 1) := by decide +kernel
theorem dX11_step_36 : decode cX11_step 36 = .ok (.ldc 235, 2) := by decide +kernel
theorem dX11_step_38 : decode cX11_step 38 = .ok (.invokestatic 128, 3) := by decide +kernel
theorem dX11_step_41 : decode cX11_step 41 = .ok (.ifCond .ne 12, 3) := by decide +kernel
theorem dX11_step_44 : decode cX11_step 44 = .ok (.iload 6, 2) := by decide +kernel
theorem dX11_step_46 : decode cX11_step 46 = .ok (.iconst 3, 1) := by decide +kernel
theorem dX11_step_47 : decode cX11_step 47 = .ok (.invokestatic 87, 3) := by decide +kernel
theorem dX11_step_50 : decode cX11_step 50 = .ok (.ifCond .eq 6, 3) := by decide +kernel
theorem dX11_step_53 : decode cX11_step 53 = .ok (.bipush (-2), 2) := by decide +kernel
theorem dX11_step_55 : decode cX11_step 55 = .ok (.ireturn, 1) := by decide +kernel
theorem dX11_step_56 : decode cX11_step 56 = .ok (.aload_n 0, 1) := by decide +kernel
theorem dX11_step_57 : decode cX11_step 57 = .ok (.getfield 48, 3) := by decide +kernel
theorem dX11_step_60 : decode cX11_step 60 = .ok (.aload_n 0, 1) := by decide +kernel
theorem dX11_step_61 : decode cX11_step 61 = .ok (.getfield 10, 3) := by decide +kernel
theorem dX11_step_64 : decode cX11_step 64 = .ok (.iload_n 1, 1) := by decide +kernel
theorem dX11_step_65 : decode cX11_step 65 = .ok (.iload_n 2, 1) := by decide +kernel
theorem dX11_step_66 : decode cX11_step 66 = .ok (.iload_n 3, 1) := by decide +kernel
theorem dX11_step_67 : decode cX11_step 67 = .ok (.iload 4, 2) := by decide +kernel
theorem dX11_step_69 : decode cX11_step 69 = .ok (.invokevirtual 236, 3) := by decide +kernel
theorem dX11_step_72 : decode cX11_step 72 = .ok (.aload_n 0, 1) := by decide +kernel
theorem dX11_step_73 : decode cX11_step 73 = .ok (.getfield 48, 3) := by decide +kernel
theorem dX11_step_76 : decode cX11_step 76 = .ok (.invokevirtual 239, 3) := by decide +kernel
theorem dX11_step_79 : decode cX11_step 79 = .ok (.ifCond .ne 5, 3) := by decide +kernel
theorem dX11_step_82 : decode cX11_step 82 = .ok (.iconst (-1), 1) := by decide +kernel
theorem dX11_step_83 : decode cX11_step 83 = .ok (.ireturn, 1) := by decide +kernel
theorem dX11_step_84 : decode cX11_step 84 = .ok (.iload 6, 2) := by decide +kernel
theorem dX11_step_86 : decode cX11_step 86 = .ok (.ifCond .ne 13, 3) := by decide +kernel
theorem dX11_step_89 : decode cX11_step 89 = .ok (.aload_n 0, 1) := by decide +kernel
theorem dX11_step_90 : decode cX11_step 90 = .ok (.getfield 48, 3) := by decide +kernel
theorem dX11_step_93 : decode cX11_step 93 = .ok (.getfield 243, 3) := by decide +kernel
theorem dX11_step_96 : decode cX11_step 96 = .ok (.goto 28, 3) := by decide +kernel
theorem dX11_step_99 : decode cX11_step 99 = .ok (.iload 6, 2) := by decide +kernel
theorem dX11_step_101 : decode cX11_step 101 = .ok (.iconst 1, 1) := by decide +kernel
theorem dX11_step_102 : decode cX11_step 102 = .ok (.if_icmp .ne 13, 3) := by decide +kernel
theorem dX11_step_105 : decode cX11_step 105 = .ok (.aload_n 0, 1) := by decide +kernel
theorem dX11_step_106 : decode cX11_step 106 = .ok (.getfield 48, 3) := by decide +kernel
theorem dX11_step_109 : decode cX11_step 109 = .ok (.getfield 246, 3) := by decide +kernel
theorem dX11_step_112 : decode cX11_step 112 = .ok (.goto 12, 3) := by decide +kernel
theorem dX11_step_115 : decode cX11_step 115 = .ok (.aload_n 0, 1) := by decide +kernel
theorem dX11_step_116 : decode cX11_step 116 = .ok (.getfield 48, 3) := by decide +kernel
theorem dX11_step_119 : decode cX11_step 119 = .ok (.iload 5, 2) := by decide +kernel
theorem dX11_step_121 : decode cX11_step 121 = .ok (.invokevirtual 249, 3) := by decide +kernel
theorem dX11_step_124 : decode cX11_step 124 = .ok (.ireturn, 1) := by decide +kernel
theorem dX11_back_0 : decode cX11_back 0 = .ok (.aload_n 0, 1) := by decide +kernel
theorem dX11_back_1 : decode cX11_back 1 = .ok (.iload_n 1, 1) := by decide +kernel
theorem dX11_back_2 : decode cX11_back 2 = .ok (.iload_n 3, 1) := by decide +kernel
theorem dX11_back_3 : decode cX11_back 3 = .ok (.iload 4, 2) := by decide +kernel
theorem dX11_back_5 : decode cX11_back 5 = .ok (.invokevirtual 153, 3) := by decide +kernel
theorem dX11_back_8 : decode cX11_back 8 = .ok (.ifCond .ne 40, 3) := by decide +kernel
theorem dX11_back_11 : decode cX11_back 11 = .ok (.iload_n 2, 1) := by decide +kernel
theorem dX11_back_12 : decode cX11_back 12 = .ok (.aload_n 0, 1) := by decide +kernel
theorem dX11_back_13 : decode cX11_back 13 = .ok (.getfield 10, 3) := by decide +kernel
theorem dX11_back_16 : decode cX11_back 16 = .ok (.getfield 73, 3) := by decide +kernel
theorem dX11_back_19 : decode cX11_back 19 = .ok (.getfield 193, 3) := by decide +kernel
theorem dX11_back_22 : decode cX11_back 22 = .ok (.invokestatic 87, 3) := by decide +kernel
theorem dX11_back_25 : decode cX11_back 25 = .ok (.ifCond .ne 23, 3) := by decide +kernel
theorem dX11_back_28 : decode cX11_back 28 = .ok (.iload 5, 2) := by decide +kernel
theorem dX11_back_30 : decode cX11_back 30 = .ok (.iconst 0, 1) := by decide +kernel
theorem dX11_back_31 : decode cX11_back 31 = .ok (.ldc 235, 2) := by decide +kernel
theorem dX11_back_33 : decode cX11_back 33 = .ok (.invokestatic 128, 3) := by decide +kernel
theorem dX11_back_36 : decode cX11_back 36 = .ok (.ifCond .ne 12, 3) := by decide +kernel
theorem dX11_back_39 : decode cX11_back 39 = .ok (.iload 6, 2) := by decide +kernel
theorem dX11_back_41 : decode cX11_back 41 = .ok (.iconst 3, 1) := by decide +kernel
theorem dX11_back_42 : decode cX11_back 42 = .ok (.invokestatic 87, 3) := by decide +kernel
theorem dX11_back_45 : decode cX11_back 45 = .ok (.ifCond .eq 6, 3) := by decide +kernel
theorem dX11_back_48 : decode cX11_back 48 = .ok (.bipush (-2), 2) := by decide +kernel
theorem dX11_back_50 : decode cX11_back 50 = .ok (.ireturn, 1) := by decide +kernel
theorem dX11_back_51 : decode cX11_back 51 = .ok (.aload_n 0, 1) := by decide +kernel
theorem dX11_back_52 : decode cX11_back 52 = .ok (.getfield 10, 3) := by decide +kernel
theorem dX11_back_55 : decode cX11_back 55 = .ok (.getfield 73, 3) := by decide +kernel
theorem dX11_back_58 : decode cX11_back 58 = .ok (.getfield 252, 3) := by decide +kernel
theorem dX11_back_61 : decode cX11_back 61 = .ok (.iload_n 1, 1) := by decide +kernel
theorem dX11_back_62 : decode cX11_back 62 = .ok (.iaload, 1) := by decide +kernel
theorem dX11_back_63 : decode cX11_back 63 = .ok (.aload_n 0, 1) := by decide +kernel
theorem dX11_back_64 : decode cX11_back 64 = .ok (.getfield 10, 3) := by decide +kernel
theorem dX11_back_67 : decode cX11_back 67 = .ok (.getfield 73, 3) := by decide +kernel
theorem dX11_back_70 : decode cX11_back 70 = .ok (.getfield 252, 3) := by decide +kernel
theorem dX11_back_73 : decode cX11_back 73 = .ok (.iload_n 2, 1) := by decide +kernel
theorem dX11_back_74 : decode cX11_back 74 = .ok (.iaload, 1) := by decide +kernel
theorem dX11_back_75 : decode cX11_back 75 = .ok (.if_icmp .eq 6, 3) := by decide +kernel
theorem dX11_back_78 : decode cX11_back 78 = .ok (.bipush (-3), 2) := by decide +kernel
theorem dX11_back_80 : decode cX11_back 80 = .ok (.ireturn, 1) := by decide +kernel
theorem dX11_back_81 : decode cX11_back 81 = .ok (.aload_n 0, 1) := by decide +kernel
theorem dX11_back_82 : decode cX11_back 82 = .ok (.getfield 27, 3) := by decide +kernel
theorem dX11_back_85 : decode cX11_back 85 = .ok (.aload_n 0, 1) := by decide +kernel
theorem dX11_back_86 : decode cX11_back 86 = .ok (.getfield 10, 3) := by decide +kernel
theorem dX11_back_89 : decode cX11_back 89 = .ok (.iload_n 2, 1) := by decide +kernel
theorem dX11_back_90 : decode cX11_back 90 = .ok (.iload_n 3, 1) := by decide +kernel
theorem dX11_back_91 : decode cX11_back 91 = .ok (.iload 4, 2) := by decide +kernel
theorem dX11_back_93 : decode cX11_back 93 = .ok (.invokevirtual 170, 3) := by decide +kernel
theorem dX11_back_96 : decode cX11_back 96 = .ok (.aload_n 0, 1) := by decide +kernel
theorem dX11_back_97 : decode cX11_back 97 = .ok (.getfield 27, 3) := by decide +kernel
theorem dX11_back_100 : decode cX11_back 100 = .ok (.getfield 255, 3) := by decide +kernel
theorem dX11_back_103 : decode cX11_back 103 = .ok (.ifCond .eq 6, 3) := by decide +kernel
theorem dX11_back_106 : decode cX11_back 106 = .ok (.bipush (-3), 2) := by decide +kernel
theorem dX11_back_108 : decode cX11_back 108 = .ok (.ireturn, 1) := by decide +kernel
theorem dX11_back_109 : decode cX11_back 109 = .ok (.aload_n 0, 1) := by decide +kernel
theorem dX11_back_110 : decode cX11_back 110 = .ok (.getfield 55, 3) := by decide +kernel
theorem dX11_back_113 : decode cX11_back 113 = .ok (.aload_n 0, 1) := by decide +kernel
theorem dX11_back_114 : decode cX11_back 114 = .ok (.getfield 10, 3) := by decide +kernel
theorem dX11_back_117 : decode cX11_back 117 = .ok (.aload_n 0, 1) := by decide +kernel
theorem dX11_back_118 : decode cX11_back 118 = .ok (.getfield 27, 3) := by decide +kernel
theorem dX11_back_121 : decode cX11_back 121 = .ok (.iload_n 1, 1) := by decide +kernel
theorem dX11_back_122 : decode cX11_back 122 = .ok (.iload_n 2, 1) := by decide +kernel
theorem dX11_back_123 : decode cX11_back 123 = .ok (.iload_n 3, 1) := by decide +kernel
theorem dX11_back_124 : decode cX11_back 124 = .ok (.iload 4, 2) := by decide +kernel
theorem dX11_back_126 : decode cX11_back 126 = .ok (.aload_n 0, 1) := by decide +kernel
theorem dX11_back_127 : decode cX11_back 127 = .ok (.getfield 27, 3) := by decide +kernel
theorem dX11_back_130 : decode cX11_back 130 = .ok (.getfield 174, 3) := by decide +kernel
theorem dX11_back_133 : decode cX11_back 133 = .ok (.iconst 5, 1) := by decide +kernel
theorem dX11_back_134 : decode cX11_back 134 = .ok (.iaload, 1) := by decide +kernel
theorem dX11_back_135 : decode cX11_back 135 = .ok (.iload 5, 2) := by decide +kernel
theorem dX11_back_137 : decode cX11_back 137 = .ok (.iadd, 1) := by decide +kernel
theorem dX11_back_138 : decode cX11_back 138 = .ok (.invokevirtual 259, 3) := by decide +kernel
theorem dX11_back_141 : decode cX11_back 141 = .ok (.iload 6, 2) := by decide +kernel
theorem dX11_back_143 : decode cX11_back 143 = .ok (.iconst 2, 1) := by decide +kernel
theorem dX11_back_144 : decode cX11_back 144 = .ok (.if_icmp .ne 11, 3) := by decide +kernel
theorem dX11_back_147 : decode cX11_back 147 = .ok (.aload_n 0, 1) := by decide +kernel
theorem dX11_back_148 : decode cX11_back 148 = .ok (.getfield 55, 3) := by decide +kernel
theorem dX11_back_151 : decode cX11_back 151 = .ok (.invokevirtual 263, 3) := by decide +kernel
theorem dX11_back_154 : decode cX11_back 154 = .ok (.ireturn, 1) := by decide +kernel
theorem dX11_back_155 : decode cX11_back 155 = .ok (.aload_n 0, 1) := by decide +kernel
theorem dX11_back_156 : decode cX11_back 156 = .ok (.getfield 55, 3) := by decide +kernel
theorem dX11_back_159 : decode cX11_back 159 = .ok (.invokevirtual 266, 3) := by decide +kernel
theorem dX11_back_162 : decode cX11_back 162 = .ok (.iload 6, 2) := by decide +kernel
theorem dX11_back_164 : decode cX11_back 164 = .ok (.ifCond .ne 13, 3) := by decide +kernel
theorem dX11_back_167 : decode cX11_back 167 = .ok (.aload_n 0, 1) := by decide +kernel
theorem dX11_back_168 : decode cX11_back 168 = .ok (.getfield 55, 3) := by decide +kernel
theorem dX11_back_171 : decode cX11_back 171 = .ok (.getfield 269, 3) := by decide +kernel
theorem dX11_back_174 : decode cX11_back 174 = .ok (.goto 10, 3) := by decide +kernel
theorem dX11_back_177 : decode cX11_back 177 = .ok (.aload_n 0, 1) := by decide +kernel
theorem dX11_back_178 : decode cX11_back 178 = .ok (.getfield 55, 3) := by decide +kernel
theorem dX11_back_181 : decode cX11_back 181 = .ok (.invokevirtual 270, 3) := by decide +kernel
theorem dX11_back_184 : decode cX11_back 184 = .ok (.ireturn, 1) := by decide +kernel
theorem dX11_with_0 : decode cX11_with 0 = .ok (.iload_n 1, 1) := by decide +kernel
theorem dX11_with_1 : decode cX11_with 1 = .ok (.iconst 4, 1) := by decide +kernel
theorem dX11_with_2 : decode cX11_with 2 = .ok (.invokestatic 87, 3) := by decide +kernel
theorem dX11_with_5 : decode cX11_with 5 = .ok (.ifCond .ne 11, 3) := by decide +kernel
theorem dX11_with_8 : decode cX11_with 8 = .ok (.iload_n 2, 1) := by decide +kernel
theorem dX11_with_9 : decode cX11_with 9 = .ok (.iconst 5, 1) := by decide +kernel
theorem dX11_with_10 : decode cX11_with 10 = .ok (.invokestatic 87, 3) := by decide +kernel
theorem dX11_with_13 : decode cX11_with 13 = .ok (.ifCond .eq 7, 3) := by decide +kernel
theorem dX11_with_16 : decode cX11_with 16 = .ok (.ldc2_w 273, 3) := by decide +kernel
theorem dX11_with_19 : decode cX11_with 19 = .ok (.lreturn, 1) := by decide +kernel
theorem dX11_with_20 : decode cX11_with 20 = .ok (.lconst 0, 1) := by decide +kernel
theorem dX11_with_21 : decode cX11_with 21 = .ok (.lstore_n 3, 1) := by decide +kernel
theorem dX11_with_22 : decode cX11_with 22 = .ok (.lconst 0, 1) := by decide +kernel
theorem dX11_with_23 : decode cX11_with 23 = .ok (.lstore 5, 2) := by decide +kernel
theorem dX11_with_25 : decode cX11_with 25 = .ok (.lconst 0, 1) := by decide +kernel
theorem dX11_with_26 : decode cX11_with 26 = .ok (.lstore 7, 2) := by decide +kernel
theorem dX11_with_28 : decode cX11_with 28 = .ok (.lconst 0, 1) := by decide +kernel
theorem dX11_with_29 : decode cX11_with 29 = .ok (.lstore 9, 2) := by decide +kernel
theorem dX11_with_31 : decode cX11_with 31 = .ok (.iconst 0, 1) := by decide +kernel
theorem dX11_with_32 : decode cX11_with 32 = .ok (.istore 11, 2) := by decide +kernel
theorem dX11_with_34 : decode cX11_with 34 = .ok (.iload 11, 2) := by decide +kernel
theorem dX11_with_36 : decode cX11_with 36 = .ok (.aload_n 0, 1) := by decide +kernel
theorem dX11_with_37 : decode cX11_with 37 = .ok (.getfield 10, 3) := by decide +kernel
theorem dX11_with_40 : decode cX11_with 40 = .ok (.getfield 159, 3) := by decide +kernel
theorem dX11_with_43 : decode cX11_with 43 = .ok (.if_icmp .ge 76, 3) := by decide +kernel
theorem dX11_with_46 : decode cX11_with 46 = .ok (.aload_n 0, 1) := by decide +kernel
theorem dX11_with_47 : decode cX11_with 47 = .ok (.getfield 10, 3) := by decide +kernel
theorem dX11_with_50 : decode cX11_with 50 = .ok (.iload 11, 2) := by decide +kernel
theorem dX11_with_52 : decode cX11_with 52 = .ok (.iload_n 1, 1) := by decide +kernel
theorem dX11_with_53 : decode cX11_with 53 = .ok (.invokevirtual 275, 3) := by decide +kernel
theorem dX11_with_56 : decode cX11_with 56 = .ok (.ifCond .eq 57, 3) := by decide +kernel
theorem dX11_with_59 : decode cX11_with 59 = .ok (.aload_n 0, 1) := by decide +kernel
theorem dX11_with_60 : decode cX11_with 60 = .ok (.getfield 10, 3) := by decide +kernel
theorem dX11_with_63 : decode cX11_with 63 = .ok (.iload 11, 2) := by decide +kernel
theorem dX11_with_65 : decode cX11_with 65 = .ok (.iload_n 2, 1) := by decide +kernel
theorem dX11_with_66 : decode cX11_with 66 = .ok (.invokevirtual 167, 3) := by decide +kernel
theorem dX11_with_69 : decode cX11_with 69 = .ok (.i2l, 1) := by decide +kernel
theorem dX11_with_70 : decode cX11_with 70 = .ok (.lstore 12, 2) := by decide +kernel
theorem dX11_with_72 : decode cX11_with 72 = .ok (.aload_n 0, 1) := by decide +kernel
theorem dX11_with_73 : decode cX11_with 73 = .ok (.getfield 10, 3) := by decide +kernel
theorem dX11_with_76 : decode cX11_with 76 = .ok (.iload 11, 2) := by decide +kernel
theorem dX11_with_78 : decode cX11_with 78 = .ok (.iconst 5, 1) := by decide +kernel
theorem dX11_with_79 : decode cX11_with 79 = .ok (.invokevirtual 167, 3) := by decide +kernel
theorem dX11_with_82 : decode cX11_with 82 = .ok (.i2l, 1) := by decide +kernel
theorem dX11_with_83 : decode cX11_with 83 = .ok (.lstore 14, 2) := by decide +kernel
theorem dX11_with_85 : decode cX11_with 85 = .ok (.lload_n 3, 1) := by decide +kernel
theorem dX11_with_86 : decode cX11_with 86 = .ok (.lconst 1, 1) := by decide +kernel
theorem dX11_with_87 : decode cX11_with 87 = .ok (.ladd, 1) := by decide +kernel
theorem dX11_with_88 : decode cX11_with 88 = .ok (.lstore_n 3, 1) := by decide +kernel
theorem dX11_with_89 : decode cX11_with 89 = .ok (.lload 5, 2) := by decide +kernel
theorem dX11_with_91 : decode cX11_with 91 = .ok (.lload 12, 2) := by decide +kernel
theorem dX11_with_93 : decode cX11_with 93 = .ok (.ladd, 1) := by decide +kernel
theorem dX11_with_94 : decode cX11_with 94 = .ok (.lstore 5, 2) := by decide +kernel
theorem dX11_with_96 : decode cX11_with 96 = .ok (.lload 7, 2) := by decide +kernel
theorem dX11_with_98 : decode cX11_with 98 = .ok (.lload 14, 2) := by decide +kernel
theorem dX11_with_100 : decode cX11_with 100 = .ok (.ladd, 1) := by decide +kernel
theorem dX11_with_101 : decode cX11_with 101 = .ok (.lstore 7, 2) := by decide +kernel
theorem dX11_with_103 : decode cX11_with 103 = .ok (.lload 9, 2) := by decide +kernel
theorem dX11_with_105 : decode cX11_with 105 = .ok (.lload 12, 2) := by decide +kernel
theorem dX11_with_107 : decode cX11_with 107 = .ok (.lload 14, 2) := by decide +kernel
theorem dX11_with_109 : decode cX11_with 109 = .ok (.lmul, 1) := by decide +kernel
theorem dX11_with_110 : decode cX11_with 110 = .ok (.ladd, 1) := by decide +kernel
theorem dX11_with_111 : decode cX11_with 111 = .ok (.lstore 9, 2) := by decide +kernel
theorem dX11_with_113 : decode cX11_with 113 = .ok (.iinc 11 1, 3) := by decide +kernel
theorem dX11_with_116 : decode cX11_with 116 = .ok (.goto (-82), 3) := by decide +kernel
theorem dX11_with_119 : decode cX11_with 119 = .ok (.lload_n 3, 1) := by decide +kernel
theorem dX11_with_120 : decode cX11_with 120 = .ok (.lload 9, 2) := by decide +kernel
theorem dX11_with_122 : decode cX11_with 122 = .ok (.lmul, 1) := by decide +kernel
theorem dX11_with_123 : decode cX11_with 123 = .ok (.lload 5, 2) := by decide +kernel
theorem dX11_with_125 : decode cX11_with 125 = .ok (.lload 7, 2) := by decide +kernel
theorem dX11_with_127 : decode cX11_with 127 = .ok (.lmul, 1) := by decide +kernel
theorem dX11_with_128 : decode cX11_with 128 = .ok (.lsub, 1) := by decide +kernel
theorem dX11_with_129 : decode cX11_with 129 = .ok (.lreturn, 1) := by decide +kernel
theorem dX11_keep_0 : decode cX11_keep 0 = .ok (.iload_n 1, 1) := by decide +kernel
theorem dX11_keep_1 : decode cX11_keep 1 = .ok (.aload_n 0, 1) := by decide +kernel
theorem dX11_keep_2 : decode cX11_keep 2 = .ok (.getfield 10, 3) := by decide +kernel
theorem dX11_keep_5 : decode cX11_keep 5 = .ok (.getfield 159, 3) := by decide +kernel
theorem dX11_keep_8 : decode cX11_keep 8 = .ok (.invokestatic 87, 3) := by decide +kernel
theorem dX11_keep_11 : decode cX11_keep 11 = .ok (.ifCond .eq 6, 3) := by decide +kernel
theorem dX11_keep_14 : decode cX11_keep 14 = .ok (.bipush (-2), 2) := by decide +kernel
theorem dX11_keep_16 : decode cX11_keep 16 = .ok (.ireturn, 1) := by decide +kernel
theorem dX11_keep_17 : decode cX11_keep 17 = .ok (.iload_n 2, 1) := by decide +kernel
theorem dX11_keep_18 : decode cX11_keep 18 = .ok (.ifCond .eq 7, 3) := by decide +kernel
theorem dX11_keep_21 : decode cX11_keep 21 = .ok (.iconst 1, 1) := by decide +kernel
theorem dX11_keep_22 : decode cX11_keep 22 = .ok (.goto 4, 3) := by decide +kernel
theorem dX11_keep_25 : decode cX11_keep 25 = .ok (.iconst 0, 1) := by decide +kernel
theorem dX11_keep_26 : decode cX11_keep 26 = .ok (.istore_n 3, 1) := by decide +kernel
theorem dX11_keep_27 : decode cX11_keep 27 = .ok (.aload_n 0, 1) := by decide +kernel
theorem dX11_keep_28 : decode cX11_keep 28 = .ok (.getfield 10, 3) := by decide +kernel
theorem dX11_keep_31 : decode cX11_keep 31 = .ok (.iload_n 1, 1) := by decide +kernel
theorem dX11_keep_32 : decode cX11_keep 32 = .ok (.bipush 13, 2) := by decide +kernel
theorem dX11_keep_34 : decode cX11_keep 34 = .ok (.invokevirtual 167, 3) := by decide +kernel
theorem dX11_keep_37 : decode cX11_keep 37 = .ok (.iload_n 3, 1) := by decide +kernel
theorem dX11_keep_38 : decode cX11_keep 38 = .ok (.if_icmp .ne 6, 3) := by decide +kernel
theorem dX11_keep_41 : decode cX11_keep 41 = .ok (.bipush (-3), 2) := by decide +kernel
theorem dX11_keep_43 : decode cX11_keep 43 = .ok (.ireturn, 1) := by decide +kernel
theorem dX11_keep_44 : decode cX11_keep 44 = .ok (.aload_n 0, 1) := by decide +kernel
theorem dX11_keep_45 : decode cX11_keep 45 = .ok (.getfield 10, 3) := by decide +kernel
theorem dX11_keep_48 : decode cX11_keep 48 = .ok (.iload_n 1, 1) := by decide +kernel
theorem dX11_keep_49 : decode cX11_keep 49 = .ok (.bipush 13, 2) := by decide +kernel
theorem dX11_keep_51 : decode cX11_keep 51 = .ok (.iload_n 3, 1) := by decide +kernel
theorem dX11_keep_52 : decode cX11_keep 52 = .ok (.invokevirtual 278, 3) := by decide +kernel
theorem dX11_keep_55 : decode cX11_keep 55 = .ok (.iconst 1, 1) := by decide +kernel
theorem dX11_keep_56 : decode cX11_keep 56 = .ok (.ireturn, 1) := by decide +kernel
theorem dX11_fit_0 : decode cX11_fit 0 = .ok (.iload_n 1, 1) := by decide +kernel
theorem dX11_fit_1 : decode cX11_fit 1 = .ok (.iconst 4, 1) := by decide +kernel
theorem dX11_fit_2 : decode cX11_fit 2 = .ok (.invokestatic 87, 3) := by decide +kernel
theorem dX11_fit_5 : decode cX11_fit 5 = .ok (.ifCond .ne 22, 3) := by decide +kernel
theorem dX11_fit_8 : decode cX11_fit 8 = .ok (.iload_n 2, 1) := by decide +kernel
theorem dX11_fit_9 : decode cX11_fit 9 = .ok (.iload_n 3, 1) := by decide +kernel
theorem dX11_fit_10 : decode cX11_fit 10 = .ok (.iload 4, 2) := by decide +kernel
theorem dX11_fit_12 : decode cX11_fit 12 = .ok (.invokestatic 281, 3) := by decide +kernel
theorem dX11_fit_15 : decode cX11_fit 15 = .ok (.ifCond .ne 12, 3) := by decide +kernel
theorem dX11_fit_18 : decode cX11_fit 18 = .ok (.iload 5, 2) := by decide +kernel
theorem dX11_fit_20 : decode cX11_fit 20 = .ok (.iconst 5, 1) := by decide +kernel
theorem dX11_fit_21 : decode cX11_fit 21 = .ok (.invokestatic 87, 3) := by decide +kernel
theorem dX11_fit_24 : decode cX11_fit 24 = .ok (.ifCond .eq 7, 3) := by decide +kernel
theorem dX11_fit_27 : decode cX11_fit 27 = .ok (.ldc2_w 284, 3) := by decide +kernel
theorem dX11_fit_30 : decode cX11_fit 30 = .ok (.lreturn, 1) := by decide +kernel
theorem dX11_fit_31 : decode cX11_fit 31 = .ok (.aload_n 0, 1) := by decide +kernel
theorem dX11_fit_32 : decode cX11_fit 32 = .ok (.getfield 62, 3) := by decide +kernel
theorem dX11_fit_35 : decode cX11_fit 35 = .ok (.aload_n 0, 1) := by decide +kernel
theorem dX11_fit_36 : decode cX11_fit 36 = .ok (.getfield 10, 3) := by decide +kernel
theorem dX11_fit_39 : decode cX11_fit 39 = .ok (.iload_n 1, 1) := by decide +kernel
theorem dX11_fit_40 : decode cX11_fit 40 = .ok (.iload_n 2, 1) := by decide +kernel
theorem dX11_fit_41 : decode cX11_fit 41 = .ok (.iload_n 3, 1) := by decide +kernel
theorem dX11_fit_42 : decode cX11_fit 42 = .ok (.iload 4, 2) := by decide +kernel
theorem dX11_fit_44 : decode cX11_fit 44 = .ok (.invokevirtual 286, 3) := by decide +kernel
theorem dX11_fit_47 : decode cX11_fit 47 = .ok (.iload 5, 2) := by decide +kernel
theorem dX11_fit_49 : decode cX11_fit 49 = .ok (.iconst 3, 1) := by decide +kernel
theorem dX11_fit_50 : decode cX11_fit 50 = .ok (.if_icmp .ge 17, 3) := by decide +kernel
theorem dX11_fit_53 : decode cX11_fit 53 = .ok (.aload_n 0, 1) := by decide +kernel
theorem dX11_fit_54 : decode cX11_fit 54 = .ok (.getfield 62, 3) := by decide +kernel
theorem dX11_fit_57 : decode cX11_fit 57 = .ok (.getfield 288, 3) := by decide +kernel
theorem dX11_fit_60 : decode cX11_fit 60 = .ok (.iload 5, 2) := by decide +kernel
theorem dX11_fit_62 : decode cX11_fit 62 = .ok (.iaload, 1) := by decide +kernel
theorem dX11_fit_63 : decode cX11_fit 63 = .ok (.i2l, 1) := by decide +kernel
theorem dX11_fit_64 : decode cX11_fit 64 = .ok (.goto 27, 3) := by decide +kernel
theorem dX11_fit_67 : decode cX11_fit 67 = .ok (.iload 5, 2) := by decide +kernel
theorem dX11_fit_69 : decode cX11_fit 69 = .ok (.iconst 3, 1) := by decide +kernel
theorem dX11_fit_70 : decode cX11_fit 70 = .ok (.if_icmp .ne 13, 3) := by decide +kernel
theorem dX11_fit_73 : decode cX11_fit 73 = .ok (.aload_n 0, 1) := by decide +kernel
theorem dX11_fit_74 : decode cX11_fit 74 = .ok (.getfield 62, 3) := by decide +kernel
theorem dX11_fit_77 : decode cX11_fit 77 = .ok (.getfield 291, 3) := by decide +kernel
theorem dX11_fit_80 : decode cX11_fit 80 = .ok (.goto 11, 3) := by decide +kernel
theorem dX11_fit_83 : decode cX11_fit 83 = .ok (.aload_n 0, 1) := by decide +kernel
theorem dX11_fit_84 : decode cX11_fit 84 = .ok (.getfield 62, 3) := by decide +kernel
theorem dX11_fit_87 : decode cX11_fit 87 = .ok (.invokevirtual 295, 3) := by decide +kernel
theorem dX11_fit_90 : decode cX11_fit 90 = .ok (.i2l, 1) := by decide +kernel
theorem dX11_fit_91 : decode cX11_fit 91 = .ok (.lreturn, 1) := by decide +kernel
theorem dX11_foretell_0 : decode cX11_foretell 0 = .ok (.aload_n 0, 1) := by decide +kernel
theorem dX11_foretell_1 : decode cX11_foretell 1 = .ok (.iload_n 1, 1) := by decide +kernel
theorem dX11_foretell_2 : decode cX11_foretell 2 = .ok (.iload_n 2, 1) := by decide +kernel
theorem dX11_foretell_3 : decode cX11_foretell 3 = .ok (.iload_n 3, 1) := by decide +kernel
theorem dX11_foretell_4 : decode cX11_foretell 4 = .ok (.invokevirtual 153, 3) := by decide +kernel
theorem dX11_foretell_7 : decode cX11_foretell 7 = .ok (.ifCond .ne 24, 3) := by decide +kernel
theorem dX11_foretell_10 : decode cX11_foretell 10 = .ok (.iload 4, 2) := by decide +kernel
theorem dX11_foretell_12 : decode cX11_foretell 12 = .ok (.iload 5, 2) := by decide +kernel
theorem dX11_foretell_14 : decode cX11_foretell 14 = .ok (.iload 6, 2) := by decide +kernel
theorem dX11_foretell_16 : decode cX11_foretell 16 = .ok (.invokestatic 281, 3) := by decide +kernel
theorem dX11_foretell_19 : decode cX11_foretell 19 = .ok (.ifCond .ne 12, 3) := by decide +kernel
theorem dX11_foretell_22 : decode cX11_foretell 22 = .ok (.iload 7, 2) := by decide +kernel
theorem dX11_foretell_24 : decode cX11_foretell 24 = .ok (.iconst 3, 1) := by decide +kernel
theorem dX11_foretell_25 : decode cX11_foretell 25 = .ok (.invokestatic 87, 3) := by decide +kernel
theorem dX11_foretell_28 : decode cX11_foretell 28 = .ok (.ifCond .eq 7, 3) := by decide +kernel
theorem dX11_foretell_31 : decode cX11_foretell 31 = .ok (.ldc2_w 298, 3) := by decide +kernel
theorem dX11_foretell_34 : decode cX11_foretell 34 = .ok (.lreturn, 1) := by decide +kernel
theorem dX11_foretell_35 : decode cX11_foretell 35 = .ok (.aload_n 0, 1) := by decide +kernel
theorem dX11_foretell_36 : decode cX11_foretell 36 = .ok (.getfield 27, 3) := by decide +kernel
theorem dX11_foretell_39 : decode cX11_foretell 39 = .ok (.aload_n 0, 1) := by decide +kernel
theorem dX11_foretell_40 : decode cX11_foretell 40 = .ok (.getfield 10, 3) := by decide +kernel
theorem dX11_foretell_43 : decode cX11_foretell 43 = .ok (.iload_n 1, 1) := by decide +kernel
theorem dX11_foretell_44 : decode cX11_foretell 44 = .ok (.iload_n 2, 1) := by decide +kernel
theorem dX11_foretell_45 : decode cX11_foretell 45 = .ok (.iload_n 3, 1) := by decide +kernel
theorem dX11_foretell_46 : decode cX11_foretell 46 = .ok (.invokevirtual 170, 3) := by decide +kernel
theorem dX11_foretell_49 : decode cX11_foretell 49 = .ok (.aload_n 0, 1) := by decide +kernel
theorem dX11_foretell_50 : decode cX11_foretell 50 = .ok (.getfield 27, 3) := by decide +kernel
theorem dX11_foretell_53 : decode cX11_foretell 53 = .ok (.getfield 255, 3) := by decide +kernel
theorem dX11_foretell_56 : decode cX11_foretell 56 = .ok (.ifCond .eq 7, 3) := by decide +kernel
theorem dX11_foretell_59 : decode cX11_foretell 59 = .ok (.ldc2_w 300, 3) := by decide +kernel
theorem dX11_foretell_62 : decode cX11_foretell 62 = .ok (.lreturn, 1) := by decide +kernel
theorem dX11_foretell_63 : decode cX11_foretell 63 = .ok (.aload_n 0, 1) := by decide +kernel
theorem dX11_foretell_64 : decode cX11_foretell 64 = .ok (.getfield 62, 3) := by decide +kernel
theorem dX11_foretell_67 : decode cX11_foretell 67 = .ok (.aload_n 0, 1) := by decide +kernel
theorem dX11_foretell_68 : decode cX11_foretell 68 = .ok (.getfield 10, 3) := by decide +kernel
theorem dX11_foretell_71 : decode cX11_foretell 71 = .ok (.iload_n 2, 1) := by decide +kernel
theorem dX11_foretell_72 : decode cX11_foretell 72 = .ok (.iload 4, 2) := by decide +kernel
theorem dX11_foretell_74 : decode cX11_foretell 74 = .ok (.iload 5, 2) := by decide +kernel
theorem dX11_foretell_76 : decode cX11_foretell 76 = .ok (.iload 6, 2) := by decide +kernel
theorem dX11_foretell_78 : decode cX11_foretell 78 = .ok (.invokevirtual 286, 3) := by decide +kernel
theorem dX11_foretell_81 : decode cX11_foretell 81 = .ok (.aload_n 0, 1) := by decide +kernel
theorem dX11_foretell_82 : decode cX11_foretell 82 = .ok (.getfield 62, 3) := by decide +kernel
theorem dX11_foretell_85 : decode cX11_foretell 85 = .ok (.aload_n 0, 1) := by decide +kernel
theorem dX11_foretell_86 : decode cX11_foretell 86 = .ok (.getfield 27, 3) := by decide +kernel
theorem dX11_foretell_89 : decode cX11_foretell 89 = .ok (.getfield 174, 3) := by decide +kernel
theorem dX11_foretell_92 : decode cX11_foretell 92 = .ok (.iload 4, 2) := by decide +kernel
theorem dX11_foretell_94 : decode cX11_foretell 94 = .ok (.iaload, 1) := by decide +kernel
theorem dX11_foretell_95 : decode cX11_foretell 95 = .ok (.aload_n 0, 1) := by decide +kernel
theorem dX11_foretell_96 : decode cX11_foretell 96 = .ok (.getfield 27, 3) := by decide +kernel
theorem dX11_foretell_99 : decode cX11_foretell 99 = .ok (.getfield 174, 3) := by decide +kernel
theorem dX11_foretell_102 : decode cX11_foretell 102 = .ok (.iload 5, 2) := by decide +kernel
theorem dX11_foretell_104 : decode cX11_foretell 104 = .ok (.iaload, 1) := by decide +kernel
theorem dX11_foretell_105 : decode cX11_foretell 105 = .ok (.aload_n 0, 1) := by decide +kernel
theorem dX11_foretell_106 : decode cX11_foretell 106 = .ok (.getfield 27, 3) := by decide +kernel
theorem dX11_foretell_109 : decode cX11_foretell 109 = .ok (.getfield 174, 3) := by decide +kernel
theorem dX11_foretell_112 : decode cX11_foretell 112 = .ok (.iload 6, 2) := by decide +kernel
theorem dX11_foretell_114 : decode cX11_foretell 114 = .ok (.iaload, 1) := by decide +kernel
theorem dX11_foretell_115 : decode cX11_foretell 115 = .ok (.invokevirtual 302, 3) := by decide +kernel
theorem dX11_foretell_118 : decode cX11_foretell 118 = .ok (.i2l, 1) := by decide +kernel
theorem dX11_foretell_119 : decode cX11_foretell 119 = .ok (.lstore 8, 2) := by decide +kernel
theorem dX11_foretell_121 : decode cX11_foretell 121 = .ok (.iload 7, 2) := by decide +kernel
theorem dX11_foretell_123 : decode cX11_foretell 123 = .ok (.ifCond .ne 6, 3) := by decide +kernel
theorem dX11_foretell_126 : decode cX11_foretell 126 = .ok (.lload 8, 2) := by decide +kernel
theorem dX11_foretell_128 : decode cX11_foretell 128 = .ok (.lreturn, 1) := by decide +kernel
theorem dX11_foretell_129 : decode cX11_foretell 129 = .ok (.aload_n 0, 1) := by decide +kernel
theorem dX11_foretell_130 : decode cX11_foretell 130 = .ok (.getfield 62, 3) := by decide +kernel
theorem dX11_foretell_133 : decode cX11_foretell 133 = .ok (.aload_n 0, 1) := by decide +kernel
theorem dX11_foretell_134 : decode cX11_foretell 134 = .ok (.getfield 10, 3) := by decide +kernel
theorem dX11_foretell_137 : decode cX11_foretell 137 = .ok (.iload_n 2, 1) := by decide +kernel
theorem dX11_foretell_138 : decode cX11_foretell 138 = .ok (.aload_n 0, 1) := by decide +kernel
theorem dX11_foretell_139 : decode cX11_foretell 139 = .ok (.getfield 34, 3) := by decide +kernel
theorem dX11_foretell_142 : decode cX11_foretell 142 = .ok (.invokevirtual 306, 3) := by decide +kernel
theorem dX11_foretell_145 : decode cX11_foretell 145 = .ok (.aload_n 0, 1) := by decide +kernel
theorem dX11_foretell_146 : decode cX11_foretell 146 = .ok (.getfield 34, 3) := by decide +kernel
theorem dX11_foretell_149 : decode cX11_foretell 149 = .ok (.getfield 181, 3) := by decide +kernel
theorem dX11_foretell_152 : decode cX11_foretell 152 = .ok (.ifCond .ne 7, 3) := by decide +kernel
theorem dX11_foretell_155 : decode cX11_foretell 155 = .ok (.ldc2_w 300, 3) := by decide +kernel
theorem dX11_foretell_158 : decode cX11_foretell 158 = .ok (.lreturn, 1) := by decide +kernel
theorem dX11_foretell_159 : decode cX11_foretell 159 = .ok (.lload 8, 2) := by decide +kernel
theorem dX11_foretell_161 : decode cX11_foretell 161 = .ok (.iload 7, 2) := by decide +kernel
theorem dX11_foretell_163 : decode cX11_foretell 163 = .ok (.iconst 1, 1) := by decide +kernel
theorem dX11_foretell_164 : decode cX11_foretell 164 = .ok (.if_icmp .ne 13, 3) := by decide +kernel
theorem dX11_foretell_167 : decode cX11_foretell 167 = .ok (.aload_n 0, 1) := by decide +kernel
theorem dX11_foretell_168 : decode cX11_foretell 168 = .ok (.getfield 34, 3) := by decide +kernel
theorem dX11_foretell_171 : decode cX11_foretell 171 = .ok (.invokevirtual 184, 3) := by decide +kernel
theorem dX11_foretell_174 : decode cX11_foretell 174 = .ok (.goto 10, 3) := by decide +kernel
theorem dX11_foretell_177 : decode cX11_foretell 177 = .ok (.aload_n 0, 1) := by decide +kernel
theorem dX11_foretell_178 : decode cX11_foretell 178 = .ok (.getfield 34, 3) := by decide +kernel
theorem dX11_foretell_181 : decode cX11_foretell 181 = .ok (.invokevirtual 187, 3) := by decide +kernel
theorem dX11_foretell_184 : decode cX11_foretell 184 = .ok (.i2l, 1) := by decide +kernel
theorem dX11_foretell_185 : decode cX11_foretell 185 = .ok (.ladd, 1) := by decide +kernel
theorem dX11_foretell_186 : decode cX11_foretell 186 = .ok (.lreturn, 1) := by decide +kernel
theorem dX11_seek_0 : decode cX11_seek 0 = .ok (.iload_n 1, 1) := by decide +kernel
theorem dX11_seek_1 : decode cX11_seek 1 = .ok (.aload_n 0, 1) := by decide +kernel
theorem dX11_seek_2 : decode cX11_seek 2 = .ok (.getfield 10, 3) := by decide +kernel
theorem dX11_seek_5 : decode cX11_seek 5 = .ok (.getfield 73, 3) := by decide +kernel
theorem dX11_seek_8 : decode cX11_seek 8 = .ok (.getfield 193, 3) := by decide +kernel
theorem dX11_seek_11 : decode cX11_seek 11 = .ok (.invokestatic 87, 3) := by decide +kernel
theorem dX11_seek_14 : decode cX11_seek 14 = .ok (.ifCond .ne 31, 3) := by decide +kernel
theorem dX11_seek_17 : decode cX11_seek 17 = .ok (.iload_n 2, 1) := by decide +kernel
theorem dX11_seek_18 : decode cX11_seek 18 = .ok (.iconst 4, 1) := by decide +kernel
theorem dX11_seek_19 : decode cX11_seek 19 = .ok (.invokestatic 87, 3) := by decide +kernel
theorem dX11_seek_22 : decode cX11_seek 22 = .ok (.ifCond .ne 23, 3) := by decide +kernel
theorem dX11_seek_25 : decode cX11_seek 25 = .ok (.iload_n 3, 1) := by decide +kernel
theorem dX11_seek_26 : decode cX11_seek 26 = .ok (.iconst 0, 1) := by decide +kernel
theorem dX11_seek_27 : decode cX11_seek 27 = .ok (.ldc_w 310, 3) := by decide +kernel
theorem dX11_seek_30 : decode cX11_seek 30 = .ok (.invokestatic 128, 3) := by decide +kernel
theorem dX11_seek_33 : decode cX11_seek 33 = .ok (.ifCond .ne 12, 3) := by decide +kernel
theorem dX11_seek_36 : decode cX11_seek 36 = .ok (.iload 4, 2) := by decide +kernel
theorem dX11_seek_38 : decode cX11_seek 38 = .ok (.iconst 2, 1) := by decide +kernel
theorem dX11_seek_39 : decode cX11_seek 39 = .ok (.invokestatic 87, 3) := by decide +kernel
theorem dX11_seek_42 : decode cX11_seek 42 = .ok (.ifCond .eq 6, 3) := by decide +kernel
theorem dX11_seek_45 : decode cX11_seek 45 = .ok (.bipush (-2), 2) := by decide +kernel
theorem dX11_seek_47 : decode cX11_seek 47 = .ok (.ireturn, 1) := by decide +kernel
theorem dX11_seek_48 : decode cX11_seek 48 = .ok (.iconst (-1), 1) := by decide +kernel
theorem dX11_seek_49 : decode cX11_seek 49 = .ok (.istore 5, 2) := by decide +kernel
theorem dX11_seek_51 : decode cX11_seek 51 = .ok (.iconst 0, 1) := by decide +kernel
theorem dX11_seek_52 : decode cX11_seek 52 = .ok (.istore 6, 2) := by decide +kernel
theorem dX11_seek_54 : decode cX11_seek 54 = .ok (.iconst 0, 1) := by decide +kernel
theorem dX11_seek_55 : decode cX11_seek 55 = .ok (.istore 7, 2) := by decide +kernel
theorem dX11_seek_57 : decode cX11_seek 57 = .ok (.iconst 0, 1) := by decide +kernel
theorem dX11_seek_58 : decode cX11_seek 58 = .ok (.istore 8, 2) := by decide +kernel
theorem dX11_seek_60 : decode cX11_seek 60 = .ok (.iconst 0, 1) := by decide +kernel
theorem dX11_seek_61 : decode cX11_seek 61 = .ok (.istore 9, 2) := by decide +kernel
theorem dX11_seek_63 : decode cX11_seek 63 = .ok (.iload 9, 2) := by decide +kernel
theorem dX11_seek_65 : decode cX11_seek 65 = .ok (.aload_n 0, 1) := by decide +kernel
theorem dX11_seek_66 : decode cX11_seek 66 = .ok (.getfield 10, 3) := by decide +kernel
theorem dX11_seek_69 : decode cX11_seek 69 = .ok (.getfield 73, 3) := by decide +kernel
theorem dX11_seek_72 : decode cX11_seek 72 = .ok (.getfield 311, 3) := by decide +kernel
theorem dX11_seek_75 : decode cX11_seek 75 = .ok (.if_icmp .ge 111, 3) := by decide +kernel
theorem dX11_seek_78 : decode cX11_seek 78 = .ok (.aload_n 0, 1) := by decide +kernel
theorem dX11_seek_79 : decode cX11_seek 79 = .ok (.getfield 27, 3) := by decide +kernel
theorem dX11_seek_82 : decode cX11_seek 82 = .ok (.aload_n 0, 1) := by decide +kernel
theorem dX11_seek_83 : decode cX11_seek 83 = .ok (.getfield 10, 3) := by decide +kernel
theorem dX11_seek_86 : decode cX11_seek 86 = .ok (.iload_n 1, 1) := by decide +kernel
theorem dX11_seek_87 : decode cX11_seek 87 = .ok (.iload_n 2, 1) := by decide +kernel
theorem dX11_seek_88 : decode cX11_seek 88 = .ok (.iload 9, 2) := by decide +kernel
theorem dX11_seek_90 : decode cX11_seek 90 = .ok (.invokevirtual 170, 3) := by decide +kernel
theorem dX11_seek_93 : decode cX11_seek 93 = .ok (.iload 7, 2) := by decide +kernel
theorem dX11_seek_95 : decode cX11_seek 95 = .ok (.aload_n 0, 1) := by decide +kernel
theorem dX11_seek_96 : decode cX11_seek 96 = .ok (.getfield 27, 3) := by decide +kernel
theorem dX11_seek_99 : decode cX11_seek 99 = .ok (.getfield 255, 3) := by decide +kernel
theorem dX11_seek_102 : decode cX11_seek 102 = .ok (.ifCond .eq 9, 3) := by decide +kernel
theorem dX11_seek_105 : decode cX11_seek 105 = .ok (.sipush 2000, 3) := by decide +kernel
theorem dX11_seek_108 : decode cX11_seek 108 = .ok (.goto 12, 3) := by decide +kernel
theorem dX11_seek_111 : decode cX11_seek 111 = .ok (.aload_n 0, 1) := by decide +kernel
theorem dX11_seek_112 : decode cX11_seek 112 = .ok (.getfield 27, 3) := by decide +kernel
theorem dX11_seek_115 : decode cX11_seek 115 = .ok (.getfield 174, 3) := by decide +kernel
theorem dX11_seek_118 : decode cX11_seek 118 = .ok (.iconst 5, 1) := by decide +kernel
theorem dX11_seek_119 : decode cX11_seek 119 = .ok (.iaload, 1) := by decide +kernel
theorem dX11_seek_120 : decode cX11_seek 120 = .ok (.iadd, 1) := by decide +kernel
theorem dX11_seek_121 : decode cX11_seek 121 = .ok (.istore 7, 2) := by decide +kernel
theorem dX11_seek_123 : decode cX11_seek 123 = .ok (.iload 7, 2) := by decide +kernel
theorem dX11_seek_125 : decode cX11_seek 125 = .ok (.iload_n 3, 1) := by decide +kernel
theorem dX11_seek_126 : decode cX11_seek 126 = .ok (.if_icmp .le 6, 3) := by decide +kernel
theorem dX11_seek_129 : decode cX11_seek 129 = .ok (.goto 57, 3) := by decide +kernel
theorem dX11_seek_132 : decode cX11_seek 132 = .ok (.iinc 8 1, 3) := by decide +kernel
theorem dX11_seek_135 : decode cX11_seek 135 = .ok (.aload_n 0, 1) := by decide +kernel
theorem dX11_seek_136 : decode cX11_seek 136 = .ok (.getfield 27, 3) := by decide +kernel
theorem dX11_seek_139 : decode cX11_seek 139 = .ok (.getfield 255, 3) := by decide +kernel
theorem dX11_seek_142 : decode cX11_seek 142 = .ok (.ifCond .ne 38, 3) := by decide +kernel
theorem dX11_seek_145 : decode cX11_seek 145 = .ok (.iload 5, 2) := by decide +kernel
theorem dX11_seek_147 : decode cX11_seek 147 = .ok (.iconst (-1), 1) := by decide +kernel
theorem dX11_seek_148 : decode cX11_seek 148 = .ok (.if_icmp .eq 17, 3) := by decide +kernel
theorem dX11_seek_151 : decode cX11_seek 151 = .ok (.aload_n 0, 1) := by decide +kernel
theorem dX11_seek_152 : decode cX11_seek 152 = .ok (.getfield 27, 3) := by decide +kernel
theorem dX11_seek_155 : decode cX11_seek 155 = .ok (.getfield 174, 3) := by decide +kernel
theorem dX11_seek_158 : decode cX11_seek 158 = .ok (.iconst 5, 1) := by decide +kernel
theorem dX11_seek_159 : decode cX11_seek 159 = .ok (.iaload, 1) := by decide +kernel
theorem dX11_seek_160 : decode cX11_seek 160 = .ok (.iload 6, 2) := by decide +kernel
theorem dX11_seek_162 : decode cX11_seek 162 = .ok (.if_icmp .ge 18, 3) := by decide +kernel
theorem dX11_seek_165 : decode cX11_seek 165 = .ok (.iload 9, 2) := by decide +kernel
theorem dX11_seek_167 : decode cX11_seek 167 = .ok (.istore 5, 2) := by decide +kernel
theorem dX11_seek_169 : decode cX11_seek 169 = .ok (.aload_n 0, 1) := by decide +kernel
theorem dX11_seek_170 : decode cX11_seek 170 = .ok (.getfield 27, 3) := by decide +kernel
theorem dX11_seek_173 : decode cX11_seek 173 = .ok (.getfield 174, 3) := by decide +kernel
theorem dX11_seek_176 : decode cX11_seek 176 = .ok (.iconst 5, 1) := by decide +kernel
theorem dX11_seek_177 : decode cX11_seek 177 = .ok (.iaload, 1) := by decide +kernel
theorem dX11_seek_178 : decode cX11_seek 178 = .ok (.istore 6, 2) := by decide +kernel
theorem dX11_seek_180 : decode cX11_seek 180 = .ok (.iinc 9 1, 3) := by decide +kernel
theorem dX11_seek_183 : decode cX11_seek 183 = .ok (.goto (-120), 3) := by decide +kernel
theorem dX11_seek_186 : decode cX11_seek 186 = .ok (.iload 4, 2) := by decide +kernel
theorem dX11_seek_188 : decode cX11_seek 188 = .ok (.ifCond .ne 8, 3) := by decide +kernel
theorem dX11_seek_191 : decode cX11_seek 191 = .ok (.iload 5, 2) := by decide +kernel
theorem dX11_seek_193 : decode cX11_seek 193 = .ok (.goto 5, 3) := by decide +kernel
theorem dX11_seek_196 : decode cX11_seek 196 = .ok (.iload 8, 2) := by decide +kernel
theorem dX11_seek_198 : decode cX11_seek 198 = .ok (.ireturn, 1) := by decide +kernel
theorem dX11_write_0 : decode cX11_write 0 = .ok (.iload_n 1, 1) := by decide +kernel
theorem dX11_write_1 : decode cX11_write 1 = .ok (.iconst 0, 1) := by decide +kernel
theorem dX11_write_2 : decode cX11_write 2 = .ok (.bipush 127, 2) := by decide +kernel
theorem dX11_write_4 : decode cX11_write 4 = .ok (.invokestatic 128, 3) := by decide +kernel
theorem dX11_write_7 : decode cX11_write 7 = .ok (.ifCond .eq 6, 3) := by decide +kernel
theorem dX11_write_10 : decode cX11_write 10 = .ok (.bipush (-2), 2) := by decide +kernel
theorem dX11_write_12 : decode cX11_write 12 = .ok (.ireturn, 1) := by decide +kernel
theorem dX11_write_13 : decode cX11_write 13 = .ok (.aload_n 0, 1) := by decide +kernel
theorem dX11_write_14 : decode cX11_write 14 = .ok (.getfield 10, 3) := by decide +kernel
theorem dX11_write_17 : decode cX11_write 17 = .ok (.getfield 314, 3) := by decide +kernel
theorem dX11_write_20 : decode cX11_write 20 = .ok (.bipush 40, 2) := by decide +kernel
theorem dX11_write_22 : decode cX11_write 22 = .ok (.if_icmp .lt 6, 3) := by decide +kernel
theorem dX11_write_25 : decode cX11_write 25 = .ok (.bipush (-4), 2) := by decide +kernel
theorem dX11_write_27 : decode cX11_write 27 = .ok (.ireturn, 1) := by decide +kernel
theorem dX11_write_28 : decode cX11_write 28 = .ok (.aload_n 0, 1) := by decide +kernel
theorem dX11_write_29 : decode cX11_write 29 = .ok (.getfield 10, 3) := by decide +kernel
theorem dX11_write_32 : decode cX11_write 32 = .ok (.getfield 317, 3) := by decide +kernel
theorem dX11_write_35 : decode cX11_write 35 = .ok (.aload_n 0, 1) := by decide +kernel
theorem dX11_write_36 : decode cX11_write 36 = .ok (.getfield 10, 3) := by decide +kernel
theorem dX11_write_39 : decode cX11_write 39 = .ok (.getfield 314, 3) := by decide +kernel
theorem dX11_write_42 : decode cX11_write 42 = .ok (.iload_n 1, 1) := by decide +kernel
theorem dX11_write_43 : decode cX11_write 43 = .ok (.iastore, 1) := by decide +kernel
theorem dX11_write_44 : decode cX11_write 44 = .ok (.aload_n 0, 1) := by decide +kernel
theorem dX11_write_45 : decode cX11_write 45 = .ok (.getfield 10, 3) := by decide +kernel
theorem dX11_write_48 : decode cX11_write 48 = .ok (.dup, 1) := by decide +kernel
theorem dX11_write_49 : decode cX11_write 49 = .ok (.getfield 314, 3) := by decide +kernel
theorem dX11_write_52 : decode cX11_write 52 = .ok (.iconst 1, 1) := by decide +kernel
theorem dX11_write_53 : decode cX11_write 53 = .ok (.iadd, 1) := by decide +kernel
theorem dX11_write_54 : decode cX11_write 54 = .ok (.putfield 314, 3) := by decide +kernel
theorem dX11_write_57 : decode cX11_write 57 = .ok (.aload_n 0, 1) := by decide +kernel
theorem dX11_write_58 : decode cX11_write 58 = .ok (.getfield 10, 3) := by decide +kernel
theorem dX11_write_61 : decode cX11_write 61 = .ok (.getfield 314, 3) := by decide +kernel
theorem dX11_write_64 : decode cX11_write 64 = .ok (.ireturn, 1) := by decide +kernel
theorem dX11_erase_0 : decode cX11_erase 0 = .ok (.aload_n 0, 1) := by decide +kernel
theorem dX11_erase_1 : decode cX11_erase 1 = .ok (.getfield 10, 3) := by decide +kernel
theorem dX11_erase_4 : decode cX11_erase 4 = .ok (.getfield 314, 3) := by decide +kernel
theorem dX11_erase_7 : decode cX11_erase 7 = .ok (.istore_n 1, 1) := by decide +kernel
theorem dX11_erase_8 : decode cX11_erase 8 = .ok (.aload_n 0, 1) := by decide +kernel
theorem dX11_erase_9 : decode cX11_erase 9 = .ok (.getfield 10, 3) := by decide +kernel
theorem dX11_erase_12 : decode cX11_erase 12 = .ok (.iconst 0, 1) := by decide +kernel
theorem dX11_erase_13 : decode cX11_erase 13 = .ok (.putfield 314, 3) := by decide +kernel
theorem dX11_erase_16 : decode cX11_erase 16 = .ok (.iload_n 1, 1) := by decide +kernel
theorem dX11_erase_17 : decode cX11_erase 17 = .ok (.ireturn, 1) := by decide +kernel
theorem dX11_fault_0 : decode cX11_fault 0 = .ok (.aload_n 0, 1) := by decide +kernel
theorem dX11_fault_1 : decode cX11_fault 1 = .ok (.getfield 69, 3) := by decide +kernel
theorem dX11_fault_4 : decode cX11_fault 4 = .ok (.aload_n 0, 1) := by decide +kernel
theorem dX11_fault_5 : decode cX11_fault 5 = .ok (.getfield 10, 3) := by decide +kernel
theorem dX11_fault_8 : decode cX11_fault 8 = .ok (.getfield 317, 3) := by decide +kernel
theorem dX11_fault_11 : decode cX11_fault 11 = .ok (.aload_n 0, 1) := by decide +kernel
theorem dX11_fault_12 : decode cX11_fault 12 = .ok (.getfield 10, 3) := by decide +kernel
theorem dX11_fault_15 : decode cX11_fault 15 = .ok (.getfield 314, 3) := by decide +kernel
theorem dX11_fault_18 : decode cX11_fault 18 = .ok (.invokevirtual 320, 3) := by decide +kernel
theorem dX11_fault_21 : decode cX11_fault 21 = .ok (.pop2, 1) := by decide +kernel
theorem dX11_fault_22 : decode cX11_fault 22 = .ok (.aload_n 0, 1) := by decide +kernel
theorem dX11_fault_23 : decode cX11_fault 23 = .ok (.getfield 69, 3) := by decide +kernel
theorem dX11_fault_26 : decode cX11_fault 26 = .ok (.getfield 324, 3) := by decide +kernel
theorem dX11_fault_29 : decode cX11_fault 29 = .ok (.ireturn, 1) := by decide +kernel
theorem dX11_rung_0 : decode cX11_rung 0 = .ok (.iload_n 1, 1) := by decide +kernel
theorem dX11_rung_1 : decode cX11_rung 1 = .ok (.iconst 4, 1) := by decide +kernel
theorem dX11_rung_2 : decode cX11_rung 2 = .ok (.invokestatic 87, 3) := by decide +kernel
theorem dX11_rung_5 : decode cX11_rung 5 = .ok (.ifCond .ne 31, 3) := by decide +kernel
theorem dX11_rung_8 : decode cX11_rung 8 = .ok (.iload_n 2, 1) := by decide +kernel
theorem dX11_rung_9 : decode cX11_rung 9 = .ok (.aload_n 0, 1) := by decide +kernel
theorem dX11_rung_10 : decode cX11_rung 10 = .ok (.getfield 10, 3) := by decide +kernel
theorem dX11_rung_13 : decode cX11_rung 13 = .ok (.getfield 73, 3) := by decide +kernel
theorem dX11_rung_16 : decode cX11_rung 16 = .ok (.getfield 311, 3) := by decide +kernel
theorem dX11_rung_19 : decode cX11_rung 19 = .ok (.invokestatic 87, 3) := by decide +kernel
theorem dX11_rung_22 : decode cX11_rung 22 = .ok (.ifCond .ne 14, 3) := by decide +kernel
theorem dX11_rung_25 : decode cX11_rung 25 = .ok (.iload_n 3, 1) := by decide +kernel
theorem dX11_rung_26 : decode cX11_rung 26 = .ok (.iconst 0, 1) := by decide +kernel
theorem dX11_rung_27 : decode cX11_rung 27 = .ok (.sipush 200, 3) := by decide +kernel
theorem dX11_rung_30 : decode cX11_rung 30 = .ok (.invokestatic 128, 3) := by decide +kernel
theorem dX11_rung_33 : decode cX11_rung 33 = .ok (.ifCond .eq 6, 3) := by decide +kernel
theorem dX11_rung_36 : decode cX11_rung 36 = .ok (.bipush (-2), 2) := by decide +kernel
theorem dX11_rung_38 : decode cX11_rung 38 = .ok (.ireturn, 1) := by decide +kernel
theorem dX11_rung_39 : decode cX11_rung 39 = .ok (.aload_n 0, 1) := by decide +kernel
theorem dX11_rung_40 : decode cX11_rung 40 = .ok (.getfield 69, 3) := by decide +kernel
theorem dX11_rung_43 : decode cX11_rung 43 = .ok (.aload_n 0, 1) := by decide +kernel
theorem dX11_rung_44 : decode cX11_rung 44 = .ok (.getfield 10, 3) := by decide +kernel
theorem dX11_rung_47 : decode cX11_rung 47 = .ok (.getfield 317, 3) := by decide +kernel
theorem dX11_rung_50 : decode cX11_rung 50 = .ok (.aload_n 0, 1) := by decide +kernel
theorem dX11_rung_51 : decode cX11_rung 51 = .ok (.getfield 10, 3) := by decide +kernel
theorem dX11_rung_54 : decode cX11_rung 54 = .ok (.getfield 314, 3) := by decide +kernel
theorem dX11_rung_57 : decode cX11_rung 57 = .ok (.invokevirtual 320, 3) := by decide +kernel
theorem dX11_rung_60 : decode cX11_rung 60 = .ok (.pop2, 1) := by decide +kernel
theorem dX11_rung_61 : decode cX11_rung 61 = .ok (.aload_n 0, 1) := by decide +kernel
theorem dX11_rung_62 : decode cX11_rung 62 = .ok (.getfield 69, 3) := by decide +kernel
theorem dX11_rung_65 : decode cX11_rung 65 = .ok (.getfield 324, 3) := by decide +kernel
theorem dX11_rung_68 : decode cX11_rung 68 = .ok (.iconst (-1), 1) := by decide +kernel
theorem dX11_rung_69 : decode cX11_rung 69 = .ok (.if_icmp .eq 6, 3) := by decide +kernel
theorem dX11_rung_72 : decode cX11_rung 72 = .ok (.bipush (-3), 2) := by decide +kernel
theorem dX11_rung_74 : decode cX11_rung 74 = .ok (.ireturn, 1) := by decide +kernel
theorem dX11_rung_75 : decode cX11_rung 75 = .ok (.iconst 0, 1) := by decide +kernel
theorem dX11_rung_76 : decode cX11_rung 76 = .ok (.istore 4, 2) := by decide +kernel
theorem dX11_rung_78 : decode cX11_rung 78 = .ok (.iconst 0, 1) := by decide +kernel
theorem dX11_rung_79 : decode cX11_rung 79 = .ok (.istore 5, 2) := by decide +kernel
theorem dX11_rung_81 : decode cX11_rung 81 = .ok (.iconst 0, 1) := by decide +kernel
theorem dX11_rung_82 : decode cX11_rung 82 = .ok (.istore 6, 2) := by decide +kernel
theorem dX11_rung_84 : decode cX11_rung 84 = .ok (.iload 6, 2) := by decide +kernel
theorem dX11_rung_86 : decode cX11_rung 86 = .ok (.aload_n 0, 1) := by decide +kernel
theorem dX11_rung_87 : decode cX11_rung 87 = .ok (.getfield 10, 3) := by decide +kernel
theorem dX11_rung_90 : decode cX11_rung 90 = .ok (.getfield 73, 3) := by decide +kernel
theorem dX11_rung_93 : decode cX11_rung 93 = .ok (.getfield 193, 3) := by decide +kernel
theorem dX11_rung_96 : decode cX11_rung 96 = .ok (.if_icmp .ge 94, 3) := by decide +kernel
theorem dX11_rung_99 : decode cX11_rung 99 = .ok (.aload_n 0, 1) := by decide +kernel
theorem dX11_rung_100 : decode cX11_rung 100 = .ok (.getfield 10, 3) := by decide +kernel
theorem dX11_rung_103 : decode cX11_rung 103 = .ok (.aload_n 0, 1) := by decide +kernel
theorem dX11_rung_104 : decode cX11_rung 104 = .ok (.getfield 34, 3) := by decide +kernel
theorem dX11_rung_107 : decode cX11_rung 107 = .ok (.iload 6, 2) := by decide +kernel
theorem dX11_rung_109 : decode cX11_rung 109 = .ok (.iload_n 1, 1) := by decide +kernel
theorem dX11_rung_110 : decode cX11_rung 110 = .ok (.iload_n 2, 1) := by decide +kernel
theorem dX11_rung_111 : decode cX11_rung 111 = .ok (.iload_n 3, 1) := by decide +kernel
theorem dX11_rung_112 : decode cX11_rung 112 = .ok (.invokevirtual 177, 3) := by decide +kernel
theorem dX11_rung_115 : decode cX11_rung 115 = .ok (.aload_n 0, 1) := by decide +kernel
theorem dX11_rung_116 : decode cX11_rung 116 = .ok (.getfield 69, 3) := by decide +kernel
theorem dX11_rung_119 : decode cX11_rung 119 = .ok (.aload_n 0, 1) := by decide +kernel
theorem dX11_rung_120 : decode cX11_rung 120 = .ok (.getfield 34, 3) := by decide +kernel
theorem dX11_rung_123 : decode cX11_rung 123 = .ok (.iload 5, 2) := by decide +kernel
theorem dX11_rung_125 : decode cX11_rung 125 = .ok (.iload 6, 2) := by decide +kernel
theorem dX11_rung_127 : decode cX11_rung 127 = .ok (.invokevirtual 327, 3) := by decide +kernel
theorem dX11_rung_130 : decode cX11_rung 130 = .ok (.aload_n 0, 1) := by decide +kernel
theorem dX11_rung_131 : decode cX11_rung 131 = .ok (.getfield 34, 3) := by decide +kernel
theorem dX11_rung_134 : decode cX11_rung 134 = .ok (.getfield 181, 3) := by decide +kernel
theorem dX11_rung_137 : decode cX11_rung 137 = .ok (.ifCond .le 38, 3) := by decide +kernel
theorem dX11_rung_140 : decode cX11_rung 140 = .ok (.aload_n 0, 1) := by decide +kernel
theorem dX11_rung_141 : decode cX11_rung 141 = .ok (.getfield 69, 3) := by decide +kernel
theorem dX11_rung_144 : decode cX11_rung 144 = .ok (.aload_n 0, 1) := by decide +kernel
theorem dX11_rung_145 : decode cX11_rung 145 = .ok (.getfield 10, 3) := by decide +kernel
theorem dX11_rung_148 : decode cX11_rung 148 = .ok (.getfield 317, 3) := by decide +kernel
theorem dX11_rung_151 : decode cX11_rung 151 = .ok (.aload_n 0, 1) := by decide +kernel
theorem dX11_rung_152 : decode cX11_rung 152 = .ok (.getfield 10, 3) := by decide +kernel
theorem dX11_rung_155 : decode cX11_rung 155 = .ok (.getfield 314, 3) := by decide +kernel
theorem dX11_rung_158 : decode cX11_rung 158 = .ok (.invokevirtual 320, 3) := by decide +kernel
theorem dX11_rung_161 : decode cX11_rung 161 = .ok (.lconst 0, 1) := by decide +kernel
theorem dX11_rung_162 : decode cX11_rung 162 = .ok (.lcmp, 1) := by decide +kernel
theorem dX11_rung_163 : decode cX11_rung 163 = .ok (.ifCond .eq 12, 3) := by decide +kernel
theorem dX11_rung_166 : decode cX11_rung 166 = .ok (.iload 4, 2) := by decide +kernel
theorem dX11_rung_168 : decode cX11_rung 168 = .ok (.iconst 1, 1) := by decide +kernel
theorem dX11_rung_169 : decode cX11_rung 169 = .ok (.iload 6, 2) := by decide +kernel
theorem dX11_rung_171 : decode cX11_rung 171 = .ok (.ishl, 1) := by decide +kernel
theorem dX11_rung_172 : decode cX11_rung 172 = .ok (.ior, 1) := by decide +kernel
theorem dX11_rung_173 : decode cX11_rung 173 = .ok (.istore 4, 2) := by decide +kernel
theorem dX11_rung_175 : decode cX11_rung 175 = .ok (.aload_n 0, 1) := by decide +kernel
theorem dX11_rung_176 : decode cX11_rung 176 = .ok (.getfield 34, 3) := by decide +kernel
theorem dX11_rung_179 : decode cX11_rung 179 = .ok (.invokevirtual 190, 3) := by decide +kernel
theorem dX11_rung_182 : decode cX11_rung 182 = .ok (.istore 5, 2) := by decide +kernel
theorem dX11_rung_184 : decode cX11_rung 184 = .ok (.iinc 6 1, 3) := by decide +kernel
theorem dX11_rung_187 : decode cX11_rung 187 = .ok (.goto (-103), 3) := by decide +kernel
theorem dX11_rung_190 : decode cX11_rung 190 = .ok (.iload 4, 2) := by decide +kernel
theorem dX11_rung_192 : decode cX11_rung 192 = .ok (.ireturn, 1) := by decide +kernel
theorem dX11_forge_0 : decode cX11_forge 0 = .ok (.iload_n 1, 1) := by decide +kernel
theorem dX11_forge_1 : decode cX11_forge 1 = .ok (.aload_n 0, 1) := by decide +kernel
theorem dX11_forge_2 : decode cX11_forge 2 = .ok (.getfield 10, 3) := by decide +kernel
theorem dX11_forge_5 : decode cX11_forge 5 = .ok (.getfield 159, 3) := by decide +kernel
theorem dX11_forge_8 : decode cX11_forge 8 = .ok (.invokestatic 87, 3) := by decide +kernel
theorem dX11_forge_11 : decode cX11_forge 11 = .ok (.ifCond .ne 28, 3) := by decide +kernel
theorem dX11_forge_14 : decode cX11_forge 14 = .ok (.aload_n 0, 1) := by decide +kernel
theorem dX11_forge_15 : decode cX11_forge 15 = .ok (.getfield 10, 3) := by decide +kernel
theorem dX11_forge_18 : decode cX11_forge 18 = .ok (.iload_n 1, 1) := by decide +kernel
theorem dX11_forge_19 : decode cX11_forge 19 = .ok (.bipush 6, 2) := by decide +kernel
theorem dX11_forge_21 : decode cX11_forge 21 = .ok (.invokevirtual 167, 3) := by decide +kernel
theorem dX11_forge_24 : decode cX11_forge 24 = .ok (.iconst 1, 1) := by decide +kernel
theorem dX11_forge_25 : decode cX11_forge 25 = .ok (.if_icmp .eq 14, 3) := by decide +kernel
theorem dX11_forge_28 : decode cX11_forge 28 = .ok (.iload_n 2, 1) := by decide +kernel
theorem dX11_forge_29 : decode cX11_forge 29 = .ok (.iconst 0, 1) := by decide +kernel
theorem dX11_forge_30 : decode cX11_forge 30 = .ok (.ldc_w 331, 3) := by decide +kernel
theorem dX11_forge_33 : decode cX11_forge 33 = .ok (.invokestatic 128, 3) := by decide +kernel
theorem dX11_forge_36 : decode cX11_forge 36 = .ok (.ifCond .eq 6, 3) := by decide +kernel
theorem dX11_forge_39 : decode cX11_forge 39 = .ok (.ldc 166, 2) := by decide +kernel
theorem dX11_forge_41 : decode cX11_forge 41 = .ok (.ireturn, 1) := by decide +kernel
theorem dX11_forge_42 : decode cX11_forge 42 = .ok (.aload_n 0, 1) := by decide +kernel
theorem dX11_forge_43 : decode cX11_forge 43 = .ok (.getfield 10, 3) := by decide +kernel
theorem dX11_forge_46 : decode cX11_forge 46 = .ok (.iload_n 1, 1) := by decide +kernel
theorem dX11_forge_47 : decode cX11_forge 47 = .ok (.iconst 5, 1) := by decide +kernel
theorem dX11_forge_48 : decode cX11_forge 48 = .ok (.invokevirtual 167, 3) := by decide +kernel
theorem dX11_forge_51 : decode cX11_forge 51 = .ok (.istore_n 3, 1) := by decide +kernel
theorem dX11_forge_52 : decode cX11_forge 52 = .ok (.aload_n 0, 1) := by decide +kernel
theorem dX11_forge_53 : decode cX11_forge 53 = .ok (.getfield 10, 3) := by decide +kernel
theorem dX11_forge_56 : decode cX11_forge 56 = .ok (.iload_n 1, 1) := by decide +kernel
theorem dX11_forge_57 : decode cX11_forge 57 = .ok (.iconst 5, 1) := by decide +kernel
theorem dX11_forge_58 : decode cX11_forge 58 = .ok (.iload_n 2, 1) := by decide +kernel
theorem dX11_forge_59 : decode cX11_forge 59 = .ok (.invokevirtual 278, 3) := by decide +kernel
theorem dX11_forge_62 : decode cX11_forge 62 = .ok (.iload_n 3, 1) := by decide +kernel
theorem dX11_forge_63 : decode cX11_forge 63 = .ok (.ireturn, 1) := by decide +kernel
theorem dX11_check_0 : decode cX11_check 0 = .ok (.iconst 0, 1) := by decide +kernel
theorem dX11_check_1 : decode cX11_check 1 = .ok (.istore_n 1, 1) := by decide +kernel
theorem dX11_check_2 : decode cX11_check 2 = .ok (.iload_n 1, 1) := by decide +kernel
theorem dX11_check_3 : decode cX11_check 3 = .ok (.aload_n 0, 1) := by decide +kernel
theorem dX11_check_4 : decode cX11_check 4 = .ok (.getfield 10, 3) := by decide +kernel
theorem dX11_check_7 : decode cX11_check 7 = .ok (.getfield 159, 3) := by decide +kernel
theorem dX11_check_10 : decode cX11_check 10 = .ok (.if_icmp .ge 54, 3) := by decide +kernel
theorem dX11_check_13 : decode cX11_check 13 = .ok (.aload_n 0, 1) := by decide +kernel
theorem dX11_check_14 : decode cX11_check 14 = .ok (.getfield 10, 3) := by decide +kernel
theorem dX11_check_17 : decode cX11_check 17 = .ok (.iload_n 1, 1) := by decide +kernel
theorem dX11_check_18 : decode cX11_check 18 = .ok (.bipush 12, 2) := by decide +kernel
theorem dX11_check_20 : decode cX11_check 20 = .ok (.invokevirtual 167, 3) := by decide +kernel
theorem dX11_check_23 : decode cX11_check 23 = .ok (.ifCond .ne 35, 3) := by decide +kernel
theorem dX11_check_26 : decode cX11_check 26 = .ok (.aload_n 0, 1) := by decide +kernel
theorem dX11_check_27 : decode cX11_check 27 = .ok (.getfield 27, 3) := by decide +kernel
theorem dX11_check_30 : decode cX11_check 30 = .ok (.aload_n 0, 1) := by decide +kernel
theorem dX11_check_31 : decode cX11_check 31 = .ok (.getfield 10, 3) := by decide +kernel
theorem dX11_check_34 : decode cX11_check 34 = .ok (.iload_n 1, 1) := by decide +kernel
theorem dX11_check_35 : decode cX11_check 35 = .ok (.invokevirtual 332, 3) := by decide +kernel
theorem dX11_check_38 : decode cX11_check 38 = .ok (.aload_n 0, 1) := by decide +kernel
theorem dX11_check_39 : decode cX11_check 39 = .ok (.getfield 10, 3) := by decide +kernel
theorem dX11_check_42 : decode cX11_check 42 = .ok (.iload_n 1, 1) := by decide +kernel
theorem dX11_check_43 : decode cX11_check 43 = .ok (.aload_n 0, 1) := by decide +kernel
theorem dX11_check_44 : decode cX11_check 44 = .ok (.getfield 27, 3) := by decide +kernel
theorem dX11_check_47 : decode cX11_check 47 = .ok (.getfield 174, 3) := by decide +kernel
theorem dX11_check_50 : decode cX11_check 50 = .ok (.invokevirtual 336, 3) := by decide +kernel
theorem dX11_check_53 : decode cX11_check 53 = .ok (.ifCond .ne 5, 3) := by decide +kernel
theorem dX11_check_56 : decode cX11_check 56 = .ok (.iload_n 1, 1) := by decide +kernel
theorem dX11_check_57 : decode cX11_check 57 = .ok (.ireturn, 1) := by decide +kernel
theorem dX11_check_58 : decode cX11_check 58 = .ok (.iinc 1 1, 3) := by decide +kernel
theorem dX11_check_61 : decode cX11_check 61 = .ok (.goto (-59), 3) := by decide +kernel
theorem dX11_check_64 : decode cX11_check 64 = .ok (.iconst (-1), 1) := by decide +kernel
theorem dX11_check_65 : decode cX11_check 65 = .ok (.ireturn, 1) := by decide +kernel
theorem dX11_image_0 : decode cX11_image 0 = .ok (.iload_n 1, 1) := by decide +kernel
theorem dX11_image_1 : decode cX11_image 1 = .ok (.iconst 2, 1) := by decide +kernel
theorem dX11_image_2 : decode cX11_image 2 = .ok (.invokestatic 87, 3) := by decide +kernel
theorem dX11_image_5 : decode cX11_image 5 = .ok (.ifCond .eq 6, 3) := by decide +kernel
theorem dX11_image_8 : decode cX11_image 8 = .ok (.bipush (-2), 2) := by decide +kernel
theorem dX11_image_10 : decode cX11_image 10 = .ok (.ireturn, 1) := by decide +kernel
theorem dX11_image_11 : decode cX11_image 11 = .ok (.aload_n 0, 1) := by decide +kernel
theorem dX11_image_12 : decode cX11_image 12 = .ok (.getfield 16, 3) := by decide +kernel
theorem dX11_image_15 : decode cX11_image 15 = .ok (.iload_n 1, 1) := by decide +kernel
theorem dX11_image_16 : decode cX11_image 16 = .ok (.aaload, 1) := by decide +kernel
theorem dX11_image_17 : decode cX11_image 17 = .ok (.aload_n 0, 1) := by decide +kernel
theorem dX11_image_18 : decode cX11_image 18 = .ok (.getfield 10, 3) := by decide +kernel
theorem dX11_image_21 : decode cX11_image 21 = .ok (.invokevirtual 340, 3) := by decide +kernel
theorem dX11_image_24 : decode cX11_image 24 = .ok (.aload_n 0, 1) := by decide +kernel
theorem dX11_image_25 : decode cX11_image 25 = .ok (.getfield 20, 3) := by decide +kernel
theorem dX11_image_28 : decode cX11_image 28 = .ok (.iload_n 1, 1) := by decide +kernel
theorem dX11_image_29 : decode cX11_image 29 = .ok (.iconst 1, 1) := by decide +kernel
theorem dX11_image_30 : decode cX11_image 30 = .ok (.bastore, 1) := by decide +kernel
theorem dX11_image_31 : decode cX11_image 31 = .ok (.iconst 1, 1) := by decide +kernel
theorem dX11_image_32 : decode cX11_image 32 = .ok (.ireturn, 1) := by decide +kernel
theorem dX11_from_0 : decode cX11_from 0 = .ok (.iload_n 1, 1) := by decide +kernel
theorem dX11_from_1 : decode cX11_from 1 = .ok (.iconst 2, 1) := by decide +kernel
theorem dX11_from_2 : decode cX11_from 2 = .ok (.invokestatic 87, 3) := by decide +kernel
theorem dX11_from_5 : decode cX11_from 5 = .ok (.ifCond .eq 6, 3) := by decide +kernel
theorem dX11_from_8 : decode cX11_from 8 = .ok (.bipush (-2), 2) := by decide +kernel
theorem dX11_from_10 : decode cX11_from 10 = .ok (.ireturn, 1) := by decide +kernel
theorem dX11_from_11 : decode cX11_from 11 = .ok (.aload_n 0, 1) := by decide +kernel
theorem dX11_from_12 : decode cX11_from 12 = .ok (.getfield 20, 3) := by decide +kernel
theorem dX11_from_15 : decode cX11_from 15 = .ok (.iload_n 1, 1) := by decide +kernel
theorem dX11_from_16 : decode cX11_from 16 = .ok (.baload, 1) := by decide +kernel
theorem dX11_from_17 : decode cX11_from 17 = .ok (.ifCond .ne 6, 3) := by decide +kernel
theorem dX11_from_20 : decode cX11_from 20 = .ok (.bipush (-3), 2) := by decide +kernel
theorem dX11_from_22 : decode cX11_from 22 = .ok (.ireturn, 1) := by decide +kernel
theorem dX11_from_23 : decode cX11_from 23 = .ok (.aload_n 0, 1) := by decide +kernel
theorem dX11_from_24 : decode cX11_from 24 = .ok (.getfield 10, 3) := by decide +kernel
theorem dX11_from_27 : decode cX11_from 27 = .ok (.aload_n 0, 1) := by decide +kernel
theorem dX11_from_28 : decode cX11_from 28 = .ok (.getfield 16, 3) := by decide +kernel
theorem dX11_from_31 : decode cX11_from 31 = .ok (.iload_n 1, 1) := by decide +kernel
theorem dX11_from_32 : decode cX11_from 32 = .ok (.aaload, 1) := by decide +kernel
theorem dX11_from_33 : decode cX11_from 33 = .ok (.invokevirtual 340, 3) := by decide +kernel
theorem dX11_from_36 : decode cX11_from 36 = .ok (.iconst 1, 1) := by decide +kernel
theorem dX11_from_37 : decode cX11_from 37 = .ok (.ireturn, 1) := by decide +kernel
theorem dX11_count_0 : decode cX11_count 0 = .ok (.iload_n 1, 1) := by decide +kernel
theorem dX11_count_1 : decode cX11_count 1 = .ok (.tableswitch 141 0 8 #[51, 62, 73, 84, 95, 103, 111, 122, 133], 51) := by decide +kernel
theorem dX11_count_52 : decode cX11_count 52 = .ok (.aload_n 0, 1) := by decide +kernel
theorem dX11_count_53 : decode cX11_count 53 = .ok (.getfield 10, 3) := by decide +kernel
theorem dX11_count_56 : decode cX11_count 56 = .ok (.getfield 73, 3) := by decide +kernel
theorem dX11_count_59 : decode cX11_count 59 = .ok (.getfield 83, 3) := by decide +kernel
theorem dX11_count_62 : decode cX11_count 62 = .ok (.ireturn, 1) := by decide +kernel
theorem dX11_count_63 : decode cX11_count 63 = .ok (.aload_n 0, 1) := by decide +kernel
theorem dX11_count_64 : decode cX11_count 64 = .ok (.getfield 10, 3) := by decide +kernel
theorem dX11_count_67 : decode cX11_count 67 = .ok (.getfield 73, 3) := by decide +kernel
theorem dX11_count_70 : decode cX11_count 70 = .ok (.getfield 111, 3) := by decide +kernel
theorem dX11_count_73 : decode cX11_count 73 = .ok (.ireturn, 1) := by decide +kernel
theorem dX11_count_74 : decode cX11_count 74 = .ok (.aload_n 0, 1) := by decide +kernel
theorem dX11_count_75 : decode cX11_count 75 = .ok (.getfield 10, 3) := by decide +kernel
theorem dX11_count_78 : decode cX11_count 78 = .ok (.getfield 73, 3) := by decide +kernel
theorem dX11_count_81 : decode cX11_count 81 = .ok (.getfield 193, 3) := by decide +kernel
theorem dX11_count_84 : decode cX11_count 84 = .ok (.ireturn, 1) := by decide +kernel
theorem dX11_count_85 : decode cX11_count 85 = .ok (.aload_n 0, 1) := by decide +kernel
theorem dX11_count_86 : decode cX11_count 86 = .ok (.getfield 10, 3) := by decide +kernel
theorem dX11_count_89 : decode cX11_count 89 = .ok (.getfield 73, 3) := by decide +kernel
theorem dX11_count_92 : decode cX11_count 92 = .ok (.getfield 311, 3) := by decide +kernel
theorem dX11_count_95 : decode cX11_count 95 = .ok (.ireturn, 1) := by decide +kernel
theorem dX11_count_96 : decode cX11_count 96 = .ok (.aload_n 0, 1) := by decide +kernel
theorem dX11_count_97 : decode cX11_count 97 = .ok (.getfield 10, 3) := by decide +kernel
theorem dX11_count_100 : decode cX11_count 100 = .ok (.getfield 159, 3) := by decide +kernel
theorem dX11_count_103 : decode cX11_count 103 = .ok (.ireturn, 1) := by decide +kernel
theorem dX11_count_104 : decode cX11_count 104 = .ok (.aload_n 0, 1) := by decide +kernel
theorem dX11_count_105 : decode cX11_count 105 = .ok (.getfield 10, 3) := by decide +kernel
theorem dX11_count_108 : decode cX11_count 108 = .ok (.invokevirtual 344, 3) := by decide +kernel
theorem dX11_count_111 : decode cX11_count 111 = .ok (.ireturn, 1) := by decide +kernel
theorem dX11_count_112 : decode cX11_count 112 = .ok (.aload_n 0, 1) := by decide +kernel
theorem dX11_count_113 : decode cX11_count 113 = .ok (.getfield 10, 3) := by decide +kernel
theorem dX11_count_116 : decode cX11_count 116 = .ok (.getfield 196, 3) := by decide +kernel
theorem dX11_count_119 : decode cX11_count 119 = .ok (.getfield 200, 3) := by decide +kernel
theorem dX11_count_122 : decode cX11_count 122 = .ok (.ireturn, 1) := by decide +kernel
theorem dX11_count_123 : decode cX11_count 123 = .ok (.aload_n 0, 1) := by decide +kernel
theorem dX11_count_124 : decode cX11_count 124 = .ok (.getfield 10, 3) := by decide +kernel
theorem dX11_count_127 : decode cX11_count 127 = .ok (.getfield 196, 3) := by decide +kernel
theorem dX11_count_130 : decode cX11_count 130 = .ok (.getfield 228, 3) := by decide +kernel
theorem dX11_count_133 : decode cX11_count 133 = .ok (.ireturn, 1) := by decide +kernel
theorem dX11_count_134 : decode cX11_count 134 = .ok (.aload_n 0, 1) := by decide +kernel
theorem dX11_count_135 : decode cX11_count 135 = .ok (.getfield 10, 3) := by decide +kernel
theorem dX11_count_138 : decode cX11_count 138 = .ok (.getfield 314, 3) := by decide +kernel
theorem dX11_count_141 : decode cX11_count 141 = .ok (.ireturn, 1) := by decide +kernel
theorem dX11_count_142 : decode cX11_count 142 = .ok (.bipush (-2), 2) := by decide +kernel
theorem dX11_count_144 : decode cX11_count 144 = .ok (.ireturn, 1) := by decide +kernel
theorem dX11_digest_0 : decode cX11_digest 0 = .ok (.ldc2_w 347, 3) := by decide +kernel
theorem dX11_digest_3 : decode cX11_digest 3 = .ok (.lstore_n 1, 1) := by decide +kernel
theorem dX11_digest_4 : decode cX11_digest 4 = .ok (.iconst 0, 1) := by decide +kernel
theorem dX11_digest_5 : decode cX11_digest 5 = .ok (.istore_n 3, 1) := by decide +kernel
theorem dX11_digest_6 : decode cX11_digest 6 = .ok (.iload_n 3, 1) := by decide +kernel
theorem dX11_digest_7 : decode cX11_digest 7 = .ok (.bipush 8, 2) := by decide +kernel
theorem dX11_digest_9 : decode cX11_digest 9 = .ok (.if_icmp .gt 22, 3) := by decide +kernel
theorem dX11_digest_12 : decode cX11_digest 12 = .ok (.ldc2_w 349, 3) := by decide +kernel
theorem dX11_digest_15 : decode cX11_digest 15 = .ok (.lload_n 1, 1) := by decide +kernel
theorem dX11_digest_16 : decode cX11_digest 16 = .ok (.lmul, 1) := by decide +kernel
theorem dX11_digest_17 : decode cX11_digest 17 = .ok (.aload_n 0, 1) := by decide +kernel
theorem dX11_digest_18 : decode cX11_digest 18 = .ok (.iload_n 3, 1) := by decide +kernel
theorem dX11_digest_19 : decode cX11_digest 19 = .ok (.invokevirtual 351, 3) := by decide +kernel
theorem dX11_digest_22 : decode cX11_digest 22 = .ok (.i2l, 1) := by decide +kernel
theorem dX11_digest_23 : decode cX11_digest 23 = .ok (.ladd, 1) := by decide +kernel
theorem dX11_digest_24 : decode cX11_digest 24 = .ok (.lstore_n 1, 1) := by decide +kernel
theorem dX11_digest_25 : decode cX11_digest 25 = .ok (.iinc 3 1, 3) := by decide +kernel
theorem dX11_digest_28 : decode cX11_digest 28 = .ok (.goto (-22), 3) := by decide +kernel
theorem dX11_digest_31 : decode cX11_digest 31 = .ok (.lload_n 1, 1) := by decide +kernel
theorem dX11_digest_32 : decode cX11_digest 32 = .ok (.aload_n 0, 1) := by decide +kernel
theorem dX11_digest_33 : decode cX11_digest 33 = .ok (.getfield 10, 3) := by decide +kernel
theorem dX11_digest_36 : decode cX11_digest 36 = .ok (.getfield 354, 3) := by decide +kernel
theorem dX11_digest_39 : decode cX11_digest 39 = .ok (.aload_n 0, 1) := by decide +kernel
theorem dX11_digest_40 : decode cX11_digest 40 = .ok (.getfield 10, 3) := by decide +kernel
theorem dX11_digest_43 : decode cX11_digest 43 = .ok (.getfield 159, 3) := by decide +kernel
theorem dX11_digest_46 : decode cX11_digest 46 = .ok (.bipush 14, 2) := by decide +kernel
theorem dX11_digest_48 : decode cX11_digest 48 = .ok (.imul, 1) := by decide +kernel
theorem dX11_digest_49 : decode cX11_digest 49 = .ok (.invokestatic 357, 3) := by decide +kernel
theorem dX11_digest_52 : decode cX11_digest 52 = .ok (.lstore_n 1, 1) := by decide +kernel
theorem dX11_digest_53 : decode cX11_digest 53 = .ok (.lload_n 1, 1) := by decide +kernel
theorem dX11_digest_54 : decode cX11_digest 54 = .ok (.aload_n 0, 1) := by decide +kernel
theorem dX11_digest_55 : decode cX11_digest 55 = .ok (.getfield 10, 3) := by decide +kernel
theorem dX11_digest_58 : decode cX11_digest 58 = .ok (.getfield 196, 3) := by decide +kernel
theorem dX11_digest_61 : decode cX11_digest 61 = .ok (.getfield 208, 3) := by decide +kernel
theorem dX11_digest_64 : decode cX11_digest 64 = .ok (.aload_n 0, 1) := by decide +kernel
theorem dX11_digest_65 : decode cX11_digest 65 = .ok (.getfield 10, 3) := by decide +kernel
theorem dX11_digest_68 : decode cX11_digest 68 = .ok (.getfield 196, 3) := by decide +kernel
theorem dX11_digest_71 : decode cX11_digest 71 = .ok (.getfield 200, 3) := by decide +kernel
theorem dX11_digest_74 : decode cX11_digest 74 = .ok (.invokestatic 357, 3) := by decide +kernel
theorem dX11_digest_77 : decode cX11_digest 77 = .ok (.lstore_n 1, 1) := by decide +kernel
theorem dX11_digest_78 : decode cX11_digest 78 = .ok (.lload_n 1, 1) := by decide +kernel
theorem dX11_digest_79 : decode cX11_digest 79 = .ok (.aload_n 0, 1) := by decide +kernel
theorem dX11_digest_80 : decode cX11_digest 80 = .ok (.getfield 10, 3) := by decide +kernel
theorem dX11_digest_83 : decode cX11_digest 83 = .ok (.getfield 196, 3) := by decide +kernel
theorem dX11_digest_86 : decode cX11_digest 86 = .ok (.getfield 361, 3) := by decide +kernel
theorem dX11_digest_89 : decode cX11_digest 89 = .ok (.aload_n 0, 1) := by decide +kernel
theorem dX11_digest_90 : decode cX11_digest 90 = .ok (.getfield 10, 3) := by decide +kernel
theorem dX11_digest_93 : decode cX11_digest 93 = .ok (.getfield 196, 3) := by decide +kernel
theorem dX11_digest_96 : decode cX11_digest 96 = .ok (.getfield 228, 3) := by decide +kernel
theorem dX11_digest_99 : decode cX11_digest 99 = .ok (.invokestatic 357, 3) := by decide +kernel
theorem dX11_digest_102 : decode cX11_digest 102 = .ok (.lstore_n 1, 1) := by decide +kernel
theorem dX11_digest_103 : decode cX11_digest 103 = .ok (.ldc2_w 349, 3) := by decide +kernel
theorem dX11_digest_106 : decode cX11_digest 106 = .ok (.lload_n 1, 1) := by decide +kernel
theorem dX11_digest_107 : decode cX11_digest 107 = .ok (.lmul, 1) := by decide +kernel
theorem dX11_digest_108 : decode cX11_digest 108 = .ok (.aload_n 0, 1) := by decide +kernel
theorem dX11_digest_109 : decode cX11_digest 109 = .ok (.getfield 10, 3) := by decide +kernel
theorem dX11_digest_112 : decode cX11_digest 112 = .ok (.getfield 196, 3) := by decide +kernel
theorem dX11_digest_115 : decode cX11_digest 115 = .ok (.getfield 222, 3) := by decide +kernel
theorem dX11_digest_118 : decode cX11_digest 118 = .ok (.i2l, 1) := by decide +kernel
theorem dX11_digest_119 : decode cX11_digest 119 = .ok (.ladd, 1) := by decide +kernel
theorem dX11_digest_120 : decode cX11_digest 120 = .ok (.lstore_n 1, 1) := by decide +kernel
theorem dX11_digest_121 : decode cX11_digest 121 = .ok (.ldc2_w 349, 3) := by decide +kernel
theorem dX11_digest_124 : decode cX11_digest 124 = .ok (.lload_n 1, 1) := by decide +kernel
theorem dX11_digest_125 : decode cX11_digest 125 = .ok (.lmul, 1) := by decide +kernel
theorem dX11_digest_126 : decode cX11_digest 126 = .ok (.aload_n 0, 1) := by decide +kernel
theorem dX11_digest_127 : decode cX11_digest 127 = .ok (.getfield 10, 3) := by decide +kernel
theorem dX11_digest_130 : decode cX11_digest 130 = .ok (.getfield 196, 3) := by decide +kernel
theorem dX11_digest_133 : decode cX11_digest 133 = .ok (.getfield 225, 3) := by decide +kernel
theorem dX11_digest_136 : decode cX11_digest 136 = .ok (.i2l, 1) := by decide +kernel
theorem dX11_digest_137 : decode cX11_digest 137 = .ok (.ladd, 1) := by decide +kernel
theorem dX11_digest_138 : decode cX11_digest 138 = .ok (.lstore_n 1, 1) := by decide +kernel
theorem dX11_digest_139 : decode cX11_digest 139 = .ok (.lload_n 1, 1) := by decide +kernel
theorem dX11_digest_140 : decode cX11_digest 140 = .ok (.aload_n 0, 1) := by decide +kernel
theorem dX11_digest_141 : decode cX11_digest 141 = .ok (.getfield 10, 3) := by decide +kernel
theorem dX11_digest_144 : decode cX11_digest 144 = .ok (.getfield 317, 3) := by decide +kernel
theorem dX11_digest_147 : decode cX11_digest 147 = .ok (.aload_n 0, 1) := by decide +kernel
theorem dX11_digest_148 : decode cX11_digest 148 = .ok (.getfield 10, 3) := by decide +kernel
theorem dX11_digest_151 : decode cX11_digest 151 = .ok (.getfield 314, 3) := by decide +kernel
theorem dX11_digest_154 : decode cX11_digest 154 = .ok (.invokestatic 357, 3) := by decide +kernel
theorem dX11_digest_157 : decode cX11_digest 157 = .ok (.lstore_n 1, 1) := by decide +kernel
theorem dX11_digest_158 : decode cX11_digest 158 = .ok (.iconst 0, 1) := by decide +kernel
theorem dX11_digest_159 : decode cX11_digest 159 = .ok (.istore_n 3, 1) := by decide +kernel
theorem dX11_digest_160 : decode cX11_digest 160 = .ok (.iload_n 3, 1) := by decide +kernel
theorem dX11_digest_161 : decode cX11_digest 161 = .ok (.aload_n 0, 1) := by decide +kernel
theorem dX11_digest_162 : decode cX11_digest 162 = .ok (.getfield 10, 3) := by decide +kernel
theorem dX11_digest_165 : decode cX11_digest 165 = .ok (.getfield 73, 3) := by decide +kernel
theorem dX11_digest_168 : decode cX11_digest 168 = .ok (.getfield 193, 3) := by decide +kernel
theorem dX11_digest_171 : decode cX11_digest 171 = .ok (.if_icmp .ge 49, 3) := by decide +kernel
theorem dX11_digest_174 : decode cX11_digest 174 = .ok (.ldc2_w 349, 3) := by decide +kernel
theorem dX11_digest_177 : decode cX11_digest 177 = .ok (.lload_n 1, 1) := by decide +kernel
theorem dX11_digest_178 : decode cX11_digest 178 = .ok (.lmul, 1) := by decide +kernel
theorem dX11_digest_179 : decode cX11_digest 179 = .ok (.aload_n 0, 1) := by decide +kernel
theorem dX11_digest_180 : decode cX11_digest 180 = .ok (.getfield 10, 3) := by decide +kernel
theorem dX11_digest_183 : decode cX11_digest 183 = .ok (.getfield 73, 3) := by decide +kernel
theorem dX11_digest_186 : decode cX11_digest 186 = .ok (.getfield 252, 3) := by decide +kernel
theorem dX11_digest_189 : decode cX11_digest 189 = .ok (.iload_n 3, 1) := by decide +kernel
theorem dX11_digest_190 : decode cX11_digest 190 = .ok (.iaload, 1) := by decide +kernel
theorem dX11_digest_191 : decode cX11_digest 191 = .ok (.i2l, 1) := by decide +kernel
theorem dX11_digest_192 : decode cX11_digest 192 = .ok (.ladd, 1) := by decide +kernel
theorem dX11_digest_193 : decode cX11_digest 193 = .ok (.lstore_n 1, 1) := by decide +kernel
theorem dX11_digest_194 : decode cX11_digest 194 = .ok (.ldc2_w 349, 3) := by decide +kernel
theorem dX11_digest_197 : decode cX11_digest 197 = .ok (.lload_n 1, 1) := by decide +kernel
theorem dX11_digest_198 : decode cX11_digest 198 = .ok (.lmul, 1) := by decide +kernel
theorem dX11_digest_199 : decode cX11_digest 199 = .ok (.aload_n 0, 1) := by decide +kernel
theorem dX11_digest_200 : decode cX11_digest 200 = .ok (.getfield 10, 3) := by decide +kernel
theorem dX11_digest_203 : decode cX11_digest 203 = .ok (.getfield 73, 3) := by decide +kernel
theorem dX11_digest_206 : decode cX11_digest 206 = .ok (.getfield 364, 3) := by decide +kernel
theorem dX11_digest_209 : decode cX11_digest 209 = .ok (.iload_n 3, 1) := by decide +kernel
theorem dX11_digest_210 : decode cX11_digest 210 = .ok (.iaload, 1) := by decide +kernel
theorem dX11_digest_211 : decode cX11_digest 211 = .ok (.i2l, 1) := by decide +kernel
theorem dX11_digest_212 : decode cX11_digest 212 = .ok (.ladd, 1) := by decide +kernel
theorem dX11_digest_213 : decode cX11_digest 213 = .ok (.lstore_n 1, 1) := by decide +kernel
theorem dX11_digest_214 : decode cX11_digest 214 = .ok (.iinc 3 1, 3) := by decide +kernel
theorem dX11_digest_217 : decode cX11_digest 217 = .ok (.goto (-57), 3) := by decide +kernel
theorem dX11_digest_220 : decode cX11_digest 220 = .ok (.iconst 0, 1) := by decide +kernel
theorem dX11_digest_221 : decode cX11_digest 221 = .ok (.istore_n 3, 1) := by decide +kernel
theorem dX11_digest_222 : decode cX11_digest 222 = .ok (.iload_n 3, 1) := by decide +kernel
theorem dX11_digest_223 : decode cX11_digest 223 = .ok (.iconst 4, 1) := by decide +kernel
theorem dX11_digest_224 : decode cX11_digest 224 = .ok (.if_icmp .ge 67, 3) := by decide +kernel
theorem dX11_digest_227 : decode cX11_digest 227 = .ok (.lload_n 1, 1) := by decide +kernel
theorem dX11_digest_228 : decode cX11_digest 228 = .ok (.aload_n 0, 1) := by decide +kernel
theorem dX11_digest_229 : decode cX11_digest 229 = .ok (.getfield 10, 3) := by decide +kernel
theorem dX11_digest_232 : decode cX11_digest 232 = .ok (.getfield 132, 3) := by decide +kernel
theorem dX11_digest_235 : decode cX11_digest 235 = .ok (.iload_n 3, 1) := by decide +kernel
theorem dX11_digest_236 : decode cX11_digest 236 = .ok (.aaload, 1) := by decide +kernel
theorem dX11_digest_237 : decode cX11_digest 237 = .ok (.getfield 367, 3) := by decide +kernel
theorem dX11_digest_240 : decode cX11_digest 240 = .ok (.aload_n 0, 1) := by decide +kernel
theorem dX11_digest_241 : decode cX11_digest 241 = .ok (.getfield 10, 3) := by decide +kernel
theorem dX11_digest_244 : decode cX11_digest 244 = .ok (.getfield 132, 3) := by decide +kernel
theorem dX11_digest_247 : decode cX11_digest 247 = .ok (.iload_n 3, 1) := by decide +kernel
theorem dX11_digest_248 : decode cX11_digest 248 = .ok (.aaload, 1) := by decide +kernel
theorem dX11_digest_249 : decode cX11_digest 249 = .ok (.getfield 370, 3) := by decide +kernel
theorem dX11_digest_252 : decode cX11_digest 252 = .ok (.invokestatic 357, 3) := by decide +kernel
theorem dX11_digest_255 : decode cX11_digest 255 = .ok (.lstore_n 1, 1) := by decide +kernel
theorem dX11_digest_256 : decode cX11_digest 256 = .ok (.lload_n 1, 1) := by decide +kernel
theorem dX11_digest_257 : decode cX11_digest 257 = .ok (.aload_n 0, 1) := by decide +kernel
theorem dX11_digest_258 : decode cX11_digest 258 = .ok (.getfield 10, 3) := by decide +kernel
theorem dX11_digest_261 : decode cX11_digest 261 = .ok (.getfield 132, 3) := by decide +kernel
theorem dX11_digest_264 : decode cX11_digest 264 = .ok (.iload_n 3, 1) := by decide +kernel
theorem dX11_digest_265 : decode cX11_digest 265 = .ok (.aaload, 1) := by decide +kernel
theorem dX11_digest_266 : decode cX11_digest 266 = .ok (.getfield 373, 3) := by decide +kernel
theorem dX11_digest_269 : decode cX11_digest 269 = .ok (.aload_n 0, 1) := by decide +kernel
theorem dX11_digest_270 : decode cX11_digest 270 = .ok (.getfield 10, 3) := by decide +kernel
theorem dX11_digest_273 : decode cX11_digest 273 = .ok (.getfield 132, 3) := by decide +kernel
theorem dX11_digest_276 : decode cX11_digest 276 = .ok (.iload_n 3, 1) := by decide +kernel
theorem dX11_digest_277 : decode cX11_digest 277 = .ok (.aaload, 1) := by decide +kernel
theorem dX11_digest_278 : decode cX11_digest 278 = .ok (.getfield 376, 3) := by decide +kernel
theorem dX11_digest_281 : decode cX11_digest 281 = .ok (.invokestatic 357, 3) := by decide +kernel
theorem dX11_digest_284 : decode cX11_digest 284 = .ok (.lstore_n 1, 1) := by decide +kernel
theorem dX11_digest_285 : decode cX11_digest 285 = .ok (.iinc 3 1, 3) := by decide +kernel
theorem dX11_digest_288 : decode cX11_digest 288 = .ok (.goto (-66), 3) := by decide +kernel
theorem dX11_digest_291 : decode cX11_digest 291 = .ok (.lload_n 1, 1) := by decide +kernel
theorem dX11_digest_292 : decode cX11_digest 292 = .ok (.lreturn, 1) := by decide +kernel
theorem dX11_goAndKeep_0 : decode cX11_goAndKeep 0 = .ok (.aload_n 0, 1) := by decide +kernel
theorem dX11_goAndKeep_1 : decode cX11_goAndKeep 1 = .ok (.getfield 27, 3) := by decide +kernel
theorem dX11_goAndKeep_4 : decode cX11_goAndKeep 4 = .ok (.aload_n 0, 1) := by decide +kernel
theorem dX11_goAndKeep_5 : decode cX11_goAndKeep 5 = .ok (.getfield 10, 3) := by decide +kernel
theorem dX11_goAndKeep_8 : decode cX11_goAndKeep 8 = .ok (.iload_n 1, 1) := by decide +kernel
theorem dX11_goAndKeep_9 : decode cX11_goAndKeep 9 = .ok (.iload_n 2, 1) := by decide +kernel
theorem dX11_goAndKeep_10 : decode cX11_goAndKeep 10 = .ok (.iload_n 3, 1) := by decide +kernel
theorem dX11_goAndKeep_11 : decode cX11_goAndKeep 11 = .ok (.iload 4, 2) := by decide +kernel
theorem dX11_goAndKeep_13 : decode cX11_goAndKeep 13 = .ok (.iload 5, 2) := by decide +kernel
theorem dX11_goAndKeep_15 : decode cX11_goAndKeep 15 = .ok (.iload 6, 2) := by decide +kernel
theorem dX11_goAndKeep_17 : decode cX11_goAndKeep 17 = .ok (.invokevirtual 379, 3) := by decide +kernel
theorem dX11_goAndKeep_20 : decode cX11_goAndKeep 20 = .ok (.aload_n 0, 1) := by decide +kernel
theorem dX11_goAndKeep_21 : decode cX11_goAndKeep 21 = .ok (.getfield 10, 3) := by decide +kernel
theorem dX11_goAndKeep_24 : decode cX11_goAndKeep 24 = .ok (.aload_n 0, 1) := by decide +kernel
theorem dX11_goAndKeep_25 : decode cX11_goAndKeep 25 = .ok (.getfield 27, 3) := by decide +kernel
theorem dX11_goAndKeep_28 : decode cX11_goAndKeep 28 = .ok (.getfield 174, 3) := by decide +kernel
theorem dX11_goAndKeep_31 : decode cX11_goAndKeep 31 = .ok (.aload_n 0, 1) := by decide +kernel
theorem dX11_goAndKeep_32 : decode cX11_goAndKeep 32 = .ok (.getfield 27, 3) := by decide +kernel
theorem dX11_goAndKeep_35 : decode cX11_goAndKeep 35 = .ok (.getfield 255, 3) := by decide +kernel
theorem dX11_goAndKeep_38 : decode cX11_goAndKeep 38 = .ok (.invokevirtual 383, 3) := by decide +kernel
theorem dX11_goAndKeep_41 : decode cX11_goAndKeep 41 = .ok (.istore 7, 2) := by decide +kernel
theorem dX11_goAndKeep_43 : decode cX11_goAndKeep 43 = .ok (.aload_n 0, 1) := by decide +kernel
theorem dX11_goAndKeep_44 : decode cX11_goAndKeep 44 = .ok (.getfield 10, 3) := by decide +kernel
theorem dX11_goAndKeep_47 : decode cX11_goAndKeep 47 = .ok (.iload 7, 2) := by decide +kernel
theorem dX11_goAndKeep_49 : decode cX11_goAndKeep 49 = .ok (.bipush 7, 2) := by decide +kernel
theorem dX11_goAndKeep_51 : decode cX11_goAndKeep 51 = .ok (.iload_n 1, 1) := by decide +kernel
theorem dX11_goAndKeep_52 : decode cX11_goAndKeep 52 = .ok (.invokevirtual 278, 3) := by decide +kernel
theorem dX11_goAndKeep_55 : decode cX11_goAndKeep 55 = .ok (.aload_n 0, 1) := by decide +kernel
theorem dX11_goAndKeep_56 : decode cX11_goAndKeep 56 = .ok (.getfield 10, 3) := by decide +kernel
theorem dX11_goAndKeep_59 : decode cX11_goAndKeep 59 = .ok (.iload 7, 2) := by decide +kernel
theorem dX11_goAndKeep_61 : decode cX11_goAndKeep 61 = .ok (.bipush 8, 2) := by decide +kernel
theorem dX11_goAndKeep_63 : decode cX11_goAndKeep 63 = .ok (.iload_n 2, 1) := by decide +kernel
theorem dX11_goAndKeep_64 : decode cX11_goAndKeep 64 = .ok (.invokevirtual 278, 3) := by decide +kernel
theorem dX11_goAndKeep_67 : decode cX11_goAndKeep 67 = .ok (.aload_n 0, 1) := by decide +kernel
theorem dX11_goAndKeep_68 : decode cX11_goAndKeep 68 = .ok (.getfield 10, 3) := by decide +kernel
theorem dX11_goAndKeep_71 : decode cX11_goAndKeep 71 = .ok (.iload 7, 2) := by decide +kernel
theorem dX11_goAndKeep_73 : decode cX11_goAndKeep 73 = .ok (.bipush 9, 2) := by decide +kernel
theorem dX11_goAndKeep_75 : decode cX11_goAndKeep 75 = .ok (.iload_n 3, 1) := by decide +kernel
theorem dX11_goAndKeep_76 : decode cX11_goAndKeep 76 = .ok (.invokevirtual 278, 3) := by decide +kernel
theorem dX11_goAndKeep_79 : decode cX11_goAndKeep 79 = .ok (.aload_n 0, 1) := by decide +kernel
theorem dX11_goAndKeep_80 : decode cX11_goAndKeep 80 = .ok (.getfield 10, 3) := by decide +kernel
theorem dX11_goAndKeep_83 : decode cX11_goAndKeep 83 = .ok (.iload 7, 2) := by decide +kernel
theorem dX11_goAndKeep_85 : decode cX11_goAndKeep 85 = .ok (.bipush 10, 2) := by decide +kernel
theorem dX11_goAndKeep_87 : decode cX11_goAndKeep 87 = .ok (.iload 4, 2) := by decide +kernel
theorem dX11_goAndKeep_89 : decode cX11_goAndKeep 89 = .ok (.invokevirtual 278, 3) := by decide +kernel
theorem dX11_goAndKeep_92 : decode cX11_goAndKeep 92 = .ok (.aload_n 0, 1) := by decide +kernel
theorem dX11_goAndKeep_93 : decode cX11_goAndKeep 93 = .ok (.getfield 10, 3) := by decide +kernel
theorem dX11_goAndKeep_96 : decode cX11_goAndKeep 96 = .ok (.iload 7, 2) := by decide +kernel
theorem dX11_goAndKeep_98 : decode cX11_goAndKeep 98 = .ok (.bipush 11, 2) := by decide +kernel
theorem dX11_goAndKeep_100 : decode cX11_goAndKeep 100 = .ok (.iload 5, 2) := by decide +kernel
theorem dX11_goAndKeep_102 : decode cX11_goAndKeep 102 = .ok (.invokevirtual 278, 3) := by decide +kernel
theorem dX11_goAndKeep_105 : decode cX11_goAndKeep 105 = .ok (.aload_n 0, 1) := by decide +kernel
theorem dX11_goAndKeep_106 : decode cX11_goAndKeep 106 = .ok (.getfield 10, 3) := by decide +kernel
theorem dX11_goAndKeep_109 : decode cX11_goAndKeep 109 = .ok (.iload 7, 2) := by decide +kernel
theorem dX11_goAndKeep_111 : decode cX11_goAndKeep 111 = .ok (.bipush 12, 2) := by decide +kernel
theorem dX11_goAndKeep_113 : decode cX11_goAndKeep 113 = .ok (.iload 6, 2) := by decide +kernel
theorem dX11_goAndKeep_115 : decode cX11_goAndKeep 115 = .ok (.ifCond .eq 7, 3) := by decide +kernel
theorem dX11_goAndKeep_118 : decode cX11_goAndKeep 118 = .ok (.iconst 1, 1) := by decide +kernel
theorem dX11_goAndKeep_119 : decode cX11_goAndKeep 119 = .ok (.goto 4, 3) := by decide +kernel
theorem dX11_goAndKeep_122 : decode cX11_goAndKeep 122 = .ok (.iconst 0, 1) := by decide +kernel
theorem dX11_goAndKeep_123 : decode cX11_goAndKeep 123 = .ok (.invokevirtual 278, 3) := by decide +kernel
theorem dX11_goAndKeep_126 : decode cX11_goAndKeep 126 = .ok (.aload_n 0, 1) := by decide +kernel
theorem dX11_goAndKeep_127 : decode cX11_goAndKeep 127 = .ok (.getfield 10, 3) := by decide +kernel
theorem dX11_goAndKeep_130 : decode cX11_goAndKeep 130 = .ok (.iload 7, 2) := by decide +kernel
theorem dX11_goAndKeep_132 : decode cX11_goAndKeep 132 = .ok (.bipush 13, 2) := by decide +kernel
theorem dX11_goAndKeep_134 : decode cX11_goAndKeep 134 = .ok (.iconst 0, 1) := by decide +kernel
theorem dX11_goAndKeep_135 : decode cX11_goAndKeep 135 = .ok (.invokevirtual 278, 3) := by decide +kernel
theorem dX11_goAndKeep_138 : decode cX11_goAndKeep 138 = .ok (.iload 7, 2) := by decide +kernel
theorem dX11_goAndKeep_140 : decode cX11_goAndKeep 140 = .ok (.ireturn, 1) := by decide +kernel
theorem dX11_isNoSpot_0 : decode cX11_isNoSpot 0 = .ok (.iload_n 1, 1) := by decide +kernel
theorem dX11_isNoSpot_1 : decode cX11_isNoSpot 1 = .ok (.aload_n 0, 1) := by decide +kernel
theorem dX11_isNoSpot_2 : decode cX11_isNoSpot 2 = .ok (.getfield 10, 3) := by decide +kernel
theorem dX11_isNoSpot_5 : decode cX11_isNoSpot 5 = .ok (.getfield 73, 3) := by decide +kernel
theorem dX11_isNoSpot_8 : decode cX11_isNoSpot 8 = .ok (.getfield 193, 3) := by decide +kernel
theorem dX11_isNoSpot_11 : decode cX11_isNoSpot 11 = .ok (.invokestatic 87, 3) := by decide +kernel
theorem dX11_isNoSpot_14 : decode cX11_isNoSpot 14 = .ok (.ifCond .ne 28, 3) := by decide +kernel
theorem dX11_isNoSpot_17 : decode cX11_isNoSpot 17 = .ok (.iload_n 2, 1) := by decide +kernel
theorem dX11_isNoSpot_18 : decode cX11_isNoSpot 18 = .ok (.iconst 4, 1) := by decide +kernel
theorem dX11_isNoSpot_19 : decode cX11_isNoSpot 19 = .ok (.invokestatic 87, 3) := by decide +kernel
theorem dX11_isNoSpot_22 : decode cX11_isNoSpot 22 = .ok (.ifCond .ne 20, 3) := by decide +kernel
theorem dX11_isNoSpot_25 : decode cX11_isNoSpot 25 = .ok (.iload_n 3, 1) := by decide +kernel
theorem dX11_isNoSpot_26 : decode cX11_isNoSpot 26 = .ok (.aload_n 0, 1) := by decide +kernel
theorem dX11_isNoSpot_27 : decode cX11_isNoSpot 27 = .ok (.getfield 10, 3) := by decide +kernel
theorem dX11_isNoSpot_30 : decode cX11_isNoSpot 30 = .ok (.getfield 73, 3) := by decide +kernel
theorem dX11_isNoSpot_33 : decode cX11_isNoSpot 33 = .ok (.getfield 311, 3) := by decide +kernel
theorem dX11_isNoSpot_36 : decode cX11_isNoSpot 36 = .ok (.invokestatic 87, 3) := by decide +kernel
theorem dX11_isNoSpot_39 : decode cX11_isNoSpot 39 = .ok (.ifCond .eq 7, 3) := by decide +kernel
theorem dX11_isNoSpot_42 : decode cX11_isNoSpot 42 = .ok (.iconst 1, 1) := by decide +kernel
theorem dX11_isNoSpot_43 : decode cX11_isNoSpot 43 = .ok (.goto 4, 3) := by decide +kernel
theorem dX11_isNoSpot_46 : decode cX11_isNoSpot 46 = .ok (.iconst 0, 1) := by decide +kernel
theorem dX11_isNoSpot_47 : decode cX11_isNoSpot 47 = .ok (.ireturn, 1) := by decide +kernel
theorem dX11_isNoHour_0 : decode cX11_isNoHour 0 = .ok (.iload_n 0, 1) := by decide +kernel
theorem dX11_isNoHour_1 : decode cX11_isNoHour 1 = .ok (.iconst 0, 1) := by decide +kernel
theorem dX11_isNoHour_2 : decode cX11_isNoHour 2 = .ok (.bipush 23, 2) := by decide +kernel
theorem dX11_isNoHour_4 : decode cX11_isNoHour 4 = .ok (.invokestatic 128, 3) := by decide +kernel
theorem dX11_isNoHour_7 : decode cX11_isNoHour 7 = .ok (.ireturn, 1) := by decide +kernel
theorem dX11_areNoCounts_0 : decode cX11_areNoCounts 0 = .ok (.iload_n 0, 1) := by decide +kernel
theorem dX11_areNoCounts_1 : decode cX11_areNoCounts 1 = .ok (.iconst 5, 1) := by decide +kernel
theorem dX11_areNoCounts_2 : decode cX11_areNoCounts 2 = .ok (.invokestatic 87, 3) := by decide +kernel
theorem dX11_areNoCounts_5 : decode cX11_areNoCounts 5 = .ok (.ifCond .ne 34, 3) := by decide +kernel
theorem dX11_areNoCounts_8 : decode cX11_areNoCounts 8 = .ok (.iload_n 1, 1) := by decide +kernel
theorem dX11_areNoCounts_9 : decode cX11_areNoCounts 9 = .ok (.iconst 5, 1) := by decide +kernel
theorem dX11_areNoCounts_10 : decode cX11_areNoCounts 10 = .ok (.invokestatic 87, 3) := by decide +kernel
theorem dX11_areNoCounts_13 : decode cX11_areNoCounts 13 = .ok (.ifCond .ne 26, 3) := by decide +kernel
theorem dX11_areNoCounts_16 : decode cX11_areNoCounts 16 = .ok (.iload_n 2, 1) := by decide +kernel
theorem dX11_areNoCounts_17 : decode cX11_areNoCounts 17 = .ok (.iconst 5, 1) := by decide +kernel
theorem dX11_areNoCounts_18 : decode cX11_areNoCounts 18 = .ok (.invokestatic 87, 3) := by decide +kernel
theorem dX11_areNoCounts_21 : decode cX11_areNoCounts 21 = .ok (.ifCond .ne 18, 3) := by decide +kernel
theorem dX11_areNoCounts_24 : decode cX11_areNoCounts 24 = .ok (.iload_n 0, 1) := by decide +kernel
theorem dX11_areNoCounts_25 : decode cX11_areNoCounts 25 = .ok (.iload_n 1, 1) := by decide +kernel
theorem dX11_areNoCounts_26 : decode cX11_areNoCounts 26 = .ok (.if_icmp .eq 13, 3) := by decide +kernel
theorem dX11_areNoCounts_29 : decode cX11_areNoCounts 29 = .ok (.iload_n 0, 1) := by decide +kernel
theorem dX11_areNoCounts_30 : decode cX11_areNoCounts 30 = .ok (.iload_n 2, 1) := by decide +kernel
theorem dX11_areNoCounts_31 : decode cX11_areNoCounts 31 = .ok (.if_icmp .eq 8, 3) := by decide +kernel
theorem dX11_areNoCounts_34 : decode cX11_areNoCounts 34 = .ok (.iload_n 1, 1) := by decide +kernel
theorem dX11_areNoCounts_35 : decode cX11_areNoCounts 35 = .ok (.iload_n 2, 1) := by decide +kernel
theorem dX11_areNoCounts_36 : decode cX11_areNoCounts 36 = .ok (.if_icmp .ne 7, 3) := by decide +kernel
theorem dX11_areNoCounts_39 : decode cX11_areNoCounts 39 = .ok (.iconst 1, 1) := by decide +kernel
theorem dX11_areNoCounts_40 : decode cX11_areNoCounts 40 = .ok (.goto 4, 3) := by decide +kernel
theorem dX11_areNoCounts_43 : decode cX11_areNoCounts 43 = .ok (.iconst 0, 1) := by decide +kernel
theorem dX11_areNoCounts_44 : decode cX11_areNoCounts 44 = .ok (.ireturn, 1) := by decide +kernel
theorem dX11_isOut_0 : decode cX11_isOut 0 = .ok (.iload_n 0, 1) := by decide +kernel
theorem dX11_isOut_1 : decode cX11_isOut 1 = .ok (.ifCond .lt 8, 3) := by decide +kernel
theorem dX11_isOut_4 : decode cX11_isOut 4 = .ok (.iload_n 0, 1) := by decide +kernel
theorem dX11_isOut_5 : decode cX11_isOut 5 = .ok (.iload_n 1, 1) := by decide +kernel
theorem dX11_isOut_6 : decode cX11_isOut 6 = .ok (.if_icmp .lt 7, 3) := by decide +kernel
theorem dX11_isOut_9 : decode cX11_isOut 9 = .ok (.iconst 1, 1) := by decide +kernel
theorem dX11_isOut_10 : decode cX11_isOut 10 = .ok (.goto 4, 3) := by decide +kernel
theorem dX11_isOut_13 : decode cX11_isOut 13 = .ok (.iconst 0, 1) := by decide +kernel
theorem dX11_isOut_14 : decode cX11_isOut 14 = .ok (.ireturn, 1) := by decide +kernel
theorem dX11_isBeyond_0 : decode cX11_isBeyond 0 = .ok (.iload_n 0, 1) := by decide +kernel
theorem dX11_isBeyond_1 : decode cX11_isBeyond 1 = .ok (.iload_n 1, 1) := by decide +kernel
theorem dX11_isBeyond_2 : decode cX11_isBeyond 2 = .ok (.if_icmp .lt 8, 3) := by decide +kernel
theorem dX11_isBeyond_5 : decode cX11_isBeyond 5 = .ok (.iload_n 0, 1) := by decide +kernel
theorem dX11_isBeyond_6 : decode cX11_isBeyond 6 = .ok (.iload_n 2, 1) := by decide +kernel
theorem dX11_isBeyond_7 : decode cX11_isBeyond 7 = .ok (.if_icmp .le 7, 3) := by decide +kernel
theorem dX11_isBeyond_10 : decode cX11_isBeyond 10 = .ok (.iconst 1, 1) := by decide +kernel
theorem dX11_isBeyond_11 : decode cX11_isBeyond 11 = .ok (.goto 4, 3) := by decide +kernel
theorem dX11_isBeyond_14 : decode cX11_isBeyond 14 = .ok (.iconst 0, 1) := by decide +kernel
theorem dX11_isBeyond_15 : decode cX11_isBeyond 15 = .ok (.ireturn, 1) := by decide +kernel
theorem dX11_isNotSmall_0 : decode cX11_isNotSmall 0 = .ok (.iload_n 0, 1) := by decide +kernel
theorem dX11_isNotSmall_1 : decode cX11_isNotSmall 1 = .ok (.sipush (-1000), 3) := by decide +kernel
theorem dX11_isNotSmall_4 : decode cX11_isNotSmall 4 = .ok (.sipush 1000, 3) := by decide +kernel
theorem dX11_isNotSmall_7 : decode cX11_isNotSmall 7 = .ok (.invokestatic 128, 3) := by decide +kernel
theorem dX11_isNotSmall_10 : decode cX11_isNotSmall 10 = .ok (.ireturn, 1) := by decide +kernel
theorem dX11_isLine_0 : decode cX11_isLine 0 = .ok (.iload_n 0, 1) := by decide +kernel
theorem dX11_isLine_1 : decode cX11_isLine 1 = .ok (.tableswitch 152 0 7 #[47, 69, 69, 69, 102, 102, 126, 150], 47) := by decide +kernel
theorem dX11_isLine_48 : decode cX11_isLine 48 = .ok (.iload_n 1, 1) := by decide +kernel
theorem dX11_isLine_49 : decode cX11_isLine 49 = .ok (.bipush 8, 2) := by decide +kernel
theorem dX11_isLine_51 : decode cX11_isLine 51 = .ok (.invokestatic 87, 3) := by decide +kernel
theorem dX11_isLine_54 : decode cX11_isLine 54 = .ok (.ifCond .ne 14, 3) := by decide +kernel
theorem dX11_isLine_57 : decode cX11_isLine 57 = .ok (.iload_n 2, 1) := by decide +kernel
theorem dX11_isLine_58 : decode cX11_isLine 58 = .ok (.invokestatic 121, 3) := by decide +kernel
theorem dX11_isLine_61 : decode cX11_isLine 61 = .ok (.ifCond .ne 7, 3) := by decide +kernel
theorem dX11_isLine_64 : decode cX11_isLine 64 = .ok (.iconst 1, 1) := by decide +kernel
theorem dX11_isLine_65 : decode cX11_isLine 65 = .ok (.goto 4, 3) := by decide +kernel
theorem dX11_isLine_68 : decode cX11_isLine 68 = .ok (.iconst 0, 1) := by decide +kernel
theorem dX11_isLine_69 : decode cX11_isLine 69 = .ok (.ireturn, 1) := by decide +kernel
theorem dX11_isLine_70 : decode cX11_isLine 70 = .ok (.iload_n 1, 1) := by decide +kernel
theorem dX11_isLine_71 : decode cX11_isLine 71 = .ok (.bipush 8, 2) := by decide +kernel
theorem dX11_isLine_73 : decode cX11_isLine 73 = .ok (.invokestatic 87, 3) := by decide +kernel
theorem dX11_isLine_76 : decode cX11_isLine 76 = .ok (.ifCond .ne 25, 3) := by decide +kernel
theorem dX11_isLine_79 : decode cX11_isLine 79 = .ok (.iload_n 2, 1) := by decide +kernel
theorem dX11_isLine_80 : decode cX11_isLine 80 = .ok (.bipush 8, 2) := by decide +kernel
theorem dX11_isLine_82 : decode cX11_isLine 82 = .ok (.invokestatic 87, 3) := by decide +kernel
theorem dX11_isLine_85 : decode cX11_isLine 85 = .ok (.ifCond .ne 16, 3) := by decide +kernel
theorem dX11_isLine_88 : decode cX11_isLine 88 = .ok (.iload_n 3, 1) := by decide +kernel
theorem dX11_isLine_89 : decode cX11_isLine 89 = .ok (.bipush 8, 2) := by decide +kernel
theorem dX11_isLine_91 : decode cX11_isLine 91 = .ok (.invokestatic 87, 3) := by decide +kernel
theorem dX11_isLine_94 : decode cX11_isLine 94 = .ok (.ifCond .ne 7, 3) := by decide +kernel
theorem dX11_isLine_97 : decode cX11_isLine 97 = .ok (.iconst 1, 1) := by decide +kernel
theorem dX11_isLine_98 : decode cX11_isLine 98 = .ok (.goto 4, 3) := by decide +kernel
theorem dX11_isLine_101 : decode cX11_isLine 101 = .ok (.iconst 0, 1) := by decide +kernel
theorem dX11_isLine_102 : decode cX11_isLine 102 = .ok (.ireturn, 1) := by decide +kernel
theorem dX11_isLine_103 : decode cX11_isLine 103 = .ok (.iload_n 1, 1) := by decide +kernel
theorem dX11_isLine_104 : decode cX11_isLine 104 = .ok (.bipush 8, 2) := by decide +kernel
theorem dX11_isLine_106 : decode cX11_isLine 106 = .ok (.invokestatic 87, 3) := by decide +kernel
theorem dX11_isLine_109 : decode cX11_isLine 109 = .ok (.ifCond .ne 16, 3) := by decide +kernel
theorem dX11_isLine_112 : decode cX11_isLine 112 = .ok (.iload_n 2, 1) := by decide +kernel
theorem dX11_isLine_113 : decode cX11_isLine 113 = .ok (.bipush 8, 2) := by decide +kernel
theorem dX11_isLine_115 : decode cX11_isLine 115 = .ok (.invokestatic 87, 3) := by decide +kernel
theorem dX11_isLine_118 : decode cX11_isLine 118 = .ok (.ifCond .ne 7, 3) := by decide +kernel
theorem dX11_isLine_121 : decode cX11_isLine 121 = .ok (.iconst 1, 1) := by decide +kernel
theorem dX11_isLine_122 : decode cX11_isLine 122 = .ok (.goto 4, 3) := by decide +kernel
theorem dX11_isLine_125 : decode cX11_isLine 125 = .ok (.iconst 0, 1) := by decide +kernel
theorem dX11_isLine_126 : decode cX11_isLine 126 = .ok (.ireturn, 1) := by decide +kernel
theorem dX11_isLine_127 : decode cX11_isLine 127 = .ok (.iload_n 1, 1) := by decide +kernel
theorem dX11_isLine_128 : decode cX11_isLine 128 = .ok (.bipush 8, 2) := by decide +kernel
theorem dX11_isLine_130 : decode cX11_isLine 130 = .ok (.invokestatic 87, 3) := by decide +kernel
theorem dX11_isLine_133 : decode cX11_isLine 133 = .ok (.ifCond .ne 16, 3) := by decide +kernel
theorem dX11_isLine_136 : decode cX11_isLine 136 = .ok (.iload_n 2, 1) := by decide +kernel
theorem dX11_isLine_137 : decode cX11_isLine 137 = .ok (.bipush 40, 2) := by decide +kernel
theorem dX11_isLine_139 : decode cX11_isLine 139 = .ok (.invokestatic 87, 3) := by decide +kernel
theorem dX11_isLine_142 : decode cX11_isLine 142 = .ok (.ifCond .ne 7, 3) := by decide +kernel
theorem dX11_isLine_145 : decode cX11_isLine 145 = .ok (.iconst 1, 1) := by decide +kernel
theorem dX11_isLine_146 : decode cX11_isLine 146 = .ok (.goto 4, 3) := by decide +kernel
theorem dX11_isLine_149 : decode cX11_isLine 149 = .ok (.iconst 0, 1) := by decide +kernel
theorem dX11_isLine_150 : decode cX11_isLine 150 = .ok (.ireturn, 1) := by decide +kernel
theorem dX11_isLine_151 : decode cX11_isLine 151 = .ok (.iconst 1, 1) := by decide +kernel
theorem dX11_isLine_152 : decode cX11_isLine 152 = .ok (.ireturn, 1) := by decide +kernel
theorem dX11_isLine_153 : decode cX11_isLine 153 = .ok (.iconst 0, 1) := by decide +kernel
theorem dX11_isLine_154 : decode cX11_isLine 154 = .ok (.ireturn, 1) := by decide +kernel
theorem dX11_writeLine_0 : decode cX11_writeLine 0 = .ok (.iload_n 1, 1) := by decide +kernel
theorem dX11_writeLine_1 : decode cX11_writeLine 1 = .ok (.ifCond .lt 11, 3) := by decide +kernel
theorem dX11_writeLine_4 : decode cX11_writeLine 4 = .ok (.iload_n 1, 1) := by decide +kernel
theorem dX11_writeLine_5 : decode cX11_writeLine 5 = .ok (.iconst 4, 1) := by decide +kernel
theorem dX11_writeLine_6 : decode cX11_writeLine 6 = .ok (.iadd, 1) := by decide +kernel
theorem dX11_writeLine_7 : decode cX11_writeLine 7 = .ok (.aload_n 0, 1) := by decide +kernel
theorem dX11_writeLine_8 : decode cX11_writeLine 8 = .ok (.arraylength, 1) := by decide +kernel
theorem dX11_writeLine_9 : decode cX11_writeLine 9 = .ok (.if_icmp .le 4, 3) := by decide +kernel
theorem dX11_writeLine_12 : decode cX11_writeLine 12 = .ok (.return_, 1) := by decide +kernel
theorem dX11_writeLine_13 : decode cX11_writeLine 13 = .ok (.aload_n 0, 1) := by decide +kernel
theorem dX11_writeLine_14 : decode cX11_writeLine 14 = .ok (.iload_n 1, 1) := by decide +kernel
theorem dX11_writeLine_15 : decode cX11_writeLine 15 = .ok (.iload_n 2, 1) := by decide +kernel
theorem dX11_writeLine_16 : decode cX11_writeLine 16 = .ok (.iastore, 1) := by decide +kernel
theorem dX11_writeLine_17 : decode cX11_writeLine 17 = .ok (.aload_n 0, 1) := by decide +kernel
theorem dX11_writeLine_18 : decode cX11_writeLine 18 = .ok (.iload_n 1, 1) := by decide +kernel
theorem dX11_writeLine_19 : decode cX11_writeLine 19 = .ok (.iconst 1, 1) := by decide +kernel
theorem dX11_writeLine_20 : decode cX11_writeLine 20 = .ok (.iadd, 1) := by decide +kernel
theorem dX11_writeLine_21 : decode cX11_writeLine 21 = .ok (.iload_n 2, 1) := by decide +kernel
theorem dX11_writeLine_22 : decode cX11_writeLine 22 = .ok (.bipush 7, 2) := by decide +kernel
theorem dX11_writeLine_24 : decode cX11_writeLine 24 = .ok (.if_icmp .ne 7, 3) := by decide +kernel
theorem dX11_writeLine_27 : decode cX11_writeLine 27 = .ok (.iconst 0, 1) := by decide +kernel
theorem dX11_writeLine_28 : decode cX11_writeLine 28 = .ok (.goto 4, 3) := by decide +kernel
theorem dX11_writeLine_31 : decode cX11_writeLine 31 = .ok (.iload_n 3, 1) := by decide +kernel
theorem dX11_writeLine_32 : decode cX11_writeLine 32 = .ok (.iastore, 1) := by decide +kernel
theorem dX11_writeLine_33 : decode cX11_writeLine 33 = .ok (.aload_n 0, 1) := by decide +kernel
theorem dX11_writeLine_34 : decode cX11_writeLine 34 = .ok (.iload_n 1, 1) := by decide +kernel
theorem dX11_writeLine_35 : decode cX11_writeLine 35 = .ok (.iconst 2, 1) := by decide +kernel
theorem dX11_writeLine_36 : decode cX11_writeLine 36 = .ok (.iadd, 1) := by decide +kernel
theorem dX11_writeLine_37 : decode cX11_writeLine 37 = .ok (.iload_n 2, 1) := by decide +kernel
theorem dX11_writeLine_38 : decode cX11_writeLine 38 = .ok (.bipush 7, 2) := by decide +kernel
theorem dX11_writeLine_40 : decode cX11_writeLine 40 = .ok (.if_icmp .ne 7, 3) := by decide +kernel
theorem dX11_writeLine_43 : decode cX11_writeLine 43 = .ok (.iconst 0, 1) := by decide +kernel
theorem dX11_writeLine_44 : decode cX11_writeLine 44 = .ok (.goto 5, 3) := by decide +kernel
theorem dX11_writeLine_47 : decode cX11_writeLine 47 = .ok (.iload 4, 2) := by decide +kernel
theorem dX11_writeLine_49 : decode cX11_writeLine 49 = .ok (.iastore, 1) := by decide +kernel
theorem dX11_writeLine_50 : decode cX11_writeLine 50 = .ok (.aload_n 0, 1) := by decide +kernel
theorem dX11_writeLine_51 : decode cX11_writeLine 51 = .ok (.iload_n 1, 1) := by decide +kernel
theorem dX11_writeLine_52 : decode cX11_writeLine 52 = .ok (.iconst 3, 1) := by decide +kernel
theorem dX11_writeLine_53 : decode cX11_writeLine 53 = .ok (.iadd, 1) := by decide +kernel
theorem dX11_writeLine_54 : decode cX11_writeLine 54 = .ok (.iload_n 2, 1) := by decide +kernel
theorem dX11_writeLine_55 : decode cX11_writeLine 55 = .ok (.iconst 1, 1) := by decide +kernel
theorem dX11_writeLine_56 : decode cX11_writeLine 56 = .ok (.if_icmp .eq 13, 3) := by decide +kernel
theorem dX11_writeLine_59 : decode cX11_writeLine 59 = .ok (.iload_n 2, 1) := by decide +kernel
theorem dX11_writeLine_60 : decode cX11_writeLine 60 = .ok (.iconst 2, 1) := by decide +kernel
theorem dX11_writeLine_61 : decode cX11_writeLine 61 = .ok (.if_icmp .eq 8, 3) := by decide +kernel
theorem dX11_writeLine_64 : decode cX11_writeLine 64 = .ok (.iload_n 2, 1) := by decide +kernel
theorem dX11_writeLine_65 : decode cX11_writeLine 65 = .ok (.iconst 3, 1) := by decide +kernel
theorem dX11_writeLine_66 : decode cX11_writeLine 66 = .ok (.if_icmp .ne 8, 3) := by decide +kernel
theorem dX11_writeLine_69 : decode cX11_writeLine 69 = .ok (.iload 5, 2) := by decide +kernel
theorem dX11_writeLine_71 : decode cX11_writeLine 71 = .ok (.goto 4, 3) := by decide +kernel
theorem dX11_writeLine_74 : decode cX11_writeLine 74 = .ok (.iconst 0, 1) := by decide +kernel
theorem dX11_writeLine_75 : decode cX11_writeLine 75 = .ok (.iastore, 1) := by decide +kernel
theorem dX11_writeLine_76 : decode cX11_writeLine 76 = .ok (.return_, 1) := by decide +kernel
theorem dX11_leftOver_0 : decode cX11_leftOver 0 = .ok (.iload_n 1, 1) := by decide +kernel
theorem dX11_leftOver_1 : decode cX11_leftOver 1 = .ok (.iconst 1, 1) := by decide +kernel
theorem dX11_leftOver_2 : decode cX11_leftOver 2 = .ok (.if_icmp .ge 5, 3) := by decide +kernel
theorem dX11_leftOver_5 : decode cX11_leftOver 5 = .ok (.iconst 0, 1) := by decide +kernel
theorem dX11_leftOver_6 : decode cX11_leftOver 6 = .ok (.ireturn, 1) := by decide +kernel
theorem dX11_leftOver_7 : decode cX11_leftOver 7 = .ok (.iload_n 0, 1) := by decide +kernel
theorem dX11_leftOver_8 : decode cX11_leftOver 8 = .ok (.iload_n 1, 1) := by decide +kernel
theorem dX11_leftOver_9 : decode cX11_leftOver 9 = .ok (.irem, 1) := by decide +kernel
theorem dX11_leftOver_10 : decode cX11_leftOver 10 = .ok (.istore_n 2, 1) := by decide +kernel
theorem dX11_leftOver_11 : decode cX11_leftOver 11 = .ok (.iload_n 2, 1) := by decide +kernel
theorem dX11_leftOver_12 : decode cX11_leftOver 12 = .ok (.ifCond .ge 9, 3) := by decide +kernel
theorem dX11_leftOver_15 : decode cX11_leftOver 15 = .ok (.iload_n 2, 1) := by decide +kernel
theorem dX11_leftOver_16 : decode cX11_leftOver 16 = .ok (.iload_n 1, 1) := by decide +kernel
theorem dX11_leftOver_17 : decode cX11_leftOver 17 = .ok (.iadd, 1) := by decide +kernel
theorem dX11_leftOver_18 : decode cX11_leftOver 18 = .ok (.goto 4, 3) := by decide +kernel
theorem dX11_leftOver_21 : decode cX11_leftOver 21 = .ok (.iload_n 2, 1) := by decide +kernel
theorem dX11_leftOver_22 : decode cX11_leftOver 22 = .ok (.ireturn, 1) := by decide +kernel
theorem dX11_cutBy_0 : decode cX11_cutBy 0 = .ok (.iload_n 1, 1) := by decide +kernel
theorem dX11_cutBy_1 : decode cX11_cutBy 1 = .ok (.iconst 1, 1) := by decide +kernel
theorem dX11_cutBy_2 : decode cX11_cutBy 2 = .ok (.if_icmp .ge 7, 3) := by decide +kernel
theorem dX11_cutBy_5 : decode cX11_cutBy 5 = .ok (.iconst 0, 1) := by decide +kernel
theorem dX11_cutBy_6 : decode cX11_cutBy 6 = .ok (.goto 6, 3) := by decide +kernel
theorem dX11_cutBy_9 : decode cX11_cutBy 9 = .ok (.iload_n 0, 1) := by decide +kernel
theorem dX11_cutBy_10 : decode cX11_cutBy 10 = .ok (.iload_n 1, 1) := by decide +kernel
theorem dX11_cutBy_11 : decode cX11_cutBy 11 = .ok (.idiv, 1) := by decide +kernel
theorem dX11_cutBy_12 : decode cX11_cutBy 12 = .ok (.ireturn, 1) := by decide +kernel
theorem dX11_mixed_0 : decode cX11_mixed 0 = .ok (.iconst 0, 1) := by decide +kernel
theorem dX11_mixed_1 : decode cX11_mixed 1 = .ok (.istore 4, 2) := by decide +kernel
theorem dX11_mixed_3 : decode cX11_mixed 3 = .ok (.iload 4, 2) := by decide +kernel
theorem dX11_mixed_5 : decode cX11_mixed 5 = .ok (.iload_n 3, 1) := by decide +kernel
theorem dX11_mixed_6 : decode cX11_mixed 6 = .ok (.if_icmp .ge 28, 3) := by decide +kernel
theorem dX11_mixed_9 : decode cX11_mixed 9 = .ok (.iload 4, 2) := by decide +kernel
theorem dX11_mixed_11 : decode cX11_mixed 11 = .ok (.aload_n 2, 1) := by decide +kernel
theorem dX11_mixed_12 : decode cX11_mixed 12 = .ok (.arraylength, 1) := by decide +kernel
theorem dX11_mixed_13 : decode cX11_mixed 13 = .ok (.if_icmp .ge 21, 3) := by decide +kernel
theorem dX11_mixed_16 : decode cX11_mixed 16 = .ok (.ldc2_w 349, 3) := by decide +kernel
theorem dX11_mixed_19 : decode cX11_mixed 19 = .ok (.lload_n 0, 1) := by decide +kernel
theorem dX11_mixed_20 : decode cX11_mixed 20 = .ok (.lmul, 1) := by decide +kernel
theorem dX11_mixed_21 : decode cX11_mixed 21 = .ok (.aload_n 2, 1) := by decide +kernel
theorem dX11_mixed_22 : decode cX11_mixed 22 = .ok (.iload 4, 2) := by decide +kernel
theorem dX11_mixed_24 : decode cX11_mixed 24 = .ok (.iaload, 1) := by decide +kernel
theorem dX11_mixed_25 : decode cX11_mixed 25 = .ok (.i2l, 1) := by decide +kernel
theorem dX11_mixed_26 : decode cX11_mixed 26 = .ok (.ladd, 1) := by decide +kernel
theorem dX11_mixed_27 : decode cX11_mixed 27 = .ok (.lstore_n 0, 1) := by decide +kernel
theorem dX11_mixed_28 : decode cX11_mixed 28 = .ok (.iinc 4 1, 3) := by decide +kernel
theorem dX11_mixed_31 : decode cX11_mixed 31 = .ok (.goto (-28), 3) := by decide +kernel
theorem dX11_mixed_34 : decode cX11_mixed 34 = .ok (.lload_n 0, 1) := by decide +kernel
theorem dX11_mixed_35 : decode cX11_mixed 35 = .ok (.lreturn, 1) := by decide +kernel
