theorem dX0_init_0 : decode cX0_init 0 = .ok (.aload_n 0, 1) := by decide +kernel
theorem dX0_init_1 : decode cX0_init 1 = .ok (.invokespecial 3, 3) := by decide +kernel
theorem dX0_init_4 : decode cX0_init 4 = .ok (.aload_n 0, 1) := by decide +kernel
theorem dX0_init_5 : decode cX0_init 5 = .ok (.sipush 200, 3) := by decide +kernel
theorem dX0_init_8 : decode cX0_init 8 = .ok (.newarray .int, 2) := by decide +kernel
theorem dX0_init_10 : decode cX0_init 10 = .ok (.putfield 9, 3) := by decide +kernel
theorem dX0_init_13 : decode cX0_init 13 = .ok (.return_, 1) := by decide +kernel
theorem dX0_clear_0 : decode cX0_clear 0 = .ok (.aload_n 0, 1) := by decide +kernel
theorem dX0_clear_1 : decode cX0_clear 1 = .ok (.iconst 0, 1) := by decide +kernel
theorem dX0_clear_2 : decode cX0_clear 2 = .ok (.putfield 15, 3) := by decide +kernel
theorem dX0_clear_5 : decode cX0_clear 5 = .ok (.return_, 1) := by decide +kernel
theorem dX0_add_0 : decode cX0_add 0 = .ok (.aload_n 0, 1) := by decide +kernel
theorem dX0_add_1 : decode cX0_add 1 = .ok (.getfield 15, 3) := by decide +kernel
theorem dX0_add_4 : decode cX0_add 4 = .ok (.aload_n 0, 1) := by decide +kernel
theorem dX0_add_5 : decode cX0_add 5 = .ok (.getfield 9, 3) := by decide +kernel
theorem dX0_add_8 : decode cX0_add 8 = .ok (.arraylength, 1) := by decide +kernel
theorem dX0_add_9 : decode cX0_add 9 = .ok (.if_icmp .lt 4, 3) := by decide +kernel
theorem dX0_add_12 : decode cX0_add 12 = .ok (.return_, 1) := by decide +kernel
theorem dX0_add_13 : decode cX0_add 13 = .ok (.aload_n 0, 1) := by decide +kernel
theorem dX0_add_14 : decode cX0_add 14 = .ok (.getfield 15, 3) := by decide +kernel
theorem dX0_add_17 : decode cX0_add 17 = .ok (.istore_n 2, 1) := by decide +kernel
theorem dX0_add_18 : decode cX0_add 18 = .ok (.iload_n 2, 1) := by decide +kernel
theorem dX0_add_19 : decode cX0_add 19 = .ok (.ifCond .le 35, 3) := by decide +kernel
theorem dX0_add_22 : decode cX0_add 22 = .ok (.aload_n 0, 1) := by decide +kernel
theorem dX0_add_23 : decode cX0_add 23 = .ok (.getfield 9, 3) := by decide +kernel
theorem dX0_add_26 : decode cX0_add 26 = .ok (.iload_n 2, 1) := by decide +kernel
theorem dX0_add_27 : decode cX0_add 27 = .ok (.iconst 1, 1) := by decide +kernel
theorem dX0_add_28 : decode cX0_add 28 = .ok (.isub, 1) := by decide +kernel
theorem dX0_add_29 : decode cX0_add 29 = .ok (.iaload, 1) := by decide +kernel
theorem dX0_add_30 : decode cX0_add 30 = .ok (.iload_n 1, 1) := by decide +kernel
theorem dX0_add_31 : decode cX0_add 31 = .ok (.if_icmp .le 23, 3) := by decide +kernel
theorem dX0_add_34 : decode cX0_add 34 = .ok (.aload_n 0, 1) := by decide +kernel
theorem dX0_add_35 : decode cX0_add 35 = .ok (.getfield 9, 3) := by decide +kernel
theorem dX0_add_38 : decode cX0_add 38 = .ok (.iload_n 2, 1) := by decide +kernel
theorem dX0_add_39 : decode cX0_add 39 = .ok (.aload_n 0, 1) := by decide +kernel
theorem dX0_add_40 : decode cX0_add 40 = .ok (.getfield 9, 3) := by decide +kernel
theorem dX0_add_43 : decode cX0_add 43 = .ok (.iload_n 2, 1) := by decide +kernel
theorem dX0_add_44 : decode cX0_add 44 = .ok (.iconst 1, 1) := by decide +kernel
theorem dX0_add_45 : decode cX0_add 45 = .ok (.isub, 1) := by decide +kernel
theorem dX0_add_46 : decode cX0_add 46 = .ok (.iaload, 1) := by decide +kernel
theorem dX0_add_47 : decode cX0_add 47 = .ok (.iastore, 1) := by decide +kernel
theorem dX0_add_48 : decode cX0_add 48 = .ok (.iinc 2 (-1), 3) := by decide +kernel
theorem dX0_add_51 : decode cX0_add 51 = .ok (.goto (-33), 3) := by decide +kernel
theorem dX0_add_54 : decode cX0_add 54 = .ok (.aload_n 0, 1) := by decide +kernel
theorem dX0_add_55 : decode cX0_add 55 = .ok (.getfield 9, 3) := by decide +kernel
theorem dX0_add_58 : decode cX0_add 58 = .ok (.iload_n 2, 1) := by decide +kernel
theorem dX0_add_59 : decode cX0_add 59 = .ok (.iload_n 1, 1) := by decide +kernel
theorem dX0_add_60 : decode cX0_add 60 = .ok (.iastore, 1) := by decide +kernel
theorem dX0_add_61 : decode cX0_add 61 = .ok (.aload_n 0, 1) := by decide +kernel
theorem dX0_add_62 : decode cX0_add 62 = .ok (.dup, 1) := by decide +kernel
theorem dX0_add_63 : decode cX0_add 63 = .ok (.getfield 15, 3) := by decide +kernel
theorem dX0_add_66 : decode cX0_add 66 = .ok (.iconst 1, 1) := by decide +kernel
theorem dX0_add_67 : decode cX0_add 67 = .ok (.iadd, 1) := by decide +kernel
theorem dX0_add_68 : decode cX0_add 68 = .ok (.putfield 15, 3) := by decide +kernel
theorem dX0_add_71 : decode cX0_add 71 = .ok (.return_, 1) := by decide +kernel
theorem dX0_least_0 : decode cX0_least 0 = .ok (.aload_n 0, 1) := by decide +kernel
theorem dX0_least_1 : decode cX0_least 1 = .ok (.getfield 15, 3) := by decide +kernel
theorem dX0_least_4 : decode cX0_least 4 = .ok (.ifCond .ne 7, 3) := by decide +kernel
theorem dX0_least_7 : decode cX0_least 7 = .ok (.iconst 0, 1) := by decide +kernel
theorem dX0_least_8 : decode cX0_least 8 = .ok (.goto 9, 3) := by decide +kernel
theorem dX0_least_11 : decode cX0_least 11 = .ok (.aload_n 0, 1) := by decide +kernel
theorem dX0_least_12 : decode cX0_least 12 = .ok (.getfield 9, 3) := by decide +kernel
theorem dX0_least_15 : decode cX0_least 15 = .ok (.iconst 0, 1) := by decide +kernel
theorem dX0_least_16 : decode cX0_least 16 = .ok (.iaload, 1) := by decide +kernel
theorem dX0_least_17 : decode cX0_least 17 = .ok (.ireturn, 1) := by decide +kernel
theorem dX0_greatest_0 : decode cX0_greatest 0 = .ok (.aload_n 0, 1) := by decide +kernel
theorem dX0_greatest_1 : decode cX0_greatest 1 = .ok (.getfield 15, 3) := by decide +kernel
theorem dX0_greatest_4 : decode cX0_greatest 4 = .ok (.ifCond .ne 7, 3) := by decide +kernel
theorem dX0_greatest_7 : decode cX0_greatest 7 = .ok (.iconst 0, 1) := by decide +kernel
theorem dX0_greatest_8 : decode cX0_greatest 8 = .ok (.goto 14, 3) := by decide +kernel
theorem dX0_greatest_11 : decode cX0_greatest 11 = .ok (.aload_n 0, 1) := by decide +kernel
theorem dX0_greatest_12 : decode cX0_greatest 12 = .ok (.getfield 9, 3) := by decide +kernel
theorem dX0_greatest_15 : decode cX0_greatest 15 = .ok (.aload_n 0, 1) := by decide +kernel
theorem dX0_greatest_16 : decode cX0_greatest 16 = .ok (.getfield 15, 3) := by decide +kernel
theorem dX0_greatest_19 : decode cX0_greatest 19 = .ok (.iconst 1, 1) := by decide +kernel
theorem dX0_greatest_20 : decode cX0_greatest 20 = .ok (.isub, 1) := by decide +kernel
theorem dX0_greatest_21 : decode cX0_greatest 21 = .ok (.iaload, 1) := by decide +kernel
theorem dX0_greatest_22 : decode cX0_greatest 22 = .ok (.ireturn, 1) := by decide +kernel
theorem dX0_middle_0 : decode cX0_middle 0 = .ok (.aload_n 0, 1) := by decide +kernel
theorem dX0_middle_1 : decode cX0_middle 1 = .ok (.getfield 15, 3) := by decide +kernel
theorem dX0_middle_4 : decode cX0_middle 4 = .ok (.ifCond .ne 5, 3) := by decide +kernel
theorem dX0_middle_7 : decode cX0_middle 7 = .ok (.iconst 0, 1) := by decide +kernel
theorem dX0_middle_8 : decode cX0_middle 8 = .ok (.ireturn, 1) := by decide +kernel
theorem dX0_middle_9 : decode cX0_middle 9 = .ok (.aload_n 0, 1) := by decide +kernel
theorem dX0_middle_10 : decode cX0_middle 10 = .ok (.getfield 15, 3) := by decide +kernel
theorem dX0_middle_13 : decode cX0_middle 13 = .ok (.iconst 2, 1) := by decide +kernel
theorem dX0_middle_14 : decode cX0_middle 14 = .ok (.irem, 1) := by decide +kernel
theorem dX0_middle_15 : decode cX0_middle 15 = .ok (.iconst 1, 1) := by decide +kernel
theorem dX0_middle_16 : decode cX0_middle 16 = .ok (.if_icmp .ne 17, 3) := by decide +kernel
theorem dX0_middle_19 : decode cX0_middle 19 = .ok (.aload_n 0, 1) := by decide +kernel
theorem dX0_middle_20 : decode cX0_middle 20 = .ok (.getfield 9, 3) := by decide +kernel
theorem dX0_middle_23 : decode cX0_middle 23 = .ok (.aload_n 0, 1) := by decide +kernel
theorem dX0_middle_24 : decode cX0_middle 24 = .ok (.getfield 15, 3) := by decide +kernel
theorem dX0_middle_27 : decode cX0_middle 27 = .ok (.iconst 2, 1) := by decide +kernel
theorem dX0_middle_28 : decode cX0_middle 28 = .ok (.idiv, 1) := by decide +kernel
theorem dX0_middle_29 : decode cX0_middle 29 = .ok (.iaload, 1) := by decide +kernel
theorem dX0_middle_30 : decode cX0_middle 30 = .ok (.goto 30, 3) := by decide +kernel
theorem dX0_middle_33 : decode cX0_middle 33 = .ok (.aload_n 0, 1) := by decide +kernel
theorem dX0_middle_34 : decode cX0_middle 34 = .ok (.getfield 9, 3) := by decide +kernel
theorem dX0_middle_37 : decode cX0_middle 37 = .ok (.aload_n 0, 1) := by decide +kernel
theorem dX0_middle_38 : decode cX0_middle 38 = .ok (.getfield 15, 3) := by decide +kernel
theorem dX0_middle_41 : decode cX0_middle 41 = .ok (.iconst 2, 1) := by decide +kernel
theorem dX0_middle_42 : decode cX0_middle 42 = .ok (.idiv, 1) := by decide +kernel
theorem dX0_middle_43 : decode cX0_middle 43 = .ok (.iconst 1, 1) := by decide +kernel
theorem dX0_middle_44 : decode cX0_middle 44 = .ok (.isub, 1) := by decide +kernel
theorem dX0_middle_45 : decode cX0_middle 45 = .ok (.iaload, 1) := by decide +kernel
theorem dX0_middle_46 : decode cX0_middle 46 = .ok (.aload_n 0, 1) := by decide +kernel
theorem dX0_middle_47 : decode cX0_middle 47 = .ok (.getfield 9, 3) := by decide +kernel
theorem dX0_middle_50 : decode cX0_middle 50 = .ok (.aload_n 0, 1) := by decide +kernel
theorem dX0_middle_51 : decode cX0_middle 51 = .ok (.getfield 15, 3) := by decide +kernel
theorem dX0_middle_54 : decode cX0_middle 54 = .ok (.iconst 2, 1) := by decide +kernel
theorem dX0_middle_55 : decode cX0_middle 55 = .ok (.idiv, 1) := by decide +kernel
theorem dX0_middle_56 : decode cX0_middle 56 = .ok (.iaload, 1) := by decide +kernel
theorem dX0_middle_57 : decode cX0_middle 57 = .ok (.iadd, 1) := by decide +kernel
theorem dX0_middle_58 : decode cX0_middle 58 = .ok (.iconst 2, 1) := by decide +kernel
theorem dX0_middle_59 : decode cX0_middle 59 = .ok (.idiv, 1) := by decide +kernel
theorem dX0_middle_60 : decode cX0_middle 60 = .ok (.ireturn, 1) := by decide +kernel
theorem dX1_init_0 : decode cX1_init 0 = .ok (.aload_n 0, 1) := by decide +kernel
theorem dX1_init_1 : decode cX1_init 1 = .ok (.invokespecial 3, 3) := by decide +kernel
theorem dX1_init_4 : decode cX1_init 4 = .ok (.aload_n 0, 1) := by decide +kernel
theorem dX1_init_5 : decode cX1_init 5 = .ok (.bipush 24, 2) := by decide +kernel
theorem dX1_init_7 : decode cX1_init 7 = .ok (.newarray .int, 2) := by decide +kernel
theorem dX1_init_9 : decode cX1_init 9 = .ok (.putfield 9, 3) := by decide +kernel
theorem dX1_init_12 : decode cX1_init 12 = .ok (.aload_n 0, 1) := by decide +kernel
theorem dX1_init_13 : decode cX1_init 13 = .ok (.bipush 24, 2) := by decide +kernel
theorem dX1_init_15 : decode cX1_init 15 = .ok (.newarray .int, 2) := by decide +kernel
theorem dX1_init_17 : decode cX1_init 17 = .ok (.putfield 15, 3) := by decide +kernel
theorem dX1_init_20 : decode cX1_init 20 = .ok (.aload_n 0, 1) := by decide +kernel
theorem dX1_init_21 : decode cX1_init 21 = .ok (.bipush 24, 2) := by decide +kernel
theorem dX1_init_23 : decode cX1_init 23 = .ok (.newarray .int, 2) := by decide +kernel
theorem dX1_init_25 : decode cX1_init 25 = .ok (.putfield 18, 3) := by decide +kernel
theorem dX1_init_28 : decode cX1_init 28 = .ok (.aload_n 0, 1) := by decide +kernel
theorem dX1_init_29 : decode cX1_init 29 = .ok (.new 21, 3) := by decide +kernel
theorem dX1_init_32 : decode cX1_init 32 = .ok (.dup, 1) := by decide +kernel
theorem dX1_init_33 : decode cX1_init 33 = .ok (.invokespecial 23, 3) := by decide +kernel
theorem dX1_init_36 : decode cX1_init 36 = .ok (.putfield 24, 3) := by decide +kernel
theorem dX1_init_39 : decode cX1_init 39 = .ok (.return_, 1) := by decide +kernel
theorem dX1_gather_0 : decode cX1_gather 0 = .ok (.aload_n 0, 1) := by decide +kernel
theorem dX1_gather_1 : decode cX1_gather 1 = .ok (.iconst 0, 1) := by decide +kernel
theorem dX1_gather_2 : decode cX1_gather 2 = .ok (.putfield 28, 3) := by decide +kernel
theorem dX1_gather_5 : decode cX1_gather 5 = .ok (.iload_n 2, 1) := by decide +kernel
theorem dX1_gather_6 : decode cX1_gather 6 = .ok (.istore 6, 2) := by decide +kernel
theorem dX1_gather_8 : decode cX1_gather 8 = .ok (.iload 6, 2) := by decide +kernel
theorem dX1_gather_10 : decode cX1_gather 10 = .ok (.iload_n 3, 1) := by decide +kernel
theorem dX1_gather_11 : decode cX1_gather 11 = .ok (.if_icmp .gt 83, 3) := by decide +kernel
theorem dX1_gather_14 : decode cX1_gather 14 = .ok (.aload_n 0, 1) := by decide +kernel
theorem dX1_gather_15 : decode cX1_gather 15 = .ok (.getfield 28, 3) := by decide +kernel
theorem dX1_gather_18 : decode cX1_gather 18 = .ok (.bipush 24, 2) := by decide +kernel
theorem dX1_gather_20 : decode cX1_gather 20 = .ok (.if_icmp .ge 74, 3) := by decide +kernel
theorem dX1_gather_23 : decode cX1_gather 23 = .ok (.aload_n 1, 1) := by decide +kernel
theorem dX1_gather_24 : decode cX1_gather 24 = .ok (.aload_n 0, 1) := by decide +kernel
theorem dX1_gather_25 : decode cX1_gather 25 = .ok (.getfield 24, 3) := by decide +kernel
theorem dX1_gather_28 : decode cX1_gather 28 = .ok (.iload 6, 2) := by decide +kernel
theorem dX1_gather_30 : decode cX1_gather 30 = .ok (.iload 4, 2) := by decide +kernel
theorem dX1_gather_32 : decode cX1_gather 32 = .ok (.iload 5, 2) := by decide +kernel
theorem dX1_gather_34 : decode cX1_gather 34 = .ok (.aload_n 1, 1) := by decide +kernel
theorem dX1_gather_35 : decode cX1_gather 35 = .ok (.getfield 32, 3) := by decide +kernel
theorem dX1_gather_38 : decode cX1_gather 38 = .ok (.invokevirtual 37, 3) := by decide +kernel
theorem dX1_gather_41 : decode cX1_gather 41 = .ok (.aload_n 0, 1) := by decide +kernel
theorem dX1_gather_42 : decode cX1_gather 42 = .ok (.getfield 24, 3) := by decide +kernel
theorem dX1_gather_45 : decode cX1_gather 45 = .ok (.getfield 41, 3) := by decide +kernel
theorem dX1_gather_48 : decode cX1_gather 48 = .ok (.ifCond .le 40, 3) := by decide +kernel
theorem dX1_gather_51 : decode cX1_gather 51 = .ok (.aload_n 0, 1) := by decide +kernel
theorem dX1_gather_52 : decode cX1_gather 52 = .ok (.getfield 9, 3) := by decide +kernel
theorem dX1_gather_55 : decode cX1_gather 55 = .ok (.aload_n 0, 1) := by decide +kernel
theorem dX1_gather_56 : decode cX1_gather 56 = .ok (.getfield 28, 3) := by decide +kernel
theorem dX1_gather_59 : decode cX1_gather 59 = .ok (.iload 6, 2) := by decide +kernel
theorem dX1_gather_61 : decode cX1_gather 61 = .ok (.iastore, 1) := by decide +kernel
theorem dX1_gather_62 : decode cX1_gather 62 = .ok (.aload_n 0, 1) := by decide +kernel
theorem dX1_gather_63 : decode cX1_gather 63 = .ok (.getfield 15, 3) := by decide +kernel
theorem dX1_gather_66 : decode cX1_gather 66 = .ok (.aload_n 0, 1) := by decide +kernel
theorem dX1_gather_67 : decode cX1_gather 67 = .ok (.getfield 28, 3) := by decide +kernel
theorem dX1_gather_70 : decode cX1_gather 70 = .ok (.aload_n 0, 1) := by decide +kernel
theorem dX1_gather_71 : decode cX1_gather 71 = .ok (.getfield 24, 3) := by decide +kernel
theorem dX1_gather_74 : decode cX1_gather 74 = .ok (.invokevirtual 42, 3) := by decide +kernel
theorem dX1_gather_77 : decode cX1_gather 77 = .ok (.iastore, 1) := by decide +kernel
theorem dX1_gather_78 : decode cX1_gather 78 = .ok (.aload_n 0, 1) := by decide +kernel
theorem dX1_gather_79 : decode cX1_gather 79 = .ok (.dup, 1) := by decide +kernel
theorem dX1_gather_80 : decode cX1_gather 80 = .ok (.getfield 28, 3) := by decide +kernel
theorem dX1_gather_83 : decode cX1_gather 83 = .ok (.iconst 1, 1) := by decide +kernel
theorem dX1_gather_84 : decode cX1_gather 84 = .ok (.iadd, 1) := by decide +kernel
theorem dX1_gather_85 : decode cX1_gather 85 = .ok (.putfield 28, 3) := by decide +kernel
theorem dX1_gather_88 : decode cX1_gather 88 = .ok (.iinc 6 1, 3) := by decide +kernel
theorem dX1_gather_91 : decode cX1_gather 91 = .ok (.goto (-83), 3) := by decide +kernel
theorem dX1_gather_94 : decode cX1_gather 94 = .ok (.return_, 1) := by decide +kernel
theorem dX1_find_0 : decode cX1_find 0 = .ok (.iconst 1, 1) := by decide +kernel
theorem dX1_find_1 : decode cX1_find 1 = .ok (.istore_n 1, 1) := by decide +kernel
theorem dX1_find_2 : decode cX1_find 2 = .ok (.iload_n 1, 1) := by decide +kernel
theorem dX1_find_3 : decode cX1_find 3 = .ok (.aload_n 0, 1) := by decide +kernel
theorem dX1_find_4 : decode cX1_find 4 = .ok (.getfield 28, 3) := by decide +kernel
theorem dX1_find_7 : decode cX1_find 7 = .ok (.if_icmp .ge 69, 3) := by decide +kernel
theorem dX1_find_10 : decode cX1_find 10 = .ok (.aload_n 0, 1) := by decide +kernel
theorem dX1_find_11 : decode cX1_find 11 = .ok (.getfield 18, 3) := by decide +kernel
theorem dX1_find_14 : decode cX1_find 14 = .ok (.iload_n 1, 1) := by decide +kernel
theorem dX1_find_15 : decode cX1_find 15 = .ok (.aload_n 0, 1) := by decide +kernel
theorem dX1_find_16 : decode cX1_find 16 = .ok (.iconst 0, 1) := by decide +kernel
theorem dX1_find_17 : decode cX1_find 17 = .ok (.iload_n 1, 1) := by decide +kernel
theorem dX1_find_18 : decode cX1_find 18 = .ok (.invokevirtual 46, 3) := by decide +kernel
theorem dX1_find_21 : decode cX1_find 21 = .ok (.aload_n 0, 1) := by decide +kernel
theorem dX1_find_22 : decode cX1_find 22 = .ok (.iload_n 1, 1) := by decide +kernel
theorem dX1_find_23 : decode cX1_find 23 = .ok (.aload_n 0, 1) := by decide +kernel
theorem dX1_find_24 : decode cX1_find 24 = .ok (.getfield 28, 3) := by decide +kernel
theorem dX1_find_27 : decode cX1_find 27 = .ok (.invokevirtual 46, 3) := by decide +kernel
theorem dX1_find_30 : decode cX1_find 30 = .ok (.iadd, 1) := by decide +kernel
theorem dX1_find_31 : decode cX1_find 31 = .ok (.iastore, 1) := by decide +kernel
theorem dX1_find_32 : decode cX1_find 32 = .ok (.iload_n 1, 1) := by decide +kernel
theorem dX1_find_33 : decode cX1_find 33 = .ok (.iconst 1, 1) := by decide +kernel
theorem dX1_find_34 : decode cX1_find 34 = .ok (.if_icmp .eq 16, 3) := by decide +kernel
theorem dX1_find_37 : decode cX1_find 37 = .ok (.aload_n 0, 1) := by decide +kernel
theorem dX1_find_38 : decode cX1_find 38 = .ok (.getfield 18, 3) := by decide +kernel
theorem dX1_find_41 : decode cX1_find 41 = .ok (.iload_n 1, 1) := by decide +kernel
theorem dX1_find_42 : decode cX1_find 42 = .ok (.iaload, 1) := by decide +kernel
theorem dX1_find_43 : decode cX1_find 43 = .ok (.aload_n 0, 1) := by decide +kernel
theorem dX1_find_44 : decode cX1_find 44 = .ok (.getfield 50, 3) := by decide +kernel
theorem dX1_find_47 : decode cX1_find 47 = .ok (.if_icmp .ge 23, 3) := by decide +kernel
theorem dX1_find_50 : decode cX1_find 50 = .ok (.aload_n 0, 1) := by decide +kernel
theorem dX1_find_51 : decode cX1_find 51 = .ok (.aload_n 0, 1) := by decide +kernel
theorem dX1_find_52 : decode cX1_find 52 = .ok (.getfield 18, 3) := by decide +kernel
theorem dX1_find_55 : decode cX1_find 55 = .ok (.iload_n 1, 1) := by decide +kernel
theorem dX1_find_56 : decode cX1_find 56 = .ok (.iaload, 1) := by decide +kernel
theorem dX1_find_57 : decode cX1_find 57 = .ok (.putfield 50, 3) := by decide +kernel
theorem dX1_find_60 : decode cX1_find 60 = .ok (.aload_n 0, 1) := by decide +kernel
theorem dX1_find_61 : decode cX1_find 61 = .ok (.aload_n 0, 1) := by decide +kernel
theorem dX1_find_62 : decode cX1_find 62 = .ok (.getfield 9, 3) := by decide +kernel
theorem dX1_find_65 : decode cX1_find 65 = .ok (.iload_n 1, 1) := by decide +kernel
theorem dX1_find_66 : decode cX1_find 66 = .ok (.iaload, 1) := by decide +kernel
theorem dX1_find_67 : decode cX1_find 67 = .ok (.putfield 53, 3) := by decide +kernel
theorem dX1_find_70 : decode cX1_find 70 = .ok (.iinc 1 1, 3) := by decide +kernel
theorem dX1_find_73 : decode cX1_find 73 = .ok (.goto (-71), 3) := by decide +kernel
theorem dX1_find_76 : decode cX1_find 76 = .ok (.aload_n 0, 1) := by decide +kernel
theorem dX1_find_77 : decode cX1_find 77 = .ok (.getfield 28, 3) := by decide +kernel
theorem dX1_find_80 : decode cX1_find 80 = .ok (.iconst 2, 1) := by decide +kernel
theorem dX1_find_81 : decode cX1_find 81 = .ok (.if_icmp .lt 7, 3) := by decide +kernel
theorem dX1_find_84 : decode cX1_find 84 = .ok (.iconst 1, 1) := by decide +kernel
theorem dX1_find_85 : decode cX1_find 85 = .ok (.goto 4, 3) := by decide +kernel
theorem dX1_find_88 : decode cX1_find 88 = .ok (.iconst 0, 1) := by decide +kernel
theorem dX1_find_89 : decode cX1_find 89 = .ok (.ireturn, 1) := by decide +kernel
theorem dX1_couldBe_0 : decode cX1_couldBe 0 = .ok (.iconst 0, 1) := by decide +kernel
theorem dX1_couldBe_1 : decode cX1_couldBe 1 = .ok (.istore_n 2, 1) := by decide +kernel
theorem dX1_couldBe_2 : decode cX1_couldBe 2 = .ok (.iconst 1, 1) := by decide +kernel
theorem dX1_couldBe_3 : decode cX1_couldBe 3 = .ok (.istore_n 3, 1) := by decide +kernel
theorem dX1_couldBe_4 : decode cX1_couldBe 4 = .ok (.iload_n 3, 1) := by decide +kernel
theorem dX1_couldBe_5 : decode cX1_couldBe 5 = .ok (.aload_n 0, 1) := by decide +kernel
theorem dX1_couldBe_6 : decode cX1_couldBe 6 = .ok (.getfield 28, 3) := by decide +kernel
theorem dX1_couldBe_9 : decode cX1_couldBe 9 = .ok (.if_icmp .ge 35, 3) := by decide +kernel
theorem dX1_couldBe_12 : decode cX1_couldBe 12 = .ok (.aload_n 0, 1) := by decide +kernel
theorem dX1_couldBe_13 : decode cX1_couldBe 13 = .ok (.getfield 18, 3) := by decide +kernel
theorem dX1_couldBe_16 : decode cX1_couldBe 16 = .ok (.iload_n 3, 1) := by decide +kernel
theorem dX1_couldBe_17 : decode cX1_couldBe 17 = .ok (.iaload, 1) := by decide +kernel
theorem dX1_couldBe_18 : decode cX1_couldBe 18 = .ok (.aload_n 0, 1) := by decide +kernel
theorem dX1_couldBe_19 : decode cX1_couldBe 19 = .ok (.getfield 50, 3) := by decide +kernel
theorem dX1_couldBe_22 : decode cX1_couldBe 22 = .ok (.iload_n 1, 1) := by decide +kernel
theorem dX1_couldBe_23 : decode cX1_couldBe 23 = .ok (.iadd, 1) := by decide +kernel
theorem dX1_couldBe_24 : decode cX1_couldBe 24 = .ok (.if_icmp .gt 14, 3) := by decide +kernel
theorem dX1_couldBe_27 : decode cX1_couldBe 27 = .ok (.iload_n 2, 1) := by decide +kernel
theorem dX1_couldBe_28 : decode cX1_couldBe 28 = .ok (.iconst 1, 1) := by decide +kernel
theorem dX1_couldBe_29 : decode cX1_couldBe 29 = .ok (.aload_n 0, 1) := by decide +kernel
theorem dX1_couldBe_30 : decode cX1_couldBe 30 = .ok (.getfield 9, 3) := by decide +kernel
theorem dX1_couldBe_33 : decode cX1_couldBe 33 = .ok (.iload_n 3, 1) := by decide +kernel
theorem dX1_couldBe_34 : decode cX1_couldBe 34 = .ok (.iaload, 1) := by decide +kernel
theorem dX1_couldBe_35 : decode cX1_couldBe 35 = .ok (.ishl, 1) := by decide +kernel
theorem dX1_couldBe_36 : decode cX1_couldBe 36 = .ok (.ior, 1) := by decide +kernel
theorem dX1_couldBe_37 : decode cX1_couldBe 37 = .ok (.istore_n 2, 1) := by decide +kernel
theorem dX1_couldBe_38 : decode cX1_couldBe 38 = .ok (.iinc 3 1, 3) := by decide +kernel
theorem dX1_couldBe_41 : decode cX1_couldBe 41 = .ok (.goto (-37), 3) := by decide +kernel
theorem dX1_couldBe_44 : decode cX1_couldBe 44 = .ok (.iload_n 2, 1) := by decide +kernel
theorem dX1_couldBe_45 : decode cX1_couldBe 45 = .ok (.ireturn, 1) := by decide +kernel
theorem dX1_farness_0 : decode cX1_farness 0 = .ok (.aload_n 0, 1) := by decide +kernel
theorem dX1_farness_1 : decode cX1_farness 1 = .ok (.getfield 24, 3) := by decide +kernel
theorem dX1_farness_4 : decode cX1_farness 4 = .ok (.invokevirtual 56, 3) := by decide +kernel
theorem dX1_farness_7 : decode cX1_farness 7 = .ok (.iload_n 1, 1) := by decide +kernel
theorem dX1_farness_8 : decode cX1_farness 8 = .ok (.istore_n 3, 1) := by decide +kernel
theorem dX1_farness_9 : decode cX1_farness 9 = .ok (.iload_n 3, 1) := by decide +kernel
theorem dX1_farness_10 : decode cX1_farness 10 = .ok (.iload_n 2, 1) := by decide +kernel
theorem dX1_farness_11 : decode cX1_farness 11 = .ok (.if_icmp .ge 22, 3) := by decide +kernel
theorem dX1_farness_14 : decode cX1_farness 14 = .ok (.aload_n 0, 1) := by decide +kernel
theorem dX1_farness_15 : decode cX1_farness 15 = .ok (.getfield 24, 3) := by decide +kernel
theorem dX1_farness_18 : decode cX1_farness 18 = .ok (.aload_n 0, 1) := by decide +kernel
theorem dX1_farness_19 : decode cX1_farness 19 = .ok (.getfield 15, 3) := by decide +kernel
theorem dX1_farness_22 : decode cX1_farness 22 = .ok (.iload_n 3, 1) := by decide +kernel
theorem dX1_farness_23 : decode cX1_farness 23 = .ok (.iaload, 1) := by decide +kernel
theorem dX1_farness_24 : decode cX1_farness 24 = .ok (.invokevirtual 59, 3) := by decide +kernel
theorem dX1_farness_27 : decode cX1_farness 27 = .ok (.iinc 3 1, 3) := by decide +kernel
theorem dX1_farness_30 : decode cX1_farness 30 = .ok (.goto (-21), 3) := by decide +kernel
theorem dX1_farness_33 : decode cX1_farness 33 = .ok (.iconst 0, 1) := by decide +kernel
theorem dX1_farness_34 : decode cX1_farness 34 = .ok (.istore_n 3, 1) := by decide +kernel
theorem dX1_farness_35 : decode cX1_farness 35 = .ok (.iload_n 1, 1) := by decide +kernel
theorem dX1_farness_36 : decode cX1_farness 36 = .ok (.istore 4, 2) := by decide +kernel
theorem dX1_farness_38 : decode cX1_farness 38 = .ok (.iload 4, 2) := by decide +kernel
theorem dX1_farness_40 : decode cX1_farness 40 = .ok (.iload_n 2, 1) := by decide +kernel
theorem dX1_farness_41 : decode cX1_farness 41 = .ok (.if_icmp .ge 30, 3) := by decide +kernel
theorem dX1_farness_44 : decode cX1_farness 44 = .ok (.iload_n 3, 1) := by decide +kernel
theorem dX1_farness_45 : decode cX1_farness 45 = .ok (.aload_n 0, 1) := by decide +kernel
theorem dX1_farness_46 : decode cX1_farness 46 = .ok (.getfield 15, 3) := by decide +kernel
theorem dX1_farness_49 : decode cX1_farness 49 = .ok (.iload 4, 2) := by decide +kernel
theorem dX1_farness_51 : decode cX1_farness 51 = .ok (.iaload, 1) := by decide +kernel
theorem dX1_farness_52 : decode cX1_farness 52 = .ok (.aload_n 0, 1) := by decide +kernel
theorem dX1_farness_53 : decode cX1_farness 53 = .ok (.getfield 24, 3) := by decide +kernel
theorem dX1_farness_56 : decode cX1_farness 56 = .ok (.invokevirtual 42, 3) := by decide +kernel
theorem dX1_farness_59 : decode cX1_farness 59 = .ok (.isub, 1) := by decide +kernel
theorem dX1_farness_60 : decode cX1_farness 60 = .ok (.invokestatic 63, 3) := by decide +kernel
theorem dX1_farness_63 : decode cX1_farness 63 = .ok (.iadd, 1) := by decide +kernel
theorem dX1_farness_64 : decode cX1_farness 64 = .ok (.istore_n 3, 1) := by decide +kernel
theorem dX1_farness_65 : decode cX1_farness 65 = .ok (.iinc 4 1, 3) := by decide +kernel
theorem dX1_farness_68 : decode cX1_farness 68 = .ok (.goto (-30), 3) := by decide +kernel
theorem dX1_farness_71 : decode cX1_farness 71 = .ok (.iload_n 3, 1) := by decide +kernel
theorem dX1_farness_72 : decode cX1_farness 72 = .ok (.ireturn, 1) := by decide +kernel
theorem dX2_init_0 : decode cX2_init 0 = .ok (.aload_n 0, 1) := by decide +kernel
theorem dX2_init_1 : decode cX2_init 1 = .ok (.invokespecial 3, 3) := by decide +kernel
theorem dX2_init_4 : decode cX2_init 4 = .ok (.aload_n 0, 1) := by decide +kernel
theorem dX2_init_5 : decode cX2_init 5 = .ok (.iconst 3, 1) := by decide +kernel
theorem dX2_init_6 : decode cX2_init 6 = .ok (.newarray .int, 2) := by decide +kernel
theorem dX2_init_8 : decode cX2_init 8 = .ok (.putfield 9, 3) := by decide +kernel
theorem dX2_init_11 : decode cX2_init 11 = .ok (.aload_n 0, 1) := by decide +kernel
theorem dX2_init_12 : decode cX2_init 12 = .ok (.iconst 3, 1) := by decide +kernel
theorem dX2_init_13 : decode cX2_init 13 = .ok (.newarray .int, 2) := by decide +kernel
theorem dX2_init_15 : decode cX2_init 15 = .ok (.putfield 15, 3) := by decide +kernel
theorem dX2_init_18 : decode cX2_init 18 = .ok (.aload_n 0, 1) := by decide +kernel
theorem dX2_init_19 : decode cX2_init 19 = .ok (.sipush 200, 3) := by decide +kernel
theorem dX2_init_22 : decode cX2_init 22 = .ok (.newarray .int, 2) := by decide +kernel
theorem dX2_init_24 : decode cX2_init 24 = .ok (.putfield 18, 3) := by decide +kernel
theorem dX2_init_27 : decode cX2_init 27 = .ok (.aload_n 0, 1) := by decide +kernel
theorem dX2_init_28 : decode cX2_init 28 = .ok (.sipush 200, 3) := by decide +kernel
theorem dX2_init_31 : decode cX2_init 31 = .ok (.newarray .int, 2) := by decide +kernel
theorem dX2_init_33 : decode cX2_init 33 = .ok (.putfield 21, 3) := by decide +kernel
theorem dX2_init_36 : decode cX2_init 36 = .ok (.aload_n 0, 1) := by decide +kernel
theorem dX2_init_37 : decode cX2_init 37 = .ok (.sipush 200, 3) := by decide +kernel
theorem dX2_init_40 : decode cX2_init 40 = .ok (.newarray .int, 2) := by decide +kernel
theorem dX2_init_42 : decode cX2_init 42 = .ok (.putfield 24, 3) := by decide +kernel
theorem dX2_init_45 : decode cX2_init 45 = .ok (.aload_n 0, 1) := by decide +kernel
theorem dX2_init_46 : decode cX2_init 46 = .ok (.sipush 200, 3) := by decide +kernel
theorem dX2_init_49 : decode cX2_init 49 = .ok (.newarray .int, 2) := by decide +kernel
theorem dX2_init_51 : decode cX2_init 51 = .ok (.putfield 27, 3) := by decide +kernel
theorem dX2_init_54 : decode cX2_init 54 = .ok (.aload_n 0, 1) := by decide +kernel
theorem dX2_init_55 : decode cX2_init 55 = .ok (.sipush 200, 3) := by decide +kernel
theorem dX2_init_58 : decode cX2_init 58 = .ok (.newarray .int, 2) := by decide +kernel
theorem dX2_init_60 : decode cX2_init 60 = .ok (.putfield 30, 3) := by decide +kernel
theorem dX2_init_63 : decode cX2_init 63 = .ok (.return_, 1) := by decide +kernel
theorem dX2_find_0 : decode cX2_find 0 = .ok (.aload_n 0, 1) := by decide +kernel
theorem dX2_find_1 : decode cX2_find 1 = .ok (.getfield 15, 3) := by decide +kernel
theorem dX2_find_4 : decode cX2_find 4 = .ok (.iconst 0, 1) := by decide +kernel
theorem dX2_find_5 : decode cX2_find 5 = .ok (.iload_n 3, 1) := by decide +kernel
theorem dX2_find_6 : decode cX2_find 6 = .ok (.iastore, 1) := by decide +kernel
theorem dX2_find_7 : decode cX2_find 7 = .ok (.aload_n 0, 1) := by decide +kernel
theorem dX2_find_8 : decode cX2_find 8 = .ok (.getfield 15, 3) := by decide +kernel
theorem dX2_find_11 : decode cX2_find 11 = .ok (.iconst 1, 1) := by decide +kernel
theorem dX2_find_12 : decode cX2_find 12 = .ok (.iload 4, 2) := by decide +kernel
theorem dX2_find_14 : decode cX2_find 14 = .ok (.iastore, 1) := by decide +kernel
theorem dX2_find_15 : decode cX2_find 15 = .ok (.aload_n 0, 1) := by decide +kernel
theorem dX2_find_16 : decode cX2_find 16 = .ok (.getfield 15, 3) := by decide +kernel
theorem dX2_find_19 : decode cX2_find 19 = .ok (.iconst 2, 1) := by decide +kernel
theorem dX2_find_20 : decode cX2_find 20 = .ok (.iload 5, 2) := by decide +kernel
theorem dX2_find_22 : decode cX2_find 22 = .ok (.iastore, 1) := by decide +kernel
theorem dX2_find_23 : decode cX2_find 23 = .ok (.aload_n 0, 1) := by decide +kernel
theorem dX2_find_24 : decode cX2_find 24 = .ok (.aload_n 1, 1) := by decide +kernel
theorem dX2_find_25 : decode cX2_find 25 = .ok (.iload_n 2, 1) := by decide +kernel
theorem dX2_find_26 : decode cX2_find 26 = .ok (.invokevirtual 33, 3) := by decide +kernel
theorem dX2_find_29 : decode cX2_find 29 = .ok (.aload_n 0, 1) := by decide +kernel
theorem dX2_find_30 : decode cX2_find 30 = .ok (.iconst 0, 1) := by decide +kernel
theorem dX2_find_31 : decode cX2_find 31 = .ok (.iconst 0, 1) := by decide +kernel
theorem dX2_find_32 : decode cX2_find 32 = .ok (.iconst 0, 1) := by decide +kernel
theorem dX2_find_33 : decode cX2_find 33 = .ok (.ldc2_w 37, 3) := by decide +kernel
theorem dX2_find_36 : decode cX2_find 36 = .ok (.invokevirtual 39, 3) := by decide +kernel
theorem dX2_find_39 : decode cX2_find 39 = .ok (.iconst 0, 1) := by decide +kernel
theorem dX2_find_40 : decode cX2_find 40 = .ok (.istore 6, 2) := by decide +kernel
theorem dX2_find_42 : decode cX2_find 42 = .ok (.iload 6, 2) := by decide +kernel
theorem dX2_find_44 : decode cX2_find 44 = .ok (.bipush 12, 2) := by decide +kernel
theorem dX2_find_46 : decode cX2_find 46 = .ok (.if_icmp .gt 79, 3) := by decide +kernel
theorem dX2_find_49 : decode cX2_find 49 = .ok (.iconst 0, 1) := by decide +kernel
theorem dX2_find_50 : decode cX2_find 50 = .ok (.istore 7, 2) := by decide +kernel
theorem dX2_find_52 : decode cX2_find 52 = .ok (.iload 7, 2) := by decide +kernel
theorem dX2_find_54 : decode cX2_find 54 = .ok (.bipush 12, 2) := by decide +kernel
theorem dX2_find_56 : decode cX2_find 56 = .ok (.if_icmp .gt 63, 3) := by decide +kernel
theorem dX2_find_59 : decode cX2_find 59 = .ok (.iconst 0, 1) := by decide +kernel
theorem dX2_find_60 : decode cX2_find 60 = .ok (.istore 8, 2) := by decide +kernel
theorem dX2_find_62 : decode cX2_find 62 = .ok (.iload 8, 2) := by decide +kernel
theorem dX2_find_64 : decode cX2_find 64 = .ok (.bipush 12, 2) := by decide +kernel
theorem dX2_find_66 : decode cX2_find 66 = .ok (.if_icmp .gt 47, 3) := by decide +kernel
theorem dX2_find_69 : decode cX2_find 69 = .ok (.aload_n 0, 1) := by decide +kernel
theorem dX2_find_70 : decode cX2_find 70 = .ok (.iload 6, 2) := by decide +kernel
theorem dX2_find_72 : decode cX2_find 72 = .ok (.iload 7, 2) := by decide +kernel
theorem dX2_find_74 : decode cX2_find 74 = .ok (.iload 8, 2) := by decide +kernel
theorem dX2_find_76 : decode cX2_find 76 = .ok (.aload_n 0, 1) := by decide +kernel
theorem dX2_find_77 : decode cX2_find 77 = .ok (.getfield 43, 3) := by decide +kernel
theorem dX2_find_80 : decode cX2_find 80 = .ok (.invokevirtual 47, 3) := by decide +kernel
theorem dX2_find_83 : decode cX2_find 83 = .ok (.lstore 9, 2) := by decide +kernel
theorem dX2_find_85 : decode cX2_find 85 = .ok (.lload 9, 2) := by decide +kernel
theorem dX2_find_87 : decode cX2_find 87 = .ok (.aload_n 0, 1) := by decide +kernel
theorem dX2_find_88 : decode cX2_find 88 = .ok (.getfield 43, 3) := by decide +kernel
theorem dX2_find_91 : decode cX2_find 91 = .ok (.lcmp, 1) := by decide +kernel
theorem dX2_find_92 : decode cX2_find 92 = .ok (.ifCond .ge 15, 3) := by decide +kernel
theorem dX2_find_95 : decode cX2_find 95 = .ok (.aload_n 0, 1) := by decide +kernel
theorem dX2_find_96 : decode cX2_find 96 = .ok (.iload 6, 2) := by decide +kernel
theorem dX2_find_98 : decode cX2_find 98 = .ok (.iload 7, 2) := by decide +kernel
theorem dX2_find_100 : decode cX2_find 100 = .ok (.iload 8, 2) := by decide +kernel
theorem dX2_find_102 : decode cX2_find 102 = .ok (.lload 9, 2) := by decide +kernel
theorem dX2_find_104 : decode cX2_find 104 = .ok (.invokevirtual 39, 3) := by decide +kernel
theorem dX2_find_107 : decode cX2_find 107 = .ok (.iinc 8 1, 3) := by decide +kernel
theorem dX2_find_110 : decode cX2_find 110 = .ok (.goto (-48), 3) := by decide +kernel
theorem dX2_find_113 : decode cX2_find 113 = .ok (.iinc 7 1, 3) := by decide +kernel
theorem dX2_find_116 : decode cX2_find 116 = .ok (.goto (-64), 3) := by decide +kernel
theorem dX2_find_119 : decode cX2_find 119 = .ok (.iinc 6 1, 3) := by decide +kernel
theorem dX2_find_122 : decode cX2_find 122 = .ok (.goto (-80), 3) := by decide +kernel
theorem dX2_find_125 : decode cX2_find 125 = .ok (.return_, 1) := by decide +kernel
theorem dX2_made_0 : decode cX2_made 0 = .ok (.aload_n 0, 1) := by decide +kernel
theorem dX2_made_1 : decode cX2_made 1 = .ok (.getfield 9, 3) := by decide +kernel
theorem dX2_made_4 : decode cX2_made 4 = .ok (.iconst 0, 1) := by decide +kernel
theorem dX2_made_5 : decode cX2_made 5 = .ok (.iaload, 1) := by decide +kernel
theorem dX2_made_6 : decode cX2_made 6 = .ok (.iload_n 1, 1) := by decide +kernel
theorem dX2_made_7 : decode cX2_made 7 = .ok (.imul, 1) := by decide +kernel
theorem dX2_made_8 : decode cX2_made 8 = .ok (.aload_n 0, 1) := by decide +kernel
theorem dX2_made_9 : decode cX2_made 9 = .ok (.getfield 9, 3) := by decide +kernel
theorem dX2_made_12 : decode cX2_made 12 = .ok (.iconst 1, 1) := by decide +kernel
theorem dX2_made_13 : decode cX2_made 13 = .ok (.iaload, 1) := by decide +kernel
theorem dX2_made_14 : decode cX2_made 14 = .ok (.iload_n 2, 1) := by decide +kernel
theorem dX2_made_15 : decode cX2_made 15 = .ok (.imul, 1) := by decide +kernel
theorem dX2_made_16 : decode cX2_made 16 = .ok (.iadd, 1) := by decide +kernel
theorem dX2_made_17 : decode cX2_made 17 = .ok (.aload_n 0, 1) := by decide +kernel
theorem dX2_made_18 : decode cX2_made 18 = .ok (.getfield 9, 3) := by decide +kernel
theorem dX2_made_21 : decode cX2_made 21 = .ok (.iconst 2, 1) := by decide +kernel
theorem dX2_made_22 : decode cX2_made 22 = .ok (.iaload, 1) := by decide +kernel
theorem dX2_made_23 : decode cX2_made 23 = .ok (.iload_n 3, 1) := by decide +kernel
theorem dX2_made_24 : decode cX2_made 24 = .ok (.imul, 1) := by decide +kernel
theorem dX2_made_25 : decode cX2_made 25 = .ok (.iadd, 1) := by decide +kernel
theorem dX2_made_26 : decode cX2_made 26 = .ok (.ireturn, 1) := by decide +kernel
theorem dX2_farthest_0 : decode cX2_farthest 0 = .ok (.iconst (-1), 1) := by decide +kernel
theorem dX2_farthest_1 : decode cX2_farthest 1 = .ok (.istore_n 1, 1) := by decide +kernel
theorem dX2_farthest_2 : decode cX2_farthest 2 = .ok (.iconst (-1), 1) := by decide +kernel
theorem dX2_farthest_3 : decode cX2_farthest 3 = .ok (.istore_n 2, 1) := by decide +kernel
theorem dX2_farthest_4 : decode cX2_farthest 4 = .ok (.iconst 0, 1) := by decide +kernel
theorem dX2_farthest_5 : decode cX2_farthest 5 = .ok (.istore_n 3, 1) := by decide +kernel
theorem dX2_farthest_6 : decode cX2_farthest 6 = .ok (.iload_n 3, 1) := by decide +kernel
theorem dX2_farthest_7 : decode cX2_farthest 7 = .ok (.aload_n 0, 1) := by decide +kernel
theorem dX2_farthest_8 : decode cX2_farthest 8 = .ok (.getfield 51, 3) := by decide +kernel
theorem dX2_farthest_11 : decode cX2_farthest 11 = .ok (.if_icmp .ge 59, 3) := by decide +kernel
theorem dX2_farthest_14 : decode cX2_farthest 14 = .ok (.aload_n 0, 1) := by decide +kernel
theorem dX2_farthest_15 : decode cX2_farthest 15 = .ok (.getfield 30, 3) := by decide +kernel
theorem dX2_farthest_18 : decode cX2_farthest 18 = .ok (.iload_n 3, 1) := by decide +kernel
theorem dX2_farthest_19 : decode cX2_farthest 19 = .ok (.iaload, 1) := by decide +kernel
theorem dX2_farthest_20 : decode cX2_farthest 20 = .ok (.aload_n 0, 1) := by decide +kernel
theorem dX2_farthest_21 : decode cX2_farthest 21 = .ok (.aload_n 0, 1) := by decide +kernel
theorem dX2_farthest_22 : decode cX2_farthest 22 = .ok (.getfield 21, 3) := by decide +kernel
theorem dX2_farthest_25 : decode cX2_farthest 25 = .ok (.iload_n 3, 1) := by decide +kernel
theorem dX2_farthest_26 : decode cX2_farthest 26 = .ok (.iaload, 1) := by decide +kernel
theorem dX2_farthest_27 : decode cX2_farthest 27 = .ok (.aload_n 0, 1) := by decide +kernel
theorem dX2_farthest_28 : decode cX2_farthest 28 = .ok (.getfield 24, 3) := by decide +kernel
theorem dX2_farthest_31 : decode cX2_farthest 31 = .ok (.iload_n 3, 1) := by decide +kernel
theorem dX2_farthest_32 : decode cX2_farthest 32 = .ok (.iaload, 1) := by decide +kernel
theorem dX2_farthest_33 : decode cX2_farthest 33 = .ok (.aload_n 0, 1) := by decide +kernel
theorem dX2_farthest_34 : decode cX2_farthest 34 = .ok (.getfield 27, 3) := by decide +kernel
theorem dX2_farthest_37 : decode cX2_farthest 37 = .ok (.iload_n 3, 1) := by decide +kernel
theorem dX2_farthest_38 : decode cX2_farthest 38 = .ok (.iaload, 1) := by decide +kernel
theorem dX2_farthest_39 : decode cX2_farthest 39 = .ok (.invokevirtual 55, 3) := by decide +kernel
theorem dX2_farthest_42 : decode cX2_farthest 42 = .ok (.isub, 1) := by decide +kernel
theorem dX2_farthest_43 : decode cX2_farthest 43 = .ok (.invokestatic 59, 3) := by decide +kernel
theorem dX2_farthest_46 : decode cX2_farthest 46 = .ok (.istore 4, 2) := by decide +kernel
theorem dX2_farthest_48 : decode cX2_farthest 48 = .ok (.iload 4, 2) := by decide +kernel
theorem dX2_farthest_50 : decode cX2_farthest 50 = .ok (.iload_n 2, 1) := by decide +kernel
theorem dX2_farthest_51 : decode cX2_farthest 51 = .ok (.if_icmp .le 13, 3) := by decide +kernel
theorem dX2_farthest_54 : decode cX2_farthest 54 = .ok (.iload 4, 2) := by decide +kernel
theorem dX2_farthest_56 : decode cX2_farthest 56 = .ok (.istore_n 2, 1) := by decide +kernel
theorem dX2_farthest_57 : decode cX2_farthest 57 = .ok (.aload_n 0, 1) := by decide +kernel
theorem dX2_farthest_58 : decode cX2_farthest 58 = .ok (.getfield 18, 3) := by decide +kernel
theorem dX2_farthest_61 : decode cX2_farthest 61 = .ok (.iload_n 3, 1) := by decide +kernel
theorem dX2_farthest_62 : decode cX2_farthest 62 = .ok (.iaload, 1) := by decide +kernel
theorem dX2_farthest_63 : decode cX2_farthest 63 = .ok (.istore_n 1, 1) := by decide +kernel
theorem dX2_farthest_64 : decode cX2_farthest 64 = .ok (.iinc 3 1, 3) := by decide +kernel
theorem dX2_farthest_67 : decode cX2_farthest 67 = .ok (.goto (-61), 3) := by decide +kernel
theorem dX2_farthest_70 : decode cX2_farthest 70 = .ok (.iload_n 1, 1) := by decide +kernel
theorem dX2_farthest_71 : decode cX2_farthest 71 = .ok (.ireturn, 1) := by decide +kernel
theorem dX2_gatherMisses_0 : decode cX2_gatherMisses 0 = .ok (.aload_n 3, 1) := by decide +kernel
theorem dX2_gatherMisses_1 : decode cX2_gatherMisses 1 = .ok (.invokevirtual 65, 3) := by decide +kernel
theorem dX2_gatherMisses_4 : decode cX2_gatherMisses 4 = .ok (.iconst 0, 1) := by decide +kernel
theorem dX2_gatherMisses_5 : decode cX2_gatherMisses 5 = .ok (.istore 4, 2) := by decide +kernel
theorem dX2_gatherMisses_7 : decode cX2_gatherMisses 7 = .ok (.iload 4, 2) := by decide +kernel
theorem dX2_gatherMisses_9 : decode cX2_gatherMisses 9 = .ok (.aload_n 1, 1) := by decide +kernel
theorem dX2_gatherMisses_10 : decode cX2_gatherMisses 10 = .ok (.getfield 70, 3) := by decide +kernel
theorem dX2_gatherMisses_13 : decode cX2_gatherMisses 13 = .ok (.if_icmp .ge 83, 3) := by decide +kernel
theorem dX2_gatherMisses_16 : decode cX2_gatherMisses 16 = .ok (.aload_n 1, 1) := by decide +kernel
theorem dX2_gatherMisses_17 : decode cX2_gatherMisses 17 = .ok (.iload 4, 2) := by decide +kernel
theorem dX2_gatherMisses_19 : decode cX2_gatherMisses 19 = .ok (.iload_n 2, 1) := by decide +kernel
theorem dX2_gatherMisses_20 : decode cX2_gatherMisses 20 = .ok (.invokevirtual 74, 3) := by decide +kernel
theorem dX2_gatherMisses_23 : decode cX2_gatherMisses 23 = .ok (.ifCond .eq 67, 3) := by decide +kernel
theorem dX2_gatherMisses_26 : decode cX2_gatherMisses 26 = .ok (.aload_n 1, 1) := by decide +kernel
theorem dX2_gatherMisses_27 : decode cX2_gatherMisses 27 = .ok (.iload 4, 2) := by decide +kernel
theorem dX2_gatherMisses_29 : decode cX2_gatherMisses 29 = .ok (.bipush 13, 2) := by decide +kernel
theorem dX2_gatherMisses_31 : decode cX2_gatherMisses 31 = .ok (.invokevirtual 78, 3) := by decide +kernel
theorem dX2_gatherMisses_34 : decode cX2_gatherMisses 34 = .ok (.iconst 1, 1) := by decide +kernel
theorem dX2_gatherMisses_35 : decode cX2_gatherMisses 35 = .ok (.if_icmp .ne 55, 3) := by decide +kernel
theorem dX2_gatherMisses_38 : decode cX2_gatherMisses 38 = .ok (.aload_n 3, 1) := by decide +kernel
theorem dX2_gatherMisses_39 : decode cX2_gatherMisses 39 = .ok (.aload_n 1, 1) := by decide +kernel
theorem dX2_gatherMisses_40 : decode cX2_gatherMisses 40 = .ok (.iload 4, 2) := by decide +kernel
theorem dX2_gatherMisses_42 : decode cX2_gatherMisses 42 = .ok (.iconst 5, 1) := by decide +kernel
theorem dX2_gatherMisses_43 : decode cX2_gatherMisses 43 = .ok (.invokevirtual 78, 3) := by decide +kernel
theorem dX2_gatherMisses_46 : decode cX2_gatherMisses 46 = .ok (.aload_n 0, 1) := by decide +kernel
theorem dX2_gatherMisses_47 : decode cX2_gatherMisses 47 = .ok (.aload_n 1, 1) := by decide +kernel
theorem dX2_gatherMisses_48 : decode cX2_gatherMisses 48 = .ok (.iload 4, 2) := by decide +kernel
theorem dX2_gatherMisses_50 : decode cX2_gatherMisses 50 = .ok (.aload_n 0, 1) := by decide +kernel
theorem dX2_gatherMisses_51 : decode cX2_gatherMisses 51 = .ok (.getfield 15, 3) := by decide +kernel
theorem dX2_gatherMisses_54 : decode cX2_gatherMisses 54 = .ok (.iconst 0, 1) := by decide +kernel
theorem dX2_gatherMisses_55 : decode cX2_gatherMisses 55 = .ok (.iaload, 1) := by decide +kernel
theorem dX2_gatherMisses_56 : decode cX2_gatherMisses 56 = .ok (.invokevirtual 78, 3) := by decide +kernel
theorem dX2_gatherMisses_59 : decode cX2_gatherMisses 59 = .ok (.aload_n 1, 1) := by decide +kernel
theorem dX2_gatherMisses_60 : decode cX2_gatherMisses 60 = .ok (.iload 4, 2) := by decide +kernel
theorem dX2_gatherMisses_62 : decode cX2_gatherMisses 62 = .ok (.aload_n 0, 1) := by decide +kernel
theorem dX2_gatherMisses_63 : decode cX2_gatherMisses 63 = .ok (.getfield 15, 3) := by decide +kernel
theorem dX2_gatherMisses_66 : decode cX2_gatherMisses 66 = .ok (.iconst 1, 1) := by decide +kernel
theorem dX2_gatherMisses_67 : decode cX2_gatherMisses 67 = .ok (.iaload, 1) := by decide +kernel
theorem dX2_gatherMisses_68 : decode cX2_gatherMisses 68 = .ok (.invokevirtual 78, 3) := by decide +kernel
theorem dX2_gatherMisses_71 : decode cX2_gatherMisses 71 = .ok (.aload_n 1, 1) := by decide +kernel
theorem dX2_gatherMisses_72 : decode cX2_gatherMisses 72 = .ok (.iload 4, 2) := by decide +kernel
theorem dX2_gatherMisses_74 : decode cX2_gatherMisses 74 = .ok (.aload_n 0, 1) := by decide +kernel
theorem dX2_gatherMisses_75 : decode cX2_gatherMisses 75 = .ok (.getfield 15, 3) := by decide +kernel
theorem dX2_gatherMisses_78 : decode cX2_gatherMisses 78 = .ok (.iconst 2, 1) := by decide +kernel
theorem dX2_gatherMisses_79 : decode cX2_gatherMisses 79 = .ok (.iaload, 1) := by decide +kernel
theorem dX2_gatherMisses_80 : decode cX2_gatherMisses 80 = .ok (.invokevirtual 78, 3) := by decide +kernel
theorem dX2_gatherMisses_83 : decode cX2_gatherMisses 83 = .ok (.invokevirtual 55, 3) := by decide +kernel
theorem dX2_gatherMisses_86 : decode cX2_gatherMisses 86 = .ok (.isub, 1) := by decide +kernel
theorem dX2_gatherMisses_87 : decode cX2_gatherMisses 87 = .ok (.invokevirtual 82, 3) := by decide +kernel
theorem dX2_gatherMisses_90 : decode cX2_gatherMisses 90 = .ok (.iinc 4 1, 3) := by decide +kernel
theorem dX2_gatherMisses_93 : decode cX2_gatherMisses 93 = .ok (.goto (-86), 3) := by decide +kernel
theorem dX2_gatherMisses_96 : decode cX2_gatherMisses 96 = .ok (.return_, 1) := by decide +kernel
theorem dX2_gatherRuns_0 : decode cX2_gatherRuns 0 = .ok (.aload_n 0, 1) := by decide +kernel
theorem dX2_gatherRuns_1 : decode cX2_gatherRuns 1 = .ok (.iconst 0, 1) := by decide +kernel
theorem dX2_gatherRuns_2 : decode cX2_gatherRuns 2 = .ok (.putfield 51, 3) := by decide +kernel
theorem dX2_gatherRuns_5 : decode cX2_gatherRuns 5 = .ok (.iconst 0, 1) := by decide +kernel
theorem dX2_gatherRuns_6 : decode cX2_gatherRuns 6 = .ok (.istore_n 3, 1) := by decide +kernel
theorem dX2_gatherRuns_7 : decode cX2_gatherRuns 7 = .ok (.iload_n 3, 1) := by decide +kernel
theorem dX2_gatherRuns_8 : decode cX2_gatherRuns 8 = .ok (.aload_n 1, 1) := by decide +kernel
theorem dX2_gatherRuns_9 : decode cX2_gatherRuns 9 = .ok (.getfield 70, 3) := by decide +kernel
theorem dX2_gatherRuns_12 : decode cX2_gatherRuns 12 = .ok (.if_icmp .ge 133, 3) := by decide +kernel
theorem dX2_gatherRuns_15 : decode cX2_gatherRuns 15 = .ok (.aload_n 0, 1) := by decide +kernel
theorem dX2_gatherRuns_16 : decode cX2_gatherRuns 16 = .ok (.getfield 51, 3) := by decide +kernel
theorem dX2_gatherRuns_19 : decode cX2_gatherRuns 19 = .ok (.sipush 200, 3) := by decide +kernel
theorem dX2_gatherRuns_22 : decode cX2_gatherRuns 22 = .ok (.if_icmp .ge 123, 3) := by decide +kernel
theorem dX2_gatherRuns_25 : decode cX2_gatherRuns 25 = .ok (.aload_n 1, 1) := by decide +kernel
theorem dX2_gatherRuns_26 : decode cX2_gatherRuns 26 = .ok (.iload_n 3, 1) := by decide +kernel
theorem dX2_gatherRuns_27 : decode cX2_gatherRuns 27 = .ok (.iload_n 2, 1) := by decide +kernel
theorem dX2_gatherRuns_28 : decode cX2_gatherRuns 28 = .ok (.invokevirtual 74, 3) := by decide +kernel
theorem dX2_gatherRuns_31 : decode cX2_gatherRuns 31 = .ok (.ifCond .eq 108, 3) := by decide +kernel
theorem dX2_gatherRuns_34 : decode cX2_gatherRuns 34 = .ok (.aload_n 1, 1) := by decide +kernel
theorem dX2_gatherRuns_35 : decode cX2_gatherRuns 35 = .ok (.iload_n 3, 1) := by decide +kernel
theorem dX2_gatherRuns_36 : decode cX2_gatherRuns 36 = .ok (.bipush 13, 2) := by decide +kernel
theorem dX2_gatherRuns_38 : decode cX2_gatherRuns 38 = .ok (.invokevirtual 78, 3) := by decide +kernel
theorem dX2_gatherRuns_41 : decode cX2_gatherRuns 41 = .ok (.ifCond .ne 98, 3) := by decide +kernel
theorem dX2_gatherRuns_44 : decode cX2_gatherRuns 44 = .ok (.aload_n 0, 1) := by decide +kernel
theorem dX2_gatherRuns_45 : decode cX2_gatherRuns 45 = .ok (.getfield 18, 3) := by decide +kernel
theorem dX2_gatherRuns_48 : decode cX2_gatherRuns 48 = .ok (.aload_n 0, 1) := by decide +kernel
theorem dX2_gatherRuns_49 : decode cX2_gatherRuns 49 = .ok (.getfield 51, 3) := by decide +kernel
theorem dX2_gatherRuns_52 : decode cX2_gatherRuns 52 = .ok (.iload_n 3, 1) := by decide +kernel
theorem dX2_gatherRuns_53 : decode cX2_gatherRuns 53 = .ok (.iastore, 1) := by decide +kernel
theorem dX2_gatherRuns_54 : decode cX2_gatherRuns 54 = .ok (.aload_n 0, 1) := by decide +kernel
theorem dX2_gatherRuns_55 : decode cX2_gatherRuns 55 = .ok (.getfield 21, 3) := by decide +kernel
theorem dX2_gatherRuns_58 : decode cX2_gatherRuns 58 = .ok (.aload_n 0, 1) := by decide +kernel
theorem dX2_gatherRuns_59 : decode cX2_gatherRuns 59 = .ok (.getfield 51, 3) := by decide +kernel
theorem dX2_gatherRuns_62 : decode cX2_gatherRuns 62 = .ok (.aload_n 1, 1) := by decide +kernel
theorem dX2_gatherRuns_63 : decode cX2_gatherRuns 63 = .ok (.iload_n 3, 1) := by decide +kernel
theorem dX2_gatherRuns_64 : decode cX2_gatherRuns 64 = .ok (.aload_n 0, 1) := by decide +kernel
theorem dX2_gatherRuns_65 : decode cX2_gatherRuns 65 = .ok (.getfield 15, 3) := by decide +kernel
theorem dX2_gatherRuns_68 : decode cX2_gatherRuns 68 = .ok (.iconst 0, 1) := by decide +kernel
theorem dX2_gatherRuns_69 : decode cX2_gatherRuns 69 = .ok (.iaload, 1) := by decide +kernel
theorem dX2_gatherRuns_70 : decode cX2_gatherRuns 70 = .ok (.invokevirtual 78, 3) := by decide +kernel
theorem dX2_gatherRuns_73 : decode cX2_gatherRuns 73 = .ok (.iastore, 1) := by decide +kernel
theorem dX2_gatherRuns_74 : decode cX2_gatherRuns 74 = .ok (.aload_n 0, 1) := by decide +kernel
theorem dX2_gatherRuns_75 : decode cX2_gatherRuns 75 = .ok (.getfield 24, 3) := by decide +kernel
theorem dX2_gatherRuns_78 : decode cX2_gatherRuns 78 = .ok (.aload_n 0, 1) := by decide +kernel
theorem dX2_gatherRuns_79 : decode cX2_gatherRuns 79 = .ok (.getfield 51, 3) := by decide +kernel
theorem dX2_gatherRuns_82 : decode cX2_gatherRuns 82 = .ok (.aload_n 1, 1) := by decide +kernel
theorem dX2_gatherRuns_83 : decode cX2_gatherRuns 83 = .ok (.iload_n 3, 1) := by decide +kernel
theorem dX2_gatherRuns_84 : decode cX2_gatherRuns 84 = .ok (.aload_n 0, 1) := by decide +kernel
theorem dX2_gatherRuns_85 : decode cX2_gatherRuns 85 = .ok (.getfield 15, 3) := by decide +kernel
theorem dX2_gatherRuns_88 : decode cX2_gatherRuns 88 = .ok (.iconst 1, 1) := by decide +kernel
theorem dX2_gatherRuns_89 : decode cX2_gatherRuns 89 = .ok (.iaload, 1) := by decide +kernel
theorem dX2_gatherRuns_90 : decode cX2_gatherRuns 90 = .ok (.invokevirtual 78, 3) := by decide +kernel
theorem dX2_gatherRuns_93 : decode cX2_gatherRuns 93 = .ok (.iastore, 1) := by decide +kernel
theorem dX2_gatherRuns_94 : decode cX2_gatherRuns 94 = .ok (.aload_n 0, 1) := by decide +kernel
theorem dX2_gatherRuns_95 : decode cX2_gatherRuns 95 = .ok (.getfield 27, 3) := by decide +kernel
theorem dX2_gatherRuns_98 : decode cX2_gatherRuns 98 = .ok (.aload_n 0, 1) := by decide +kernel
theorem dX2_gatherRuns_99 : decode cX2_gatherRuns 99 = .ok (.getfield 51, 3) := by decide +kernel
theorem dX2_gatherRuns_102 : decode cX2_gatherRuns 102 = .ok (.aload_n 1, 1) := by decide +kernel
theorem dX2_gatherRuns_103 : decode cX2_gatherRuns 103 = .ok (.iload_n 3, 1) := by decide +kernel
theorem dX2_gatherRuns_104 : decode cX2_gatherRuns 104 = .ok (.aload_n 0, 1) := by decide +kernel
theorem dX2_gatherRuns_105 : decode cX2_gatherRuns 105 = .ok (.getfield 15, 3) := by decide +kernel
theorem dX2_gatherRuns_108 : decode cX2_gatherRuns 108 = .ok (.iconst 2, 1) := by decide +kernel
theorem dX2_gatherRuns_109 : decode cX2_gatherRuns 109 = .ok (.iaload, 1) := by decide +kernel
theorem dX2_gatherRuns_110 : decode cX2_gatherRuns 110 = .ok (.invokevirtual 78, 3) := by decide +kernel
theorem dX2_gatherRuns_113 : decode cX2_gatherRuns 113 = .ok (.iastore, 1) := by decide +kernel
theorem dX2_gatherRuns_114 : decode cX2_gatherRuns 114 = .ok (.aload_n 0, 1) := by decide +kernel
theorem dX2_gatherRuns_115 : decode cX2_gatherRuns 115 = .ok (.getfield 30, 3) := by decide +kernel
theorem dX2_gatherRuns_118 : decode cX2_gatherRuns 118 = .ok (.aload_n 0, 1) := by decide +kernel
theorem dX2_gatherRuns_119 : decode cX2_gatherRuns 119 = .ok (.getfield 51, 3) := by decide +kernel
theorem dX2_gatherRuns_122 : decode cX2_gatherRuns 122 = .ok (.aload_n 1, 1) := by decide +kernel
theorem dX2_gatherRuns_123 : decode cX2_gatherRuns 123 = .ok (.iload_n 3, 1) := by decide +kernel
theorem dX2_gatherRuns_124 : decode cX2_gatherRuns 124 = .ok (.iconst 5, 1) := by decide +kernel
theorem dX2_gatherRuns_125 : decode cX2_gatherRuns 125 = .ok (.invokevirtual 78, 3) := by decide +kernel
theorem dX2_gatherRuns_128 : decode cX2_gatherRuns 128 = .ok (.iastore, 1) := by decide +kernel
theorem dX2_gatherRuns_129 : decode cX2_gatherRuns 129 = .ok (.aload_n 0, 1) := by decide +kernel
theorem dX2_gatherRuns_130 : decode cX2_gatherRuns 130 = .ok (.dup, 1) := by decide +kernel
theorem dX2_gatherRuns_131 : decode cX2_gatherRuns 131 = .ok (.getfield 51, 3) := by decide +kernel
theorem dX2_gatherRuns_134 : decode cX2_gatherRuns 134 = .ok (.iconst 1, 1) := by decide +kernel
theorem dX2_gatherRuns_135 : decode cX2_gatherRuns 135 = .ok (.iadd, 1) := by decide +kernel
theorem dX2_gatherRuns_136 : decode cX2_gatherRuns 136 = .ok (.putfield 51, 3) := by decide +kernel
theorem dX2_gatherRuns_139 : decode cX2_gatherRuns 139 = .ok (.iinc 3 1, 3) := by decide +kernel
theorem dX2_gatherRuns_142 : decode cX2_gatherRuns 142 = .ok (.goto (-135), 3) := by decide +kernel
theorem dX2_gatherRuns_145 : decode cX2_gatherRuns 145 = .ok (.return_, 1) := by decide +kernel
theorem dX2_take_0 : decode cX2_take 0 = .ok (.aload_n 0, 1) := by decide +kernel
theorem dX2_take_1 : decode cX2_take 1 = .ok (.getfield 9, 3) := by decide +kernel
theorem dX2_take_4 : decode cX2_take 4 = .ok (.iconst 0, 1) := by decide +kernel
theorem dX2_take_5 : decode cX2_take 5 = .ok (.iload_n 1, 1) := by decide +kernel
theorem dX2_take_6 : decode cX2_take 6 = .ok (.iastore, 1) := by decide +kernel
theorem dX2_take_7 : decode cX2_take 7 = .ok (.aload_n 0, 1) := by decide +kernel
theorem dX2_take_8 : decode cX2_take 8 = .ok (.getfield 9, 3) := by decide +kernel
theorem dX2_take_11 : decode cX2_take 11 = .ok (.iconst 1, 1) := by decide +kernel
theorem dX2_take_12 : decode cX2_take 12 = .ok (.iload_n 2, 1) := by decide +kernel
theorem dX2_take_13 : decode cX2_take 13 = .ok (.iastore, 1) := by decide +kernel
theorem dX2_take_14 : decode cX2_take 14 = .ok (.aload_n 0, 1) := by decide +kernel
theorem dX2_take_15 : decode cX2_take 15 = .ok (.getfield 9, 3) := by decide +kernel
theorem dX2_take_18 : decode cX2_take 18 = .ok (.iconst 2, 1) := by decide +kernel
theorem dX2_take_19 : decode cX2_take 19 = .ok (.iload_n 3, 1) := by decide +kernel
theorem dX2_take_20 : decode cX2_take 20 = .ok (.iastore, 1) := by decide +kernel
theorem dX2_take_21 : decode cX2_take 21 = .ok (.aload_n 0, 1) := by decide +kernel
theorem dX2_take_22 : decode cX2_take 22 = .ok (.lload 4, 2) := by decide +kernel
theorem dX2_take_24 : decode cX2_take 24 = .ok (.putfield 43, 3) := by decide +kernel
theorem dX2_take_27 : decode cX2_take 27 = .ok (.return_, 1) := by decide +kernel
theorem dX2_farness_0 : decode cX2_farness 0 = .ok (.lconst 0, 1) := by decide +kernel
theorem dX2_farness_1 : decode cX2_farness 1 = .ok (.lstore 6, 2) := by decide +kernel
theorem dX2_farness_3 : decode cX2_farness 3 = .ok (.iconst 0, 1) := by decide +kernel
theorem dX2_farness_4 : decode cX2_farness 4 = .ok (.istore 8, 2) := by decide +kernel
theorem dX2_farness_6 : decode cX2_farness 6 = .ok (.iload 8, 2) := by decide +kernel
theorem dX2_farness_8 : decode cX2_farness 8 = .ok (.aload_n 0, 1) := by decide +kernel
theorem dX2_farness_9 : decode cX2_farness 9 = .ok (.getfield 51, 3) := by decide +kernel
theorem dX2_farness_12 : decode cX2_farness 12 = .ok (.if_icmp .ge 63, 3) := by decide +kernel
theorem dX2_farness_15 : decode cX2_farness 15 = .ok (.lload 6, 2) := by decide +kernel
theorem dX2_farness_17 : decode cX2_farness 17 = .ok (.lload 4, 2) := by decide +kernel
theorem dX2_farness_19 : decode cX2_farness 19 = .ok (.lcmp, 1) := by decide +kernel
theorem dX2_farness_20 : decode cX2_farness 20 = .ok (.ifCond .ge 55, 3) := by decide +kernel
theorem dX2_farness_23 : decode cX2_farness 23 = .ok (.lload 6, 2) := by decide +kernel
theorem dX2_farness_25 : decode cX2_farness 25 = .ok (.aload_n 0, 1) := by decide +kernel
theorem dX2_farness_26 : decode cX2_farness 26 = .ok (.getfield 30, 3) := by decide +kernel
theorem dX2_farness_29 : decode cX2_farness 29 = .ok (.iload 8, 2) := by decide +kernel
theorem dX2_farness_31 : decode cX2_farness 31 = .ok (.iaload, 1) := by decide +kernel
theorem dX2_farness_32 : decode cX2_farness 32 = .ok (.iload_n 1, 1) := by decide +kernel
theorem dX2_farness_33 : decode cX2_farness 33 = .ok (.aload_n 0, 1) := by decide +kernel
theorem dX2_farness_34 : decode cX2_farness 34 = .ok (.getfield 21, 3) := by decide +kernel
theorem dX2_farness_37 : decode cX2_farness 37 = .ok (.iload 8, 2) := by decide +kernel
theorem dX2_farness_39 : decode cX2_farness 39 = .ok (.iaload, 1) := by decide +kernel
theorem dX2_farness_40 : decode cX2_farness 40 = .ok (.imul, 1) := by decide +kernel
theorem dX2_farness_41 : decode cX2_farness 41 = .ok (.isub, 1) := by decide +kernel
theorem dX2_farness_42 : decode cX2_farness 42 = .ok (.iload_n 2, 1) := by decide +kernel
theorem dX2_farness_43 : decode cX2_farness 43 = .ok (.aload_n 0, 1) := by decide +kernel
theorem dX2_farness_44 : decode cX2_farness 44 = .ok (.getfield 24, 3) := by decide +kernel
theorem dX2_farness_47 : decode cX2_farness 47 = .ok (.iload 8, 2) := by decide +kernel
theorem dX2_farness_49 : decode cX2_farness 49 = .ok (.iaload, 1) := by decide +kernel
theorem dX2_farness_50 : decode cX2_farness 50 = .ok (.imul, 1) := by decide +kernel
theorem dX2_farness_51 : decode cX2_farness 51 = .ok (.isub, 1) := by decide +kernel
theorem dX2_farness_52 : decode cX2_farness 52 = .ok (.iload_n 3, 1) := by decide +kernel
theorem dX2_farness_53 : decode cX2_farness 53 = .ok (.aload_n 0, 1) := by decide +kernel
theorem dX2_farness_54 : decode cX2_farness 54 = .ok (.getfield 27, 3) := by decide +kernel
theorem dX2_farness_57 : decode cX2_farness 57 = .ok (.iload 8, 2) := by decide +kernel
theorem dX2_farness_59 : decode cX2_farness 59 = .ok (.iaload, 1) := by decide +kernel
theorem dX2_farness_60 : decode cX2_farness 60 = .ok (.imul, 1) := by decide +kernel
theorem dX2_farness_61 : decode cX2_farness 61 = .ok (.isub, 1) := by decide +kernel
theorem dX2_farness_62 : decode cX2_farness 62 = .ok (.invokestatic 59, 3) := by decide +kernel
theorem dX2_farness_65 : decode cX2_farness 65 = .ok (.i2l, 1) := by decide +kernel
theorem dX2_farness_66 : decode cX2_farness 66 = .ok (.ladd, 1) := by decide +kernel
theorem dX2_farness_67 : decode cX2_farness 67 = .ok (.lstore 6, 2) := by decide +kernel
theorem dX2_farness_69 : decode cX2_farness 69 = .ok (.iinc 8 1, 3) := by decide +kernel
theorem dX2_farness_72 : decode cX2_farness 72 = .ok (.goto (-66), 3) := by decide +kernel
theorem dX2_farness_75 : decode cX2_farness 75 = .ok (.lload 6, 2) := by decide +kernel
theorem dX2_farness_77 : decode cX2_farness 77 = .ok (.lreturn, 1) := by decide +kernel
theorem dX3_init_0 : decode cX3_init 0 = .ok (.aload_n 0, 1) := by decide +kernel
theorem dX3_init_1 : decode cX3_init 1 = .ok (.invokespecial 3, 3) := by decide +kernel
theorem dX3_init_4 : decode cX3_init 4 = .ok (.aload_n 0, 1) := by decide +kernel
theorem dX3_init_5 : decode cX3_init 5 = .ok (.bipush 8, 2) := by decide +kernel
theorem dX3_init_7 : decode cX3_init 7 = .ok (.newarray .int, 2) := by decide +kernel
theorem dX3_init_9 : decode cX3_init 9 = .ok (.putfield 9, 3) := by decide +kernel
theorem dX3_init_12 : decode cX3_init 12 = .ok (.aload_n 0, 1) := by decide +kernel
theorem dX3_init_13 : decode cX3_init 13 = .ok (.iconst 4, 1) := by decide +kernel
theorem dX3_init_14 : decode cX3_init 14 = .ok (.putfield 15, 3) := by decide +kernel
theorem dX3_init_17 : decode cX3_init 17 = .ok (.aload_n 0, 1) := by decide +kernel
theorem dX3_init_18 : decode cX3_init 18 = .ok (.iconst 4, 1) := by decide +kernel
theorem dX3_init_19 : decode cX3_init 19 = .ok (.putfield 19, 3) := by decide +kernel
theorem dX3_init_22 : decode cX3_init 22 = .ok (.aload_n 0, 1) := by decide +kernel
theorem dX3_init_23 : decode cX3_init 23 = .ok (.bipush 10, 2) := by decide +kernel
theorem dX3_init_25 : decode cX3_init 25 = .ok (.putfield 22, 3) := by decide +kernel
theorem dX3_init_28 : decode cX3_init 28 = .ok (.aload_n 0, 1) := by decide +kernel
theorem dX3_init_29 : decode cX3_init 29 = .ok (.bipush 16, 2) := by decide +kernel
theorem dX3_init_31 : decode cX3_init 31 = .ok (.newarray .int, 2) := by decide +kernel
theorem dX3_init_33 : decode cX3_init 33 = .ok (.putfield 25, 3) := by decide +kernel
theorem dX3_init_36 : decode cX3_init 36 = .ok (.aload_n 0, 1) := by decide +kernel
theorem dX3_init_37 : decode cX3_init 37 = .ok (.iconst 4, 1) := by decide +kernel
theorem dX3_init_38 : decode cX3_init 38 = .ok (.putfield 28, 3) := by decide +kernel
theorem dX3_init_41 : decode cX3_init 41 = .ok (.aload_n 0, 1) := by decide +kernel
theorem dX3_init_42 : decode cX3_init 42 = .ok (.iconst 5, 1) := by decide +kernel
theorem dX3_init_43 : decode cX3_init 43 = .ok (.putfield 31, 3) := by decide +kernel
theorem dX3_init_46 : decode cX3_init 46 = .ok (.aload_n 0, 1) := by decide +kernel
theorem dX3_init_47 : decode cX3_init 47 = .ok (.bipush 16, 2) := by decide +kernel
theorem dX3_init_49 : decode cX3_init 49 = .ok (.newarray .int, 2) := by decide +kernel
theorem dX3_init_51 : decode cX3_init 51 = .ok (.putfield 34, 3) := by decide +kernel
theorem dX3_init_54 : decode cX3_init 54 = .ok (.aload_n 0, 1) := by decide +kernel
theorem dX3_init_55 : decode cX3_init 55 = .ok (.getfield 9, 3) := by decide +kernel
theorem dX3_init_58 : decode cX3_init 58 = .ok (.iconst 1, 1) := by decide +kernel
theorem dX3_init_59 : decode cX3_init 59 = .ok (.invokestatic 37, 3) := by decide +kernel
theorem dX3_init_62 : decode cX3_init 62 = .ok (.aload_n 0, 1) := by decide +kernel
theorem dX3_init_63 : decode cX3_init 63 = .ok (.getfield 25, 3) := by decide +kernel
theorem dX3_init_66 : decode cX3_init 66 = .ok (.iconst (-1), 1) := by decide +kernel
theorem dX3_init_67 : decode cX3_init 67 = .ok (.invokestatic 37, 3) := by decide +kernel
theorem dX3_init_70 : decode cX3_init 70 = .ok (.return_, 1) := by decide +kernel
theorem dX3_takeFrom_0 : decode cX3_takeFrom 0 = .ok (.aload_n 1, 1) := by decide +kernel
theorem dX3_takeFrom_1 : decode cX3_takeFrom 1 = .ok (.getfield 9, 3) := by decide +kernel
theorem dX3_takeFrom_4 : decode cX3_takeFrom 4 = .ok (.iconst 0, 1) := by decide +kernel
theorem dX3_takeFrom_5 : decode cX3_takeFrom 5 = .ok (.aload_n 0, 1) := by decide +kernel
theorem dX3_takeFrom_6 : decode cX3_takeFrom 6 = .ok (.getfield 9, 3) := by decide +kernel
theorem dX3_takeFrom_9 : decode cX3_takeFrom 9 = .ok (.iconst 0, 1) := by decide +kernel
theorem dX3_takeFrom_10 : decode cX3_takeFrom 10 = .ok (.aload_n 0, 1) := by decide +kernel
theorem dX3_takeFrom_11 : decode cX3_takeFrom 11 = .ok (.getfield 9, 3) := by decide +kernel
theorem dX3_takeFrom_14 : decode cX3_takeFrom 14 = .ok (.arraylength, 1) := by decide +kernel
theorem dX3_takeFrom_15 : decode cX3_takeFrom 15 = .ok (.invokestatic 43, 3) := by decide +kernel
theorem dX3_takeFrom_18 : decode cX3_takeFrom 18 = .ok (.aload_n 0, 1) := by decide +kernel
theorem dX3_takeFrom_19 : decode cX3_takeFrom 19 = .ok (.aload_n 1, 1) := by decide +kernel
theorem dX3_takeFrom_20 : decode cX3_takeFrom 20 = .ok (.getfield 15, 3) := by decide +kernel
theorem dX3_takeFrom_23 : decode cX3_takeFrom 23 = .ok (.putfield 15, 3) := by decide +kernel
theorem dX3_takeFrom_26 : decode cX3_takeFrom 26 = .ok (.aload_n 0, 1) := by decide +kernel
theorem dX3_takeFrom_27 : decode cX3_takeFrom 27 = .ok (.aload_n 1, 1) := by decide +kernel
theorem dX3_takeFrom_28 : decode cX3_takeFrom 28 = .ok (.getfield 19, 3) := by decide +kernel
theorem dX3_takeFrom_31 : decode cX3_takeFrom 31 = .ok (.putfield 19, 3) := by decide +kernel
theorem dX3_takeFrom_34 : decode cX3_takeFrom 34 = .ok (.aload_n 0, 1) := by decide +kernel
theorem dX3_takeFrom_35 : decode cX3_takeFrom 35 = .ok (.aload_n 1, 1) := by decide +kernel
theorem dX3_takeFrom_36 : decode cX3_takeFrom 36 = .ok (.getfield 22, 3) := by decide +kernel
theorem dX3_takeFrom_39 : decode cX3_takeFrom 39 = .ok (.putfield 22, 3) := by decide +kernel
theorem dX3_takeFrom_42 : decode cX3_takeFrom 42 = .ok (.aload_n 1, 1) := by decide +kernel
theorem dX3_takeFrom_43 : decode cX3_takeFrom 43 = .ok (.getfield 25, 3) := by decide +kernel
theorem dX3_takeFrom_46 : decode cX3_takeFrom 46 = .ok (.iconst 0, 1) := by decide +kernel
theorem dX3_takeFrom_47 : decode cX3_takeFrom 47 = .ok (.aload_n 0, 1) := by decide +kernel
theorem dX3_takeFrom_48 : decode cX3_takeFrom 48 = .ok (.getfield 25, 3) := by decide +kernel
theorem dX3_takeFrom_51 : decode cX3_takeFrom 51 = .ok (.iconst 0, 1) := by decide +kernel
theorem dX3_takeFrom_52 : decode cX3_takeFrom 52 = .ok (.aload_n 0, 1) := by decide +kernel
theorem dX3_takeFrom_53 : decode cX3_takeFrom 53 = .ok (.getfield 25, 3) := by decide +kernel
theorem dX3_takeFrom_56 : decode cX3_takeFrom 56 = .ok (.arraylength, 1) := by decide +kernel
theorem dX3_takeFrom_57 : decode cX3_takeFrom 57 = .ok (.invokestatic 43, 3) := by decide +kernel
theorem dX3_takeFrom_60 : decode cX3_takeFrom 60 = .ok (.aload_n 0, 1) := by decide +kernel
theorem dX3_takeFrom_61 : decode cX3_takeFrom 61 = .ok (.aload_n 1, 1) := by decide +kernel
theorem dX3_takeFrom_62 : decode cX3_takeFrom 62 = .ok (.getfield 28, 3) := by decide +kernel
theorem dX3_takeFrom_65 : decode cX3_takeFrom 65 = .ok (.putfield 28, 3) := by decide +kernel
theorem dX3_takeFrom_68 : decode cX3_takeFrom 68 = .ok (.aload_n 0, 1) := by decide +kernel
theorem dX3_takeFrom_69 : decode cX3_takeFrom 69 = .ok (.aload_n 1, 1) := by decide +kernel
theorem dX3_takeFrom_70 : decode cX3_takeFrom 70 = .ok (.getfield 31, 3) := by decide +kernel
theorem dX3_takeFrom_73 : decode cX3_takeFrom 73 = .ok (.putfield 31, 3) := by decide +kernel
theorem dX3_takeFrom_76 : decode cX3_takeFrom 76 = .ok (.aload_n 1, 1) := by decide +kernel
theorem dX3_takeFrom_77 : decode cX3_takeFrom 77 = .ok (.getfield 34, 3) := by decide +kernel
theorem dX3_takeFrom_80 : decode cX3_takeFrom 80 = .ok (.iconst 0, 1) := by decide +kernel
theorem dX3_takeFrom_81 : decode cX3_takeFrom 81 = .ok (.aload_n 0, 1) := by decide +kernel
theorem dX3_takeFrom_82 : decode cX3_takeFrom 82 = .ok (.getfield 34, 3) := by decide +kernel
theorem dX3_takeFrom_85 : decode cX3_takeFrom 85 = .ok (.iconst 0, 1) := by decide +kernel
theorem dX3_takeFrom_86 : decode cX3_takeFrom 86 = .ok (.aload_n 0, 1) := by decide +kernel
theorem dX3_takeFrom_87 : decode cX3_takeFrom 87 = .ok (.getfield 34, 3) := by decide +kernel
theorem dX3_takeFrom_90 : decode cX3_takeFrom 90 = .ok (.arraylength, 1) := by decide +kernel
theorem dX3_takeFrom_91 : decode cX3_takeFrom 91 = .ok (.invokestatic 43, 3) := by decide +kernel
theorem dX3_takeFrom_94 : decode cX3_takeFrom 94 = .ok (.aload_n 0, 1) := by decide +kernel
theorem dX3_takeFrom_95 : decode cX3_takeFrom 95 = .ok (.aload_n 1, 1) := by decide +kernel
theorem dX3_takeFrom_96 : decode cX3_takeFrom 96 = .ok (.getfield 49, 3) := by decide +kernel
theorem dX3_takeFrom_99 : decode cX3_takeFrom 99 = .ok (.putfield 49, 3) := by decide +kernel
theorem dX3_takeFrom_102 : decode cX3_takeFrom 102 = .ok (.aload_n 0, 1) := by decide +kernel
theorem dX3_takeFrom_103 : decode cX3_takeFrom 103 = .ok (.aload_n 1, 1) := by decide +kernel
theorem dX3_takeFrom_104 : decode cX3_takeFrom 104 = .ok (.getfield 52, 3) := by decide +kernel
theorem dX3_takeFrom_107 : decode cX3_takeFrom 107 = .ok (.putfield 52, 3) := by decide +kernel
theorem dX3_takeFrom_110 : decode cX3_takeFrom 110 = .ok (.aload_n 0, 1) := by decide +kernel
theorem dX3_takeFrom_111 : decode cX3_takeFrom 111 = .ok (.aload_n 1, 1) := by decide +kernel
theorem dX3_takeFrom_112 : decode cX3_takeFrom 112 = .ok (.getfield 55, 3) := by decide +kernel
theorem dX3_takeFrom_115 : decode cX3_takeFrom 115 = .ok (.putfield 55, 3) := by decide +kernel
theorem dX3_takeFrom_118 : decode cX3_takeFrom 118 = .ok (.aload_n 0, 1) := by decide +kernel
theorem dX3_takeFrom_119 : decode cX3_takeFrom 119 = .ok (.aload_n 1, 1) := by decide +kernel
theorem dX3_takeFrom_120 : decode cX3_takeFrom 120 = .ok (.getfield 58, 3) := by decide +kernel
theorem dX3_takeFrom_123 : decode cX3_takeFrom 123 = .ok (.putfield 58, 3) := by decide +kernel
theorem dX3_takeFrom_126 : decode cX3_takeFrom 126 = .ok (.return_, 1) := by decide +kernel
theorem dX3_tellCache_0 : decode cX3_tellCache 0 = .ok (.iload_n 1, 1) := by decide +kernel
theorem dX3_tellCache_1 : decode cX3_tellCache 1 = .ok (.aload_n 0, 1) := by decide +kernel
theorem dX3_tellCache_2 : decode cX3_tellCache 2 = .ok (.getfield 15, 3) := by decide +kernel
theorem dX3_tellCache_5 : decode cX3_tellCache 5 = .ok (.if_icmp .ne 11, 3) := by decide +kernel
theorem dX3_tellCache_8 : decode cX3_tellCache 8 = .ok (.iload_n 2, 1) := by decide +kernel
theorem dX3_tellCache_9 : decode cX3_tellCache 9 = .ok (.aload_n 0, 1) := by decide +kernel
theorem dX3_tellCache_10 : decode cX3_tellCache 10 = .ok (.getfield 19, 3) := by decide +kernel
theorem dX3_tellCache_13 : decode cX3_tellCache 13 = .ok (.if_icmp .eq 11, 3) := by decide +kernel
theorem dX3_tellCache_16 : decode cX3_tellCache 16 = .ok (.aload_n 0, 1) := by decide +kernel
theorem dX3_tellCache_17 : decode cX3_tellCache 17 = .ok (.getfield 25, 3) := by decide +kernel
theorem dX3_tellCache_20 : decode cX3_tellCache 20 = .ok (.iconst (-1), 1) := by decide +kernel
theorem dX3_tellCache_21 : decode cX3_tellCache 21 = .ok (.invokestatic 37, 3) := by decide +kernel
theorem dX3_tellCache_24 : decode cX3_tellCache 24 = .ok (.aload_n 0, 1) := by decide +kernel
theorem dX3_tellCache_25 : decode cX3_tellCache 25 = .ok (.iload_n 1, 1) := by decide +kernel
theorem dX3_tellCache_26 : decode cX3_tellCache 26 = .ok (.putfield 15, 3) := by decide +kernel
theorem dX3_tellCache_29 : decode cX3_tellCache 29 = .ok (.aload_n 0, 1) := by decide +kernel
theorem dX3_tellCache_30 : decode cX3_tellCache 30 = .ok (.iload_n 2, 1) := by decide +kernel
theorem dX3_tellCache_31 : decode cX3_tellCache 31 = .ok (.putfield 19, 3) := by decide +kernel
theorem dX3_tellCache_34 : decode cX3_tellCache 34 = .ok (.aload_n 0, 1) := by decide +kernel
theorem dX3_tellCache_35 : decode cX3_tellCache 35 = .ok (.iload_n 3, 1) := by decide +kernel
theorem dX3_tellCache_36 : decode cX3_tellCache 36 = .ok (.putfield 22, 3) := by decide +kernel
theorem dX3_tellCache_39 : decode cX3_tellCache 39 = .ok (.return_, 1) := by decide +kernel
theorem dX3_tellGuesses_0 : decode cX3_tellGuesses 0 = .ok (.iload_n 1, 1) := by decide +kernel
theorem dX3_tellGuesses_1 : decode cX3_tellGuesses 1 = .ok (.aload_n 0, 1) := by decide +kernel
theorem dX3_tellGuesses_2 : decode cX3_tellGuesses 2 = .ok (.getfield 28, 3) := by decide +kernel
theorem dX3_tellGuesses_5 : decode cX3_tellGuesses 5 = .ok (.if_icmp .eq 11, 3) := by decide +kernel
theorem dX3_tellGuesses_8 : decode cX3_tellGuesses 8 = .ok (.aload_n 0, 1) := by decide +kernel
theorem dX3_tellGuesses_9 : decode cX3_tellGuesses 9 = .ok (.getfield 34, 3) := by decide +kernel
theorem dX3_tellGuesses_12 : decode cX3_tellGuesses 12 = .ok (.iconst 0, 1) := by decide +kernel
theorem dX3_tellGuesses_13 : decode cX3_tellGuesses 13 = .ok (.invokestatic 37, 3) := by decide +kernel
theorem dX3_tellGuesses_16 : decode cX3_tellGuesses 16 = .ok (.aload_n 0, 1) := by decide +kernel
theorem dX3_tellGuesses_17 : decode cX3_tellGuesses 17 = .ok (.iload_n 1, 1) := by decide +kernel
theorem dX3_tellGuesses_18 : decode cX3_tellGuesses 18 = .ok (.putfield 28, 3) := by decide +kernel
theorem dX3_tellGuesses_21 : decode cX3_tellGuesses 21 = .ok (.aload_n 0, 1) := by decide +kernel
theorem dX3_tellGuesses_22 : decode cX3_tellGuesses 22 = .ok (.iload_n 2, 1) := by decide +kernel
theorem dX3_tellGuesses_23 : decode cX3_tellGuesses 23 = .ok (.putfield 31, 3) := by decide +kernel
theorem dX3_tellGuesses_26 : decode cX3_tellGuesses 26 = .ok (.return_, 1) := by decide +kernel
theorem dX3_tellNoise_0 : decode cX3_tellNoise 0 = .ok (.aload_n 0, 1) := by decide +kernel
theorem dX3_tellNoise_1 : decode cX3_tellNoise 1 = .ok (.iload_n 1, 1) := by decide +kernel
theorem dX3_tellNoise_2 : decode cX3_tellNoise 2 = .ok (.putfield 49, 3) := by decide +kernel
theorem dX3_tellNoise_5 : decode cX3_tellNoise 5 = .ok (.aload_n 0, 1) := by decide +kernel
theorem dX3_tellNoise_6 : decode cX3_tellNoise 6 = .ok (.iload_n 2, 1) := by decide +kernel
theorem dX3_tellNoise_7 : decode cX3_tellNoise 7 = .ok (.putfield 52, 3) := by decide +kernel
theorem dX3_tellNoise_10 : decode cX3_tellNoise 10 = .ok (.aload_n 0, 1) := by decide +kernel
theorem dX3_tellNoise_11 : decode cX3_tellNoise 11 = .ok (.iload_n 3, 1) := by decide +kernel
theorem dX3_tellNoise_12 : decode cX3_tellNoise 12 = .ok (.putfield 55, 3) := by decide +kernel
theorem dX3_tellNoise_15 : decode cX3_tellNoise 15 = .ok (.aload_n 0, 1) := by decide +kernel
theorem dX3_tellNoise_16 : decode cX3_tellNoise 16 = .ok (.iload 4, 2) := by decide +kernel
theorem dX3_tellNoise_18 : decode cX3_tellNoise 18 = .ok (.putfield 58, 3) := by decide +kernel
theorem dX3_tellNoise_21 : decode cX3_tellNoise 21 = .ok (.return_, 1) := by decide +kernel
theorem dX3_placeBy_0 : decode cX3_placeBy 0 = .ok (.aload_n 0, 1) := by decide +kernel
theorem dX3_placeBy_1 : decode cX3_placeBy 1 = .ok (.getfield 58, 3) := by decide +kernel
theorem dX3_placeBy_4 : decode cX3_placeBy 4 = .ok (.ifCond .eq 18, 3) := by decide +kernel
theorem dX3_placeBy_7 : decode cX3_placeBy 7 = .ok (.iload_n 1, 1) := by decide +kernel
theorem dX3_placeBy_8 : decode cX3_placeBy 8 = .ok (.invokestatic 62, 3) := by decide +kernel
theorem dX3_placeBy_11 : decode cX3_placeBy 11 = .ok (.invokestatic 66, 3) := by decide +kernel
theorem dX3_placeBy_14 : decode cX3_placeBy 14 = .ok (.bipush 64, 2) := by decide +kernel
theorem dX3_placeBy_16 : decode cX3_placeBy 16 = .ok (.invokestatic 69, 3) := by decide +kernel
theorem dX3_placeBy_19 : decode cX3_placeBy 19 = .ok (.goto 4, 3) := by decide +kernel
theorem dX3_placeBy_22 : decode cX3_placeBy 22 = .ok (.iconst 0, 1) := by decide +kernel
theorem dX3_placeBy_23 : decode cX3_placeBy 23 = .ok (.ireturn, 1) := by decide +kernel
theorem dX3_noiseBy_0 : decode cX3_noiseBy 0 = .ok (.aload_n 0, 1) := by decide +kernel
theorem dX3_noiseBy_1 : decode cX3_noiseBy 1 = .ok (.getfield 55, 3) := by decide +kernel
theorem dX3_noiseBy_4 : decode cX3_noiseBy 4 = .ok (.ifCond .le 27, 3) := by decide +kernel
theorem dX3_noiseBy_7 : decode cX3_noiseBy 7 = .ok (.iload_n 1, 1) := by decide +kernel
theorem dX3_noiseBy_8 : decode cX3_noiseBy 8 = .ok (.invokestatic 62, 3) := by decide +kernel
theorem dX3_noiseBy_11 : decode cX3_noiseBy 11 = .ok (.invokestatic 62, 3) := by decide +kernel
theorem dX3_noiseBy_14 : decode cX3_noiseBy 14 = .ok (.invokestatic 66, 3) := by decide +kernel
theorem dX3_noiseBy_17 : decode cX3_noiseBy 17 = .ok (.aload_n 0, 1) := by decide +kernel
theorem dX3_noiseBy_18 : decode cX3_noiseBy 18 = .ok (.getfield 55, 3) := by decide +kernel
theorem dX3_noiseBy_21 : decode cX3_noiseBy 21 = .ok (.invokestatic 69, 3) := by decide +kernel
theorem dX3_noiseBy_24 : decode cX3_noiseBy 24 = .ok (.ifCond .ne 7, 3) := by decide +kernel
theorem dX3_noiseBy_27 : decode cX3_noiseBy 27 = .ok (.iconst 1, 1) := by decide +kernel
theorem dX3_noiseBy_28 : decode cX3_noiseBy 28 = .ok (.goto 4, 3) := by decide +kernel
theorem dX3_noiseBy_31 : decode cX3_noiseBy 31 = .ok (.iconst 0, 1) := by decide +kernel
theorem dX3_noiseBy_32 : decode cX3_noiseBy 32 = .ok (.istore_n 3, 1) := by decide +kernel
theorem dX3_noiseBy_33 : decode cX3_noiseBy 33 = .ok (.aload_n 0, 1) := by decide +kernel
theorem dX3_noiseBy_34 : decode cX3_noiseBy 34 = .ok (.getfield 49, 3) := by decide +kernel
theorem dX3_noiseBy_37 : decode cX3_noiseBy 37 = .ok (.iload_n 2, 1) := by decide +kernel
theorem dX3_noiseBy_38 : decode cX3_noiseBy 38 = .ok (.imul, 1) := by decide +kernel
theorem dX3_noiseBy_39 : decode cX3_noiseBy 39 = .ok (.iload_n 3, 1) := by decide +kernel
theorem dX3_noiseBy_40 : decode cX3_noiseBy 40 = .ok (.ifCond .eq 10, 3) := by decide +kernel
theorem dX3_noiseBy_43 : decode cX3_noiseBy 43 = .ok (.aload_n 0, 1) := by decide +kernel
theorem dX3_noiseBy_44 : decode cX3_noiseBy 44 = .ok (.getfield 52, 3) := by decide +kernel
theorem dX3_noiseBy_47 : decode cX3_noiseBy 47 = .ok (.goto 4, 3) := by decide +kernel
theorem dX3_noiseBy_50 : decode cX3_noiseBy 50 = .ok (.iconst 0, 1) := by decide +kernel
theorem dX3_noiseBy_51 : decode cX3_noiseBy 51 = .ok (.iadd, 1) := by decide +kernel
theorem dX3_noiseBy_52 : decode cX3_noiseBy 52 = .ok (.ireturn, 1) := by decide +kernel
theorem dX3_drawn_0 : decode cX3_drawn 0 = .ok (.iload_n 0, 1) := by decide +kernel
theorem dX3_drawn_1 : decode cX3_drawn 1 = .ok (.ldc 73, 2) := by decide +kernel
theorem dX3_drawn_3 : decode cX3_drawn 3 = .ok (.imul, 1) := by decide +kernel
theorem dX3_drawn_4 : decode cX3_drawn 4 = .ok (.sipush 12345, 3) := by decide +kernel
theorem dX3_drawn_7 : decode cX3_drawn 7 = .ok (.iadd, 1) := by decide +kernel
theorem dX3_drawn_8 : decode cX3_drawn 8 = .ok (.ireturn, 1) := by decide +kernel
theorem dX3_highBits_0 : decode cX3_highBits 0 = .ok (.iload_n 0, 1) := by decide +kernel
theorem dX3_highBits_1 : decode cX3_highBits 1 = .ok (.bipush 16, 2) := by decide +kernel
theorem dX3_highBits_3 : decode cX3_highBits 3 = .ok (.iushr, 1) := by decide +kernel
theorem dX3_highBits_4 : decode cX3_highBits 4 = .ok (.ireturn, 1) := by decide +kernel
theorem dX4_init_0 : decode cX4_init 0 = .ok (.aload_n 0, 1) := by decide +kernel
theorem dX4_init_1 : decode cX4_init 1 = .ok (.invokespecial 3, 3) := by decide +kernel
theorem dX4_init_4 : decode cX4_init 4 = .ok (.aload_n 0, 1) := by decide +kernel
theorem dX4_init_5 : decode cX4_init 5 = .ok (.iconst (-1), 1) := by decide +kernel
theorem dX4_init_6 : decode cX4_init 6 = .ok (.putfield 9, 3) := by decide +kernel
theorem dX4_init_9 : decode cX4_init 9 = .ok (.aload_n 0, 1) := by decide +kernel
theorem dX4_init_10 : decode cX4_init 10 = .ok (.bipush 40, 2) := by decide +kernel
theorem dX4_init_12 : decode cX4_init 12 = .ok (.newarray .int, 2) := by decide +kernel
theorem dX4_init_14 : decode cX4_init 14 = .ok (.putfield 15, 3) := by decide +kernel
theorem dX4_init_17 : decode cX4_init 17 = .ok (.aload_n 0, 1) := by decide +kernel
theorem dX4_init_18 : decode cX4_init 18 = .ok (.bipush 6, 2) := by decide +kernel
theorem dX4_init_20 : decode cX4_init 20 = .ok (.newarray .long, 2) := by decide +kernel
theorem dX4_init_22 : decode cX4_init 22 = .ok (.putfield 19, 3) := by decide +kernel
theorem dX4_init_25 : decode cX4_init 25 = .ok (.return_, 1) := by decide +kernel
theorem dX4_know_0 : decode cX4_know 0 = .ok (.aload_n 0, 1) := by decide +kernel
theorem dX4_know_1 : decode cX4_know 1 = .ok (.getfield 19, 3) := by decide +kernel
theorem dX4_know_4 : decode cX4_know 4 = .ok (.iconst 0, 1) := by decide +kernel
theorem dX4_know_5 : decode cX4_know 5 = .ok (.aload_n 1, 1) := by decide +kernel
theorem dX4_know_6 : decode cX4_know 6 = .ok (.getfield 23, 3) := by decide +kernel
theorem dX4_know_9 : decode cX4_know 9 = .ok (.i2l, 1) := by decide +kernel
theorem dX4_know_10 : decode cX4_know 10 = .ok (.lastore, 1) := by decide +kernel
theorem dX4_know_11 : decode cX4_know 11 = .ok (.aload_n 0, 1) := by decide +kernel
theorem dX4_know_12 : decode cX4_know 12 = .ok (.getfield 19, 3) := by decide +kernel
theorem dX4_know_15 : decode cX4_know 15 = .ok (.iconst 1, 1) := by decide +kernel
theorem dX4_know_16 : decode cX4_know 16 = .ok (.aload_n 1, 1) := by decide +kernel
theorem dX4_know_17 : decode cX4_know 17 = .ok (.invokevirtual 28, 3) := by decide +kernel
theorem dX4_know_20 : decode cX4_know 20 = .ok (.i2l, 1) := by decide +kernel
theorem dX4_know_21 : decode cX4_know 21 = .ok (.lastore, 1) := by decide +kernel
theorem dX4_know_22 : decode cX4_know 22 = .ok (.aload_n 0, 1) := by decide +kernel
theorem dX4_know_23 : decode cX4_know 23 = .ok (.getfield 19, 3) := by decide +kernel
theorem dX4_know_26 : decode cX4_know 26 = .ok (.iconst 2, 1) := by decide +kernel
theorem dX4_know_27 : decode cX4_know 27 = .ok (.aload_n 1, 1) := by decide +kernel
theorem dX4_know_28 : decode cX4_know 28 = .ok (.invokevirtual 32, 3) := by decide +kernel
theorem dX4_know_31 : decode cX4_know 31 = .ok (.i2l, 1) := by decide +kernel
theorem dX4_know_32 : decode cX4_know 32 = .ok (.lastore, 1) := by decide +kernel
theorem dX4_know_33 : decode cX4_know 33 = .ok (.aload_n 0, 1) := by decide +kernel
theorem dX4_know_34 : decode cX4_know 34 = .ok (.getfield 19, 3) := by decide +kernel
theorem dX4_know_37 : decode cX4_know 37 = .ok (.iconst 3, 1) := by decide +kernel
theorem dX4_know_38 : decode cX4_know 38 = .ok (.aload_n 1, 1) := by decide +kernel
theorem dX4_know_39 : decode cX4_know 39 = .ok (.invokevirtual 35, 3) := by decide +kernel
theorem dX4_know_42 : decode cX4_know 42 = .ok (.i2l, 1) := by decide +kernel
theorem dX4_know_43 : decode cX4_know 43 = .ok (.lastore, 1) := by decide +kernel
theorem dX4_know_44 : decode cX4_know 44 = .ok (.aload_n 0, 1) := by decide +kernel
theorem dX4_know_45 : decode cX4_know 45 = .ok (.getfield 19, 3) := by decide +kernel
theorem dX4_know_48 : decode cX4_know 48 = .ok (.iconst 4, 1) := by decide +kernel
theorem dX4_know_49 : decode cX4_know 49 = .ok (.iload_n 2, 1) := by decide +kernel
theorem dX4_know_50 : decode cX4_know 50 = .ok (.i2l, 1) := by decide +kernel
theorem dX4_know_51 : decode cX4_know 51 = .ok (.lastore, 1) := by decide +kernel
theorem dX4_know_52 : decode cX4_know 52 = .ok (.aload_n 0, 1) := by decide +kernel
theorem dX4_know_53 : decode cX4_know 53 = .ok (.getfield 19, 3) := by decide +kernel
theorem dX4_know_56 : decode cX4_know 56 = .ok (.iconst 5, 1) := by decide +kernel
theorem dX4_know_57 : decode cX4_know 57 = .ok (.iload_n 3, 1) := by decide +kernel
theorem dX4_know_58 : decode cX4_know 58 = .ok (.i2l, 1) := by decide +kernel
theorem dX4_know_59 : decode cX4_know 59 = .ok (.lastore, 1) := by decide +kernel
theorem dX4_know_60 : decode cX4_know 60 = .ok (.return_, 1) := by decide +kernel
theorem dX4_work_0 : decode cX4_work 0 = .ok (.aload_n 0, 1) := by decide +kernel
theorem dX4_work_1 : decode cX4_work 1 = .ok (.iload_n 2, 1) := by decide +kernel
theorem dX4_work_2 : decode cX4_work 2 = .ok (.iconst 0, 1) := by decide +kernel
theorem dX4_work_3 : decode cX4_work 3 = .ok (.invokestatic 38, 3) := by decide +kernel
theorem dX4_work_6 : decode cX4_work 6 = .ok (.aload_n 1, 1) := by decide +kernel
theorem dX4_work_7 : decode cX4_work 7 = .ok (.arraylength, 1) := by decide +kernel
theorem dX4_work_8 : decode cX4_work 8 = .ok (.bipush 40, 2) := by decide +kernel
theorem dX4_work_10 : decode cX4_work 10 = .ok (.invokestatic 44, 3) := by decide +kernel
theorem dX4_work_13 : decode cX4_work 13 = .ok (.invokestatic 44, 3) := by decide +kernel
theorem dX4_work_16 : decode cX4_work 16 = .ok (.putfield 47, 3) := by decide +kernel
theorem dX4_work_19 : decode cX4_work 19 = .ok (.aload_n 1, 1) := by decide +kernel
theorem dX4_work_20 : decode cX4_work 20 = .ok (.iconst 0, 1) := by decide +kernel
theorem dX4_work_21 : decode cX4_work 21 = .ok (.aload_n 0, 1) := by decide +kernel
theorem dX4_work_22 : decode cX4_work 22 = .ok (.getfield 15, 3) := by decide +kernel
theorem dX4_work_25 : decode cX4_work 25 = .ok (.iconst 0, 1) := by decide +kernel
theorem dX4_work_26 : decode cX4_work 26 = .ok (.aload_n 0, 1) := by decide +kernel
theorem dX4_work_27 : decode cX4_work 27 = .ok (.getfield 47, 3) := by decide +kernel
theorem dX4_work_30 : decode cX4_work 30 = .ok (.invokestatic 48, 3) := by decide +kernel
theorem dX4_work_33 : decode cX4_work 33 = .ok (.aload_n 0, 1) := by decide +kernel
theorem dX4_work_34 : decode cX4_work 34 = .ok (.iconst 0, 1) := by decide +kernel
theorem dX4_work_35 : decode cX4_work 35 = .ok (.putfield 54, 3) := by decide +kernel
theorem dX4_work_38 : decode cX4_work 38 = .ok (.aload_n 0, 1) := by decide +kernel
theorem dX4_work_39 : decode cX4_work 39 = .ok (.iconst (-1), 1) := by decide +kernel
theorem dX4_work_40 : decode cX4_work 40 = .ok (.putfield 9, 3) := by decide +kernel
theorem dX4_work_43 : decode cX4_work 43 = .ok (.aload_n 0, 1) := by decide +kernel
theorem dX4_work_44 : decode cX4_work 44 = .ok (.iconst 0, 1) := by decide +kernel
theorem dX4_work_45 : decode cX4_work 45 = .ok (.invokevirtual 57, 3) := by decide +kernel
theorem dX4_work_48 : decode cX4_work 48 = .ok (.lstore_n 3, 1) := by decide +kernel
theorem dX4_work_49 : decode cX4_work 49 = .ok (.aload_n 0, 1) := by decide +kernel
theorem dX4_work_50 : decode cX4_work 50 = .ok (.invokevirtual 61, 3) := by decide +kernel
theorem dX4_work_53 : decode cX4_work 53 = .ok (.iconst (-1), 1) := by decide +kernel
theorem dX4_work_54 : decode cX4_work 54 = .ok (.if_icmp .eq 9, 3) := by decide +kernel
theorem dX4_work_57 : decode cX4_work 57 = .ok (.aload_n 0, 1) := by decide +kernel
theorem dX4_work_58 : decode cX4_work 58 = .ok (.iconst 1, 1) := by decide +kernel
theorem dX4_work_59 : decode cX4_work 59 = .ok (.invokevirtual 64, 3) := by decide +kernel
theorem dX4_work_62 : decode cX4_work 62 = .ok (.pop2, 1) := by decide +kernel
theorem dX4_work_63 : decode cX4_work 63 = .ok (.lload_n 3, 1) := by decide +kernel
theorem dX4_work_64 : decode cX4_work 64 = .ok (.lreturn, 1) := by decide +kernel
theorem dX4_value_0 : decode cX4_value 0 = .ok (.aload_n 0, 1) := by decide +kernel
theorem dX4_value_1 : decode cX4_value 1 = .ok (.iload_n 1, 1) := by decide +kernel
theorem dX4_value_2 : decode cX4_value 2 = .ok (.invokevirtual 67, 3) := by decide +kernel
theorem dX4_value_5 : decode cX4_value 5 = .ok (.lstore_n 2, 1) := by decide +kernel
theorem dX4_value_6 : decode cX4_value 6 = .ok (.iconst 0, 1) := by decide +kernel
theorem dX4_value_7 : decode cX4_value 7 = .ok (.istore 4, 2) := by decide +kernel
theorem dX4_value_9 : decode cX4_value 9 = .ok (.iload 4, 2) := by decide +kernel
theorem dX4_value_11 : decode cX4_value 11 = .ok (.bipush 40, 2) := by decide +kernel
theorem dX4_value_13 : decode cX4_value 13 = .ok (.if_icmp .ge 47, 3) := by decide +kernel
theorem dX4_value_16 : decode cX4_value 16 = .ok (.aload_n 0, 1) := by decide +kernel
theorem dX4_value_17 : decode cX4_value 17 = .ok (.bipush 124, 2) := by decide +kernel
theorem dX4_value_19 : decode cX4_value 19 = .ok (.invokevirtual 70, 3) := by decide +kernel
theorem dX4_value_22 : decode cX4_value 22 = .ok (.ifCond .eq 38, 3) := by decide +kernel
theorem dX4_value_25 : decode cX4_value 25 = .ok (.aload_n 0, 1) := by decide +kernel
theorem dX4_value_26 : decode cX4_value 26 = .ok (.iload_n 1, 1) := by decide +kernel
theorem dX4_value_27 : decode cX4_value 27 = .ok (.invokevirtual 67, 3) := by decide +kernel
theorem dX4_value_30 : decode cX4_value 30 = .ok (.lstore 5, 2) := by decide +kernel
theorem dX4_value_32 : decode cX4_value 32 = .ok (.lload_n 2, 1) := by decide +kernel
theorem dX4_value_33 : decode cX4_value 33 = .ok (.lconst 0, 1) := by decide +kernel
theorem dX4_value_34 : decode cX4_value 34 = .ok (.lcmp, 1) := by decide +kernel
theorem dX4_value_35 : decode cX4_value 35 = .ok (.ifCond .ne 10, 3) := by decide +kernel
theorem dX4_value_38 : decode cX4_value 38 = .ok (.lload 5, 2) := by decide +kernel
theorem dX4_value_40 : decode cX4_value 40 = .ok (.lconst 0, 1) := by decide +kernel
theorem dX4_value_41 : decode cX4_value 41 = .ok (.lcmp, 1) := by decide +kernel
theorem dX4_value_42 : decode cX4_value 42 = .ok (.ifCond .eq 7, 3) := by decide +kernel
theorem dX4_value_45 : decode cX4_value 45 = .ok (.iconst 1, 1) := by decide +kernel
theorem dX4_value_46 : decode cX4_value 46 = .ok (.goto 4, 3) := by decide +kernel
theorem dX4_value_49 : decode cX4_value 49 = .ok (.iconst 0, 1) := by decide +kernel
theorem dX4_value_50 : decode cX4_value 50 = .ok (.invokestatic 74, 3) := by decide +kernel
theorem dX4_value_53 : decode cX4_value 53 = .ok (.lstore_n 2, 1) := by decide +kernel
theorem dX4_value_54 : decode cX4_value 54 = .ok (.iinc 4 1, 3) := by decide +kernel
theorem dX4_value_57 : decode cX4_value 57 = .ok (.goto (-48), 3) := by decide +kernel
theorem dX4_value_60 : decode cX4_value 60 = .ok (.lload_n 2, 1) := by decide +kernel
theorem dX4_value_61 : decode cX4_value 61 = .ok (.lreturn, 1) := by decide +kernel
theorem dX4_both_0 : decode cX4_both 0 = .ok (.aload_n 0, 1) := by decide +kernel
theorem dX4_both_1 : decode cX4_both 1 = .ok (.iload_n 1, 1) := by decide +kernel
theorem dX4_both_2 : decode cX4_both 2 = .ok (.invokevirtual 78, 3) := by decide +kernel
theorem dX4_both_5 : decode cX4_both 5 = .ok (.lstore_n 2, 1) := by decide +kernel
theorem dX4_both_6 : decode cX4_both 6 = .ok (.iconst 0, 1) := by decide +kernel
theorem dX4_both_7 : decode cX4_both 7 = .ok (.istore 4, 2) := by decide +kernel
theorem dX4_both_9 : decode cX4_both 9 = .ok (.iload 4, 2) := by decide +kernel
theorem dX4_both_11 : decode cX4_both 11 = .ok (.bipush 40, 2) := by decide +kernel
theorem dX4_both_13 : decode cX4_both 13 = .ok (.if_icmp .ge 47, 3) := by decide +kernel
theorem dX4_both_16 : decode cX4_both 16 = .ok (.aload_n 0, 1) := by decide +kernel
theorem dX4_both_17 : decode cX4_both 17 = .ok (.bipush 38, 2) := by decide +kernel
theorem dX4_both_19 : decode cX4_both 19 = .ok (.invokevirtual 70, 3) := by decide +kernel
theorem dX4_both_22 : decode cX4_both 22 = .ok (.ifCond .eq 38, 3) := by decide +kernel
theorem dX4_both_25 : decode cX4_both 25 = .ok (.aload_n 0, 1) := by decide +kernel
theorem dX4_both_26 : decode cX4_both 26 = .ok (.iload_n 1, 1) := by decide +kernel
theorem dX4_both_27 : decode cX4_both 27 = .ok (.invokevirtual 78, 3) := by decide +kernel
theorem dX4_both_30 : decode cX4_both 30 = .ok (.lstore 5, 2) := by decide +kernel
theorem dX4_both_32 : decode cX4_both 32 = .ok (.lload_n 2, 1) := by decide +kernel
theorem dX4_both_33 : decode cX4_both 33 = .ok (.lconst 0, 1) := by decide +kernel
theorem dX4_both_34 : decode cX4_both 34 = .ok (.lcmp, 1) := by decide +kernel
theorem dX4_both_35 : decode cX4_both 35 = .ok (.ifCond .eq 14, 3) := by decide +kernel
theorem dX4_both_38 : decode cX4_both 38 = .ok (.lload 5, 2) := by decide +kernel
theorem dX4_both_40 : decode cX4_both 40 = .ok (.lconst 0, 1) := by decide +kernel
theorem dX4_both_41 : decode cX4_both 41 = .ok (.lcmp, 1) := by decide +kernel
theorem dX4_both_42 : decode cX4_both 42 = .ok (.ifCond .eq 7, 3) := by decide +kernel
theorem dX4_both_45 : decode cX4_both 45 = .ok (.iconst 1, 1) := by decide +kernel
theorem dX4_both_46 : decode cX4_both 46 = .ok (.goto 4, 3) := by decide +kernel
theorem dX4_both_49 : decode cX4_both 49 = .ok (.iconst 0, 1) := by decide +kernel
theorem dX4_both_50 : decode cX4_both 50 = .ok (.invokestatic 74, 3) := by decide +kernel
theorem dX4_both_53 : decode cX4_both 53 = .ok (.lstore_n 2, 1) := by decide +kernel
theorem dX4_both_54 : decode cX4_both 54 = .ok (.iinc 4 1, 3) := by decide +kernel
theorem dX4_both_57 : decode cX4_both 57 = .ok (.goto (-48), 3) := by decide +kernel
theorem dX4_both_60 : decode cX4_both 60 = .ok (.lload_n 2, 1) := by decide +kernel
theorem dX4_both_61 : decode cX4_both 61 = .ok (.lreturn, 1) := by decide +kernel
theorem dX4_held_0 : decode cX4_held 0 = .ok (.aload_n 0, 1) := by decide +kernel
theorem dX4_held_1 : decode cX4_held 1 = .ok (.iload_n 1, 1) := by decide +kernel
theorem dX4_held_2 : decode cX4_held 2 = .ok (.invokevirtual 81, 3) := by decide +kernel
theorem dX4_held_5 : decode cX4_held 5 = .ok (.lstore_n 2, 1) := by decide +kernel
theorem dX4_held_6 : decode cX4_held 6 = .ok (.aload_n 0, 1) := by decide +kernel
theorem dX4_held_7 : decode cX4_held 7 = .ok (.bipush 60, 2) := by decide +kernel
theorem dX4_held_9 : decode cX4_held 9 = .ok (.invokevirtual 70, 3) := by decide +kernel
theorem dX4_held_12 : decode cX4_held 12 = .ok (.ifCond .eq 22, 3) := by decide +kernel
theorem dX4_held_15 : decode cX4_held 15 = .ok (.lload_n 2, 1) := by decide +kernel
theorem dX4_held_16 : decode cX4_held 16 = .ok (.aload_n 0, 1) := by decide +kernel
theorem dX4_held_17 : decode cX4_held 17 = .ok (.iload_n 1, 1) := by decide +kernel
theorem dX4_held_18 : decode cX4_held 18 = .ok (.invokevirtual 81, 3) := by decide +kernel
theorem dX4_held_21 : decode cX4_held 21 = .ok (.lcmp, 1) := by decide +kernel
theorem dX4_held_22 : decode cX4_held 22 = .ok (.ifCond .ge 7, 3) := by decide +kernel
theorem dX4_held_25 : decode cX4_held 25 = .ok (.iconst 1, 1) := by decide +kernel
theorem dX4_held_26 : decode cX4_held 26 = .ok (.goto 4, 3) := by decide +kernel
theorem dX4_held_29 : decode cX4_held 29 = .ok (.iconst 0, 1) := by decide +kernel
theorem dX4_held_30 : decode cX4_held 30 = .ok (.invokestatic 74, 3) := by decide +kernel
theorem dX4_held_33 : decode cX4_held 33 = .ok (.lreturn, 1) := by decide +kernel
theorem dX4_held_34 : decode cX4_held 34 = .ok (.aload_n 0, 1) := by decide +kernel
theorem dX4_held_35 : decode cX4_held 35 = .ok (.bipush 62, 2) := by decide +kernel
theorem dX4_held_37 : decode cX4_held 37 = .ok (.invokevirtual 70, 3) := by decide +kernel
theorem dX4_held_40 : decode cX4_held 40 = .ok (.ifCond .eq 22, 3) := by decide +kernel
theorem dX4_held_43 : decode cX4_held 43 = .ok (.lload_n 2, 1) := by decide +kernel
theorem dX4_held_44 : decode cX4_held 44 = .ok (.aload_n 0, 1) := by decide +kernel
theorem dX4_held_45 : decode cX4_held 45 = .ok (.iload_n 1, 1) := by decide +kernel
theorem dX4_held_46 : decode cX4_held 46 = .ok (.invokevirtual 81, 3) := by decide +kernel
theorem dX4_held_49 : decode cX4_held 49 = .ok (.lcmp, 1) := by decide +kernel
theorem dX4_held_50 : decode cX4_held 50 = .ok (.ifCond .le 7, 3) := by decide +kernel
theorem dX4_held_53 : decode cX4_held 53 = .ok (.iconst 1, 1) := by decide +kernel
theorem dX4_held_54 : decode cX4_held 54 = .ok (.goto 4, 3) := by decide +kernel
theorem dX4_held_57 : decode cX4_held 57 = .ok (.iconst 0, 1) := by decide +kernel
theorem dX4_held_58 : decode cX4_held 58 = .ok (.invokestatic 74, 3) := by decide +kernel
theorem dX4_held_61 : decode cX4_held 61 = .ok (.lreturn, 1) := by decide +kernel
theorem dX4_held_62 : decode cX4_held 62 = .ok (.aload_n 0, 1) := by decide +kernel
theorem dX4_held_63 : decode cX4_held 63 = .ok (.bipush 61, 2) := by decide +kernel
theorem dX4_held_65 : decode cX4_held 65 = .ok (.invokevirtual 70, 3) := by decide +kernel
theorem dX4_held_68 : decode cX4_held 68 = .ok (.ifCond .eq 22, 3) := by decide +kernel
theorem dX4_held_71 : decode cX4_held 71 = .ok (.lload_n 2, 1) := by decide +kernel
theorem dX4_held_72 : decode cX4_held 72 = .ok (.aload_n 0, 1) := by decide +kernel
theorem dX4_held_73 : decode cX4_held 73 = .ok (.iload_n 1, 1) := by decide +kernel
theorem dX4_held_74 : decode cX4_held 74 = .ok (.invokevirtual 81, 3) := by decide +kernel
theorem dX4_held_77 : decode cX4_held 77 = .ok (.lcmp, 1) := by decide +kernel
theorem dX4_held_78 : decode cX4_held 78 = .ok (.ifCond .ne 7, 3) := by decide +kernel
theorem dX4_held_81 : decode cX4_held 81 = .ok (.iconst 1, 1) := by decide +kernel
theorem dX4_held_82 : decode cX4_held 82 = .ok (.goto 4, 3) := by decide +kernel
theorem dX4_held_85 : decode cX4_held 85 = .ok (.iconst 0, 1) := by decide +kernel
theorem dX4_held_86 : decode cX4_held 86 = .ok (.invokestatic 74, 3) := by decide +kernel
theorem dX4_held_89 : decode cX4_held 89 = .ok (.lreturn, 1) := by decide +kernel
theorem dX4_held_90 : decode cX4_held 90 = .ok (.lload_n 2, 1) := by decide +kernel
theorem dX4_held_91 : decode cX4_held 91 = .ok (.lreturn, 1) := by decide +kernel
theorem dX4_sum_0 : decode cX4_sum 0 = .ok (.aload_n 0, 1) := by decide +kernel
theorem dX4_sum_1 : decode cX4_sum 1 = .ok (.iload_n 1, 1) := by decide +kernel
theorem dX4_sum_2 : decode cX4_sum 2 = .ok (.invokevirtual 84, 3) := by decide +kernel
theorem dX4_sum_5 : decode cX4_sum 5 = .ok (.lstore_n 2, 1) := by decide +kernel
theorem dX4_sum_6 : decode cX4_sum 6 = .ok (.iconst 0, 1) := by decide +kernel
theorem dX4_sum_7 : decode cX4_sum 7 = .ok (.istore 4, 2) := by decide +kernel
theorem dX4_sum_9 : decode cX4_sum 9 = .ok (.iload 4, 2) := by decide +kernel
theorem dX4_sum_11 : decode cX4_sum 11 = .ok (.bipush 40, 2) := by decide +kernel
theorem dX4_sum_13 : decode cX4_sum 13 = .ok (.if_icmp .ge 46, 3) := by decide +kernel
theorem dX4_sum_16 : decode cX4_sum 16 = .ok (.aload_n 0, 1) := by decide +kernel
theorem dX4_sum_17 : decode cX4_sum 17 = .ok (.bipush 43, 2) := by decide +kernel
theorem dX4_sum_19 : decode cX4_sum 19 = .ok (.invokevirtual 70, 3) := by decide +kernel
theorem dX4_sum_22 : decode cX4_sum 22 = .ok (.ifCond .eq 14, 3) := by decide +kernel
theorem dX4_sum_25 : decode cX4_sum 25 = .ok (.lload_n 2, 1) := by decide +kernel
theorem dX4_sum_26 : decode cX4_sum 26 = .ok (.aload_n 0, 1) := by decide +kernel
theorem dX4_sum_27 : decode cX4_sum 27 = .ok (.iload_n 1, 1) := by decide +kernel
theorem dX4_sum_28 : decode cX4_sum 28 = .ok (.invokevirtual 84, 3) := by decide +kernel
theorem dX4_sum_31 : decode cX4_sum 31 = .ok (.ladd, 1) := by decide +kernel
theorem dX4_sum_32 : decode cX4_sum 32 = .ok (.lstore_n 2, 1) := by decide +kernel
theorem dX4_sum_33 : decode cX4_sum 33 = .ok (.goto 20, 3) := by decide +kernel
theorem dX4_sum_36 : decode cX4_sum 36 = .ok (.aload_n 0, 1) := by decide +kernel
theorem dX4_sum_37 : decode cX4_sum 37 = .ok (.bipush 45, 2) := by decide +kernel
theorem dX4_sum_39 : decode cX4_sum 39 = .ok (.invokevirtual 70, 3) := by decide +kernel
theorem dX4_sum_42 : decode cX4_sum 42 = .ok (.ifCond .eq 17, 3) := by decide +kernel
theorem dX4_sum_45 : decode cX4_sum 45 = .ok (.lload_n 2, 1) := by decide +kernel
theorem dX4_sum_46 : decode cX4_sum 46 = .ok (.aload_n 0, 1) := by decide +kernel
theorem dX4_sum_47 : decode cX4_sum 47 = .ok (.iload_n 1, 1) := by decide +kernel
theorem dX4_sum_48 : decode cX4_sum 48 = .ok (.invokevirtual 84, 3) := by decide +kernel
theorem dX4_sum_51 : decode cX4_sum 51 = .ok (.lsub, 1) := by decide +kernel
theorem dX4_sum_52 : decode cX4_sum 52 = .ok (.lstore_n 2, 1) := by decide +kernel
theorem dX4_sum_53 : decode cX4_sum 53 = .ok (.iinc 4 1, 3) := by decide +kernel
theorem dX4_sum_56 : decode cX4_sum 56 = .ok (.goto (-47), 3) := by decide +kernel
theorem dX4_sum_59 : decode cX4_sum 59 = .ok (.lload_n 2, 1) := by decide +kernel
theorem dX4_sum_60 : decode cX4_sum 60 = .ok (.lreturn, 1) := by decide +kernel
theorem dX4_term_0 : decode cX4_term 0 = .ok (.aload_n 0, 1) := by decide +kernel
theorem dX4_term_1 : decode cX4_term 1 = .ok (.iload_n 1, 1) := by decide +kernel
theorem dX4_term_2 : decode cX4_term 2 = .ok (.invokevirtual 87, 3) := by decide +kernel
theorem dX4_term_5 : decode cX4_term 5 = .ok (.lstore_n 2, 1) := by decide +kernel
theorem dX4_term_6 : decode cX4_term 6 = .ok (.iconst 0, 1) := by decide +kernel
theorem dX4_term_7 : decode cX4_term 7 = .ok (.istore 4, 2) := by decide +kernel
theorem dX4_term_9 : decode cX4_term 9 = .ok (.iload 4, 2) := by decide +kernel
theorem dX4_term_11 : decode cX4_term 11 = .ok (.bipush 40, 2) := by decide +kernel
theorem dX4_term_13 : decode cX4_term 13 = .ok (.if_icmp .ge 61, 3) := by decide +kernel
theorem dX4_term_16 : decode cX4_term 16 = .ok (.aload_n 0, 1) := by decide +kernel
theorem dX4_term_17 : decode cX4_term 17 = .ok (.bipush 42, 2) := by decide +kernel
theorem dX4_term_19 : decode cX4_term 19 = .ok (.invokevirtual 70, 3) := by decide +kernel
theorem dX4_term_22 : decode cX4_term 22 = .ok (.ifCond .eq 14, 3) := by decide +kernel
theorem dX4_term_25 : decode cX4_term 25 = .ok (.lload_n 2, 1) := by decide +kernel
theorem dX4_term_26 : decode cX4_term 26 = .ok (.aload_n 0, 1) := by decide +kernel
theorem dX4_term_27 : decode cX4_term 27 = .ok (.iload_n 1, 1) := by decide +kernel
theorem dX4_term_28 : decode cX4_term 28 = .ok (.invokevirtual 87, 3) := by decide +kernel
theorem dX4_term_31 : decode cX4_term 31 = .ok (.lmul, 1) := by decide +kernel
theorem dX4_term_32 : decode cX4_term 32 = .ok (.lstore_n 2, 1) := by decide +kernel
theorem dX4_term_33 : decode cX4_term 33 = .ok (.goto 35, 3) := by decide +kernel
theorem dX4_term_36 : decode cX4_term 36 = .ok (.aload_n 0, 1) := by decide +kernel
theorem dX4_term_37 : decode cX4_term 37 = .ok (.bipush 47, 2) := by decide +kernel
theorem dX4_term_39 : decode cX4_term 39 = .ok (.invokevirtual 70, 3) := by decide +kernel
theorem dX4_term_42 : decode cX4_term 42 = .ok (.ifCond .eq 32, 3) := by decide +kernel
theorem dX4_term_45 : decode cX4_term 45 = .ok (.aload_n 0, 1) := by decide +kernel
theorem dX4_term_46 : decode cX4_term 46 = .ok (.iload_n 1, 1) := by decide +kernel
theorem dX4_term_47 : decode cX4_term 47 = .ok (.invokevirtual 87, 3) := by decide +kernel
theorem dX4_term_50 : decode cX4_term 50 = .ok (.lstore 5, 2) := by decide +kernel
theorem dX4_term_52 : decode cX4_term 52 = .ok (.lload 5, 2) := by decide +kernel
theorem dX4_term_54 : decode cX4_term 54 = .ok (.lconst 0, 1) := by decide +kernel
theorem dX4_term_55 : decode cX4_term 55 = .ok (.lcmp, 1) := by decide +kernel
theorem dX4_term_56 : decode cX4_term 56 = .ok (.ifCond .ne 7, 3) := by decide +kernel
theorem dX4_term_59 : decode cX4_term 59 = .ok (.lconst 0, 1) := by decide +kernel
theorem dX4_term_60 : decode cX4_term 60 = .ok (.goto 7, 3) := by decide +kernel
theorem dX4_term_63 : decode cX4_term 63 = .ok (.lload_n 2, 1) := by decide +kernel
theorem dX4_term_64 : decode cX4_term 64 = .ok (.lload 5, 2) := by decide +kernel
theorem dX4_term_66 : decode cX4_term 66 = .ok (.ldiv, 1) := by decide +kernel
theorem dX4_term_67 : decode cX4_term 67 = .ok (.lstore_n 2, 1) := by decide +kernel
theorem dX4_term_68 : decode cX4_term 68 = .ok (.iinc 4 1, 3) := by decide +kernel
theorem dX4_term_71 : decode cX4_term 71 = .ok (.goto (-62), 3) := by decide +kernel
theorem dX4_term_74 : decode cX4_term 74 = .ok (.lload_n 2, 1) := by decide +kernel
theorem dX4_term_75 : decode cX4_term 75 = .ok (.lreturn, 1) := by decide +kernel
theorem dX4_unit_0 : decode cX4_unit 0 = .ok (.lconst 0, 1) := by decide +kernel
theorem dX4_unit_1 : decode cX4_unit 1 = .ok (.lstore_n 2, 1) := by decide +kernel
theorem dX4_unit_2 : decode cX4_unit 2 = .ok (.iconst 0, 1) := by decide +kernel
theorem dX4_unit_3 : decode cX4_unit 3 = .ok (.istore 4, 2) := by decide +kernel
theorem dX4_unit_5 : decode cX4_unit 5 = .ok (.iconst 0, 1) := by decide +kernel
theorem dX4_unit_6 : decode cX4_unit 6 = .ok (.istore 5, 2) := by decide +kernel
theorem dX4_unit_8 : decode cX4_unit 8 = .ok (.iload 5, 2) := by decide +kernel
theorem dX4_unit_10 : decode cX4_unit 10 = .ok (.bipush 40, 2) := by decide +kernel
theorem dX4_unit_12 : decode cX4_unit 12 = .ok (.if_icmp .ge 47, 3) := by decide +kernel
theorem dX4_unit_15 : decode cX4_unit 15 = .ok (.aload_n 0, 1) := by decide +kernel
theorem dX4_unit_16 : decode cX4_unit 16 = .ok (.bipush 33, 2) := by decide +kernel
theorem dX4_unit_18 : decode cX4_unit 18 = .ok (.invokevirtual 70, 3) := by decide +kernel
theorem dX4_unit_21 : decode cX4_unit 21 = .ok (.ifCond .eq 14, 3) := by decide +kernel
theorem dX4_unit_24 : decode cX4_unit 24 = .ok (.lload_n 2, 1) := by decide +kernel
theorem dX4_unit_25 : decode cX4_unit 25 = .ok (.ldc2_w 90, 3) := by decide +kernel
theorem dX4_unit_28 : decode cX4_unit 28 = .ok (.lmul, 1) := by decide +kernel
theorem dX4_unit_29 : decode cX4_unit 29 = .ok (.lconst 1, 1) := by decide +kernel
theorem dX4_unit_30 : decode cX4_unit 30 = .ok (.ladd, 1) := by decide +kernel
theorem dX4_unit_31 : decode cX4_unit 31 = .ok (.lstore_n 2, 1) := by decide +kernel
theorem dX4_unit_32 : decode cX4_unit 32 = .ok (.goto 18, 3) := by decide +kernel
theorem dX4_unit_35 : decode cX4_unit 35 = .ok (.aload_n 0, 1) := by decide +kernel
theorem dX4_unit_36 : decode cX4_unit 36 = .ok (.bipush 45, 2) := by decide +kernel
theorem dX4_unit_38 : decode cX4_unit 38 = .ok (.invokevirtual 70, 3) := by decide +kernel
theorem dX4_unit_41 : decode cX4_unit 41 = .ok (.ifCond .eq 18, 3) := by decide +kernel
theorem dX4_unit_44 : decode cX4_unit 44 = .ok (.lload_n 2, 1) := by decide +kernel
theorem dX4_unit_45 : decode cX4_unit 45 = .ok (.ldc2_w 90, 3) := by decide +kernel
theorem dX4_unit_48 : decode cX4_unit 48 = .ok (.lmul, 1) := by decide +kernel
theorem dX4_unit_49 : decode cX4_unit 49 = .ok (.lstore_n 2, 1) := by decide +kernel
theorem dX4_unit_50 : decode cX4_unit 50 = .ok (.iinc 4 1, 3) := by decide +kernel
theorem dX4_unit_53 : decode cX4_unit 53 = .ok (.iinc 5 1, 3) := by decide +kernel
theorem dX4_unit_56 : decode cX4_unit 56 = .ok (.goto (-48), 3) := by decide +kernel
theorem dX4_unit_59 : decode cX4_unit 59 = .ok (.aload_n 0, 1) := by decide +kernel
theorem dX4_unit_60 : decode cX4_unit 60 = .ok (.iload_n 1, 1) := by decide +kernel
theorem dX4_unit_61 : decode cX4_unit 61 = .ok (.invokevirtual 92, 3) := by decide +kernel
theorem dX4_unit_64 : decode cX4_unit 64 = .ok (.lstore 5, 2) := by decide +kernel
theorem dX4_unit_66 : decode cX4_unit 66 = .ok (.iconst 0, 1) := by decide +kernel
theorem dX4_unit_67 : decode cX4_unit 67 = .ok (.istore 7, 2) := by decide +kernel
theorem dX4_unit_69 : decode cX4_unit 69 = .ok (.iload 7, 2) := by decide +kernel
theorem dX4_unit_71 : decode cX4_unit 71 = .ok (.iload 4, 2) := by decide +kernel
theorem dX4_unit_73 : decode cX4_unit 73 = .ok (.if_icmp .ge 43, 3) := by decide +kernel
theorem dX4_unit_76 : decode cX4_unit 76 = .ok (.lload_n 2, 1) := by decide +kernel
theorem dX4_unit_77 : decode cX4_unit 77 = .ok (.iload 7, 2) := by decide +kernel
theorem dX4_unit_79 : decode cX4_unit 79 = .ok (.lshr, 1) := by decide +kernel
theorem dX4_unit_80 : decode cX4_unit 80 = .ok (.lconst 1, 1) := by decide +kernel
theorem dX4_unit_81 : decode cX4_unit 81 = .ok (.land, 1) := by decide +kernel
theorem dX4_unit_82 : decode cX4_unit 82 = .ok (.lconst 1, 1) := by decide +kernel
theorem dX4_unit_83 : decode cX4_unit 83 = .ok (.lcmp, 1) := by decide +kernel
theorem dX4_unit_84 : decode cX4_unit 84 = .ok (.ifCond .ne 21, 3) := by decide +kernel
theorem dX4_unit_87 : decode cX4_unit 87 = .ok (.lload 5, 2) := by decide +kernel
theorem dX4_unit_89 : decode cX4_unit 89 = .ok (.lconst 0, 1) := by decide +kernel
theorem dX4_unit_90 : decode cX4_unit 90 = .ok (.lcmp, 1) := by decide +kernel
theorem dX4_unit_91 : decode cX4_unit 91 = .ok (.ifCond .ne 7, 3) := by decide +kernel
theorem dX4_unit_94 : decode cX4_unit 94 = .ok (.iconst 1, 1) := by decide +kernel
theorem dX4_unit_95 : decode cX4_unit 95 = .ok (.goto 4, 3) := by decide +kernel
theorem dX4_unit_98 : decode cX4_unit 98 = .ok (.iconst 0, 1) := by decide +kernel
theorem dX4_unit_99 : decode cX4_unit 99 = .ok (.invokestatic 74, 3) := by decide +kernel
theorem dX4_unit_102 : decode cX4_unit 102 = .ok (.goto 6, 3) := by decide +kernel
theorem dX4_unit_105 : decode cX4_unit 105 = .ok (.lload 5, 2) := by decide +kernel
theorem dX4_unit_107 : decode cX4_unit 107 = .ok (.lneg, 1) := by decide +kernel
theorem dX4_unit_108 : decode cX4_unit 108 = .ok (.lstore 5, 2) := by decide +kernel
theorem dX4_unit_110 : decode cX4_unit 110 = .ok (.iinc 7 1, 3) := by decide +kernel
theorem dX4_unit_113 : decode cX4_unit 113 = .ok (.goto (-44), 3) := by decide +kernel
theorem dX4_unit_116 : decode cX4_unit 116 = .ok (.lload 5, 2) := by decide +kernel
theorem dX4_unit_118 : decode cX4_unit 118 = .ok (.lreturn, 1) := by decide +kernel
theorem dX4_bare_0 : decode cX4_bare 0 = .ok (.aload_n 0, 1) := by decide +kernel
theorem dX4_bare_1 : decode cX4_bare 1 = .ok (.invokevirtual 61, 3) := by decide +kernel
theorem dX4_bare_4 : decode cX4_bare 4 = .ok (.istore_n 2, 1) := by decide +kernel
theorem dX4_bare_5 : decode cX4_bare 5 = .ok (.iload_n 2, 1) := by decide +kernel
theorem dX4_bare_6 : decode cX4_bare 6 = .ok (.invokestatic 95, 3) := by decide +kernel
theorem dX4_bare_9 : decode cX4_bare 9 = .ok (.ifCond .eq 8, 3) := by decide +kernel
theorem dX4_bare_12 : decode cX4_bare 12 = .ok (.aload_n 0, 1) := by decide +kernel
theorem dX4_bare_13 : decode cX4_bare 13 = .ok (.invokevirtual 98, 3) := by decide +kernel
theorem dX4_bare_16 : decode cX4_bare 16 = .ok (.lreturn, 1) := by decide +kernel
theorem dX4_bare_17 : decode cX4_bare 17 = .ok (.iconst 0, 1) := by decide +kernel
theorem dX4_bare_18 : decode cX4_bare 18 = .ok (.istore_n 3, 1) := by decide +kernel
theorem dX4_bare_19 : decode cX4_bare 19 = .ok (.iload_n 3, 1) := by decide +kernel
theorem dX4_bare_20 : decode cX4_bare 20 = .ok (.aload_n 0, 1) := by decide +kernel
theorem dX4_bare_21 : decode cX4_bare 21 = .ok (.getfield 19, 3) := by decide +kernel
theorem dX4_bare_24 : decode cX4_bare 24 = .ok (.arraylength, 1) := by decide +kernel
theorem dX4_bare_25 : decode cX4_bare 25 = .ok (.if_icmp .ge 45, 3) := by decide +kernel
theorem dX4_bare_28 : decode cX4_bare 28 = .ok (.iload_n 3, 1) := by decide +kernel
theorem dX4_bare_29 : decode cX4_bare 29 = .ok (.ldc 102, 2) := by decide +kernel
theorem dX4_bare_31 : decode cX4_bare 31 = .ok (.invokevirtual 104, 3) := by decide +kernel
theorem dX4_bare_34 : decode cX4_bare 34 = .ok (.if_icmp .ge 36, 3) := by decide +kernel
theorem dX4_bare_37 : decode cX4_bare 37 = .ok (.ldc 102, 2) := by decide +kernel
theorem dX4_bare_39 : decode cX4_bare 39 = .ok (.iload_n 3, 1) := by decide +kernel
theorem dX4_bare_40 : decode cX4_bare 40 = .ok (.invokevirtual 109, 3) := by decide +kernel
theorem dX4_bare_43 : decode cX4_bare 43 = .ok (.iload_n 2, 1) := by decide +kernel
theorem dX4_bare_44 : decode cX4_bare 44 = .ok (.if_icmp .ne 20, 3) := by decide +kernel
theorem dX4_bare_47 : decode cX4_bare 47 = .ok (.aload_n 0, 1) := by decide +kernel
theorem dX4_bare_48 : decode cX4_bare 48 = .ok (.dup, 1) := by decide +kernel
theorem dX4_bare_49 : decode cX4_bare 49 = .ok (.getfield 54, 3) := by decide +kernel
theorem dX4_bare_52 : decode cX4_bare 52 = .ok (.iconst 1, 1) := by decide +kernel
theorem dX4_bare_53 : decode cX4_bare 53 = .ok (.iadd, 1) := by decide +kernel
theorem dX4_bare_54 : decode cX4_bare 54 = .ok (.putfield 54, 3) := by decide +kernel
theorem dX4_bare_57 : decode cX4_bare 57 = .ok (.aload_n 0, 1) := by decide +kernel
theorem dX4_bare_58 : decode cX4_bare 58 = .ok (.getfield 19, 3) := by decide +kernel
theorem dX4_bare_61 : decode cX4_bare 61 = .ok (.iload_n 3, 1) := by decide +kernel
theorem dX4_bare_62 : decode cX4_bare 62 = .ok (.laload, 1) := by decide +kernel
theorem dX4_bare_63 : decode cX4_bare 63 = .ok (.lreturn, 1) := by decide +kernel
theorem dX4_bare_64 : decode cX4_bare 64 = .ok (.iinc 3 1, 3) := by decide +kernel
theorem dX4_bare_67 : decode cX4_bare 67 = .ok (.goto (-48), 3) := by decide +kernel
theorem dX4_bare_70 : decode cX4_bare 70 = .ok (.iload_n 2, 1) := by decide +kernel
theorem dX4_bare_71 : decode cX4_bare 71 = .ok (.bipush 40, 2) := by decide +kernel
theorem dX4_bare_73 : decode cX4_bare 73 = .ok (.if_icmp .eq 9, 3) := by decide +kernel
theorem dX4_bare_76 : decode cX4_bare 76 = .ok (.aload_n 0, 1) := by decide +kernel
theorem dX4_bare_77 : decode cX4_bare 77 = .ok (.iconst 1, 1) := by decide +kernel
theorem dX4_bare_78 : decode cX4_bare 78 = .ok (.invokevirtual 64, 3) := by decide +kernel
theorem dX4_bare_81 : decode cX4_bare 81 = .ok (.lreturn, 1) := by decide +kernel
theorem dX4_bare_82 : decode cX4_bare 82 = .ok (.iload_n 1, 1) := by decide +kernel
theorem dX4_bare_83 : decode cX4_bare 83 = .ok (.bipush 8, 2) := by decide +kernel
theorem dX4_bare_85 : decode cX4_bare 85 = .ok (.if_icmp .ge 13, 3) := by decide +kernel
theorem dX4_bare_88 : decode cX4_bare 88 = .ok (.aload_n 0, 1) := by decide +kernel
theorem dX4_bare_89 : decode cX4_bare 89 = .ok (.iload_n 1, 1) := by decide +kernel
theorem dX4_bare_90 : decode cX4_bare 90 = .ok (.iconst 1, 1) := by decide +kernel
theorem dX4_bare_91 : decode cX4_bare 91 = .ok (.iadd, 1) := by decide +kernel
theorem dX4_bare_92 : decode cX4_bare 92 = .ok (.invokevirtual 113, 3) := by decide +kernel
theorem dX4_bare_95 : decode cX4_bare 95 = .ok (.goto 8, 3) := by decide +kernel
theorem dX4_bare_98 : decode cX4_bare 98 = .ok (.aload_n 0, 1) := by decide +kernel
theorem dX4_bare_99 : decode cX4_bare 99 = .ok (.iconst 3, 1) := by decide +kernel
theorem dX4_bare_100 : decode cX4_bare 100 = .ok (.invokevirtual 64, 3) := by decide +kernel
theorem dX4_bare_103 : decode cX4_bare 103 = .ok (.lreturn, 1) := by decide +kernel
theorem dX4_within_0 : decode cX4_within 0 = .ok (.aload_n 0, 1) := by decide +kernel
theorem dX4_within_1 : decode cX4_within 1 = .ok (.dup, 1) := by decide +kernel
theorem dX4_within_2 : decode cX4_within 2 = .ok (.getfield 54, 3) := by decide +kernel
theorem dX4_within_5 : decode cX4_within 5 = .ok (.iconst 1, 1) := by decide +kernel
theorem dX4_within_6 : decode cX4_within 6 = .ok (.iadd, 1) := by decide +kernel
theorem dX4_within_7 : decode cX4_within 7 = .ok (.putfield 54, 3) := by decide +kernel
theorem dX4_within_10 : decode cX4_within 10 = .ok (.aload_n 0, 1) := by decide +kernel
theorem dX4_within_11 : decode cX4_within 11 = .ok (.iload_n 1, 1) := by decide +kernel
theorem dX4_within_12 : decode cX4_within 12 = .ok (.invokevirtual 57, 3) := by decide +kernel
theorem dX4_within_15 : decode cX4_within 15 = .ok (.lstore_n 2, 1) := by decide +kernel
theorem dX4_within_16 : decode cX4_within 16 = .ok (.aload_n 0, 1) := by decide +kernel
theorem dX4_within_17 : decode cX4_within 17 = .ok (.bipush 41, 2) := by decide +kernel
theorem dX4_within_19 : decode cX4_within 19 = .ok (.invokevirtual 70, 3) := by decide +kernel
theorem dX4_within_22 : decode cX4_within 22 = .ok (.ifCond .ne 9, 3) := by decide +kernel
theorem dX4_within_25 : decode cX4_within 25 = .ok (.aload_n 0, 1) := by decide +kernel
theorem dX4_within_26 : decode cX4_within 26 = .ok (.iconst 1, 1) := by decide +kernel
theorem dX4_within_27 : decode cX4_within 27 = .ok (.invokevirtual 64, 3) := by decide +kernel
theorem dX4_within_30 : decode cX4_within 30 = .ok (.pop2, 1) := by decide +kernel
theorem dX4_within_31 : decode cX4_within 31 = .ok (.lload_n 2, 1) := by decide +kernel
theorem dX4_within_32 : decode cX4_within 32 = .ok (.lreturn, 1) := by decide +kernel
theorem dX4_number_0 : decode cX4_number 0 = .ok (.lconst 0, 1) := by decide +kernel
theorem dX4_number_1 : decode cX4_number 1 = .ok (.lstore_n 1, 1) := by decide +kernel
theorem dX4_number_2 : decode cX4_number 2 = .ok (.iconst 0, 1) := by decide +kernel
theorem dX4_number_3 : decode cX4_number 3 = .ok (.istore_n 3, 1) := by decide +kernel
theorem dX4_number_4 : decode cX4_number 4 = .ok (.iload_n 3, 1) := by decide +kernel
theorem dX4_number_5 : decode cX4_number 5 = .ok (.bipush 6, 2) := by decide +kernel
theorem dX4_number_7 : decode cX4_number 7 = .ok (.if_icmp .ge 74, 3) := by decide +kernel
theorem dX4_number_10 : decode cX4_number 10 = .ok (.aload_n 0, 1) := by decide +kernel
theorem dX4_number_11 : decode cX4_number 11 = .ok (.getfield 54, 3) := by decide +kernel
theorem dX4_number_14 : decode cX4_number 14 = .ok (.iload_n 3, 1) := by decide +kernel
theorem dX4_number_15 : decode cX4_number 15 = .ok (.iadd, 1) := by decide +kernel
theorem dX4_number_16 : decode cX4_number 16 = .ok (.aload_n 0, 1) := by decide +kernel
theorem dX4_number_17 : decode cX4_number 17 = .ok (.getfield 47, 3) := by decide +kernel
theorem dX4_number_20 : decode cX4_number 20 = .ok (.if_icmp .ge 20, 3) := by decide +kernel
theorem dX4_number_23 : decode cX4_number 23 = .ok (.aload_n 0, 1) := by decide +kernel
theorem dX4_number_24 : decode cX4_number 24 = .ok (.getfield 15, 3) := by decide +kernel
theorem dX4_number_27 : decode cX4_number 27 = .ok (.aload_n 0, 1) := by decide +kernel
theorem dX4_number_28 : decode cX4_number 28 = .ok (.getfield 54, 3) := by decide +kernel
theorem dX4_number_31 : decode cX4_number 31 = .ok (.iload_n 3, 1) := by decide +kernel
theorem dX4_number_32 : decode cX4_number 32 = .ok (.iadd, 1) := by decide +kernel
theorem dX4_number_33 : decode cX4_number 33 = .ok (.iaload, 1) := by decide +kernel
theorem dX4_number_34 : decode cX4_number 34 = .ok (.invokestatic 95, 3) := by decide +kernel
theorem dX4_number_37 : decode cX4_number 37 = .ok (.ifCond .ne 15, 3) := by decide +kernel
theorem dX4_number_40 : decode cX4_number 40 = .ok (.aload_n 0, 1) := by decide +kernel
theorem dX4_number_41 : decode cX4_number 41 = .ok (.dup, 1) := by decide +kernel
theorem dX4_number_42 : decode cX4_number 42 = .ok (.getfield 54, 3) := by decide +kernel
theorem dX4_number_45 : decode cX4_number 45 = .ok (.iload_n 3, 1) := by decide +kernel
theorem dX4_number_46 : decode cX4_number 46 = .ok (.iadd, 1) := by decide +kernel
theorem dX4_number_47 : decode cX4_number 47 = .ok (.putfield 54, 3) := by decide +kernel
theorem dX4_number_50 : decode cX4_number 50 = .ok (.lload_n 1, 1) := by decide +kernel
theorem dX4_number_51 : decode cX4_number 51 = .ok (.lreturn, 1) := by decide +kernel
theorem dX4_number_52 : decode cX4_number 52 = .ok (.lload_n 1, 1) := by decide +kernel
theorem dX4_number_53 : decode cX4_number 53 = .ok (.ldc2_w 116, 3) := by decide +kernel
theorem dX4_number_56 : decode cX4_number 56 = .ok (.lmul, 1) := by decide +kernel
theorem dX4_number_57 : decode cX4_number 57 = .ok (.aload_n 0, 1) := by decide +kernel
theorem dX4_number_58 : decode cX4_number 58 = .ok (.getfield 15, 3) := by decide +kernel
theorem dX4_number_61 : decode cX4_number 61 = .ok (.aload_n 0, 1) := by decide +kernel
theorem dX4_number_62 : decode cX4_number 62 = .ok (.getfield 54, 3) := by decide +kernel
theorem dX4_number_65 : decode cX4_number 65 = .ok (.iload_n 3, 1) := by decide +kernel
theorem dX4_number_66 : decode cX4_number 66 = .ok (.iadd, 1) := by decide +kernel
theorem dX4_number_67 : decode cX4_number 67 = .ok (.iaload, 1) := by decide +kernel
theorem dX4_number_68 : decode cX4_number 68 = .ok (.i2l, 1) := by decide +kernel
theorem dX4_number_69 : decode cX4_number 69 = .ok (.ladd, 1) := by decide +kernel
theorem dX4_number_70 : decode cX4_number 70 = .ok (.ldc2_w 118, 3) := by decide +kernel
theorem dX4_number_73 : decode cX4_number 73 = .ok (.lsub, 1) := by decide +kernel
theorem dX4_number_74 : decode cX4_number 74 = .ok (.lstore_n 1, 1) := by decide +kernel
theorem dX4_number_75 : decode cX4_number 75 = .ok (.iinc 3 1, 3) := by decide +kernel
theorem dX4_number_78 : decode cX4_number 78 = .ok (.goto (-74), 3) := by decide +kernel
theorem dX4_number_81 : decode cX4_number 81 = .ok (.aload_n 0, 1) := by decide +kernel
theorem dX4_number_82 : decode cX4_number 82 = .ok (.getfield 54, 3) := by decide +kernel
theorem dX4_number_85 : decode cX4_number 85 = .ok (.bipush 6, 2) := by decide +kernel
theorem dX4_number_87 : decode cX4_number 87 = .ok (.iadd, 1) := by decide +kernel
theorem dX4_number_88 : decode cX4_number 88 = .ok (.aload_n 0, 1) := by decide +kernel
theorem dX4_number_89 : decode cX4_number 89 = .ok (.getfield 47, 3) := by decide +kernel
theorem dX4_number_92 : decode cX4_number 92 = .ok (.if_icmp .ge 27, 3) := by decide +kernel
theorem dX4_number_95 : decode cX4_number 95 = .ok (.aload_n 0, 1) := by decide +kernel
theorem dX4_number_96 : decode cX4_number 96 = .ok (.getfield 15, 3) := by decide +kernel
theorem dX4_number_99 : decode cX4_number 99 = .ok (.aload_n 0, 1) := by decide +kernel
theorem dX4_number_100 : decode cX4_number 100 = .ok (.getfield 54, 3) := by decide +kernel
theorem dX4_number_103 : decode cX4_number 103 = .ok (.bipush 6, 2) := by decide +kernel
theorem dX4_number_105 : decode cX4_number 105 = .ok (.iadd, 1) := by decide +kernel
theorem dX4_number_106 : decode cX4_number 106 = .ok (.iaload, 1) := by decide +kernel
theorem dX4_number_107 : decode cX4_number 107 = .ok (.invokestatic 95, 3) := by decide +kernel
theorem dX4_number_110 : decode cX4_number 110 = .ok (.ifCond .eq 9, 3) := by decide +kernel
theorem dX4_number_113 : decode cX4_number 113 = .ok (.aload_n 0, 1) := by decide +kernel
theorem dX4_number_114 : decode cX4_number 114 = .ok (.iconst 2, 1) := by decide +kernel
theorem dX4_number_115 : decode cX4_number 115 = .ok (.invokevirtual 64, 3) := by decide +kernel
theorem dX4_number_118 : decode cX4_number 118 = .ok (.lreturn, 1) := by decide +kernel
theorem dX4_number_119 : decode cX4_number 119 = .ok (.aload_n 0, 1) := by decide +kernel
theorem dX4_number_120 : decode cX4_number 120 = .ok (.dup, 1) := by decide +kernel
theorem dX4_number_121 : decode cX4_number 121 = .ok (.getfield 54, 3) := by decide +kernel
theorem dX4_number_124 : decode cX4_number 124 = .ok (.bipush 6, 2) := by decide +kernel
theorem dX4_number_126 : decode cX4_number 126 = .ok (.iadd, 1) := by decide +kernel
theorem dX4_number_127 : decode cX4_number 127 = .ok (.putfield 54, 3) := by decide +kernel
theorem dX4_number_130 : decode cX4_number 130 = .ok (.lload_n 1, 1) := by decide +kernel
theorem dX4_number_131 : decode cX4_number 131 = .ok (.lreturn, 1) := by decide +kernel
theorem dX4_takes_0 : decode cX4_takes 0 = .ok (.aload_n 0, 1) := by decide +kernel
theorem dX4_takes_1 : decode cX4_takes 1 = .ok (.getfield 9, 3) := by decide +kernel
theorem dX4_takes_4 : decode cX4_takes 4 = .ok (.iconst (-1), 1) := by decide +kernel
theorem dX4_takes_5 : decode cX4_takes 5 = .ok (.if_icmp .ne 11, 3) := by decide +kernel
theorem dX4_takes_8 : decode cX4_takes 8 = .ok (.aload_n 0, 1) := by decide +kernel
theorem dX4_takes_9 : decode cX4_takes 9 = .ok (.invokevirtual 61, 3) := by decide +kernel
theorem dX4_takes_12 : decode cX4_takes 12 = .ok (.iload_n 1, 1) := by decide +kernel
theorem dX4_takes_13 : decode cX4_takes 13 = .ok (.if_icmp .eq 5, 3) := by decide +kernel
theorem dX4_takes_16 : decode cX4_takes 16 = .ok (.iconst 0, 1) := by decide +kernel
theorem dX4_takes_17 : decode cX4_takes 17 = .ok (.ireturn, 1) := by decide +kernel
theorem dX4_takes_18 : decode cX4_takes 18 = .ok (.aload_n 0, 1) := by decide +kernel
theorem dX4_takes_19 : decode cX4_takes 19 = .ok (.dup, 1) := by decide +kernel
theorem dX4_takes_20 : decode cX4_takes 20 = .ok (.getfield 54, 3) := by decide +kernel
theorem dX4_takes_23 : decode cX4_takes 23 = .ok (.iconst 1, 1) := by decide +kernel
theorem dX4_takes_24 : decode cX4_takes 24 = .ok (.iadd, 1) := by decide +kernel
theorem dX4_takes_25 : decode cX4_takes 25 = .ok (.putfield 54, 3) := by decide +kernel
theorem dX4_takes_28 : decode cX4_takes 28 = .ok (.iconst 1, 1) := by decide +kernel
theorem dX4_takes_29 : decode cX4_takes 29 = .ok (.ireturn, 1) := by decide +kernel
theorem dX4_ahead_0 : decode cX4_ahead 0 = .ok (.aload_n 0, 1) := by decide +kernel
theorem dX4_ahead_1 : decode cX4_ahead 1 = .ok (.getfield 54, 3) := by decide +kernel
theorem dX4_ahead_4 : decode cX4_ahead 4 = .ok (.aload_n 0, 1) := by decide +kernel
theorem dX4_ahead_5 : decode cX4_ahead 5 = .ok (.getfield 47, 3) := by decide +kernel
theorem dX4_ahead_8 : decode cX4_ahead 8 = .ok (.if_icmp .ge 30, 3) := by decide +kernel
theorem dX4_ahead_11 : decode cX4_ahead 11 = .ok (.aload_n 0, 1) := by decide +kernel
theorem dX4_ahead_12 : decode cX4_ahead 12 = .ok (.getfield 15, 3) := by decide +kernel
theorem dX4_ahead_15 : decode cX4_ahead 15 = .ok (.aload_n 0, 1) := by decide +kernel
theorem dX4_ahead_16 : decode cX4_ahead 16 = .ok (.getfield 54, 3) := by decide +kernel
theorem dX4_ahead_19 : decode cX4_ahead 19 = .ok (.iaload, 1) := by decide +kernel
theorem dX4_ahead_20 : decode cX4_ahead 20 = .ok (.bipush 32, 2) := by decide +kernel
theorem dX4_ahead_22 : decode cX4_ahead 22 = .ok (.if_icmp .ne 16, 3) := by decide +kernel
theorem dX4_ahead_25 : decode cX4_ahead 25 = .ok (.aload_n 0, 1) := by decide +kernel
theorem dX4_ahead_26 : decode cX4_ahead 26 = .ok (.dup, 1) := by decide +kernel
theorem dX4_ahead_27 : decode cX4_ahead 27 = .ok (.getfield 54, 3) := by decide +kernel
theorem dX4_ahead_30 : decode cX4_ahead 30 = .ok (.iconst 1, 1) := by decide +kernel
theorem dX4_ahead_31 : decode cX4_ahead 31 = .ok (.iadd, 1) := by decide +kernel
theorem dX4_ahead_32 : decode cX4_ahead 32 = .ok (.putfield 54, 3) := by decide +kernel
theorem dX4_ahead_35 : decode cX4_ahead 35 = .ok (.goto (-35), 3) := by decide +kernel
theorem dX4_ahead_38 : decode cX4_ahead 38 = .ok (.aload_n 0, 1) := by decide +kernel
theorem dX4_ahead_39 : decode cX4_ahead 39 = .ok (.getfield 54, 3) := by decide +kernel
theorem dX4_ahead_42 : decode cX4_ahead 42 = .ok (.aload_n 0, 1) := by decide +kernel
theorem dX4_ahead_43 : decode cX4_ahead 43 = .ok (.getfield 47, 3) := by decide +kernel
theorem dX4_ahead_46 : decode cX4_ahead 46 = .ok (.if_icmp .ge 15, 3) := by decide +kernel
theorem dX4_ahead_49 : decode cX4_ahead 49 = .ok (.aload_n 0, 1) := by decide +kernel
theorem dX4_ahead_50 : decode cX4_ahead 50 = .ok (.getfield 15, 3) := by decide +kernel
theorem dX4_ahead_53 : decode cX4_ahead 53 = .ok (.aload_n 0, 1) := by decide +kernel
theorem dX4_ahead_54 : decode cX4_ahead 54 = .ok (.getfield 54, 3) := by decide +kernel
theorem dX4_ahead_57 : decode cX4_ahead 57 = .ok (.iaload, 1) := by decide +kernel
theorem dX4_ahead_58 : decode cX4_ahead 58 = .ok (.goto 4, 3) := by decide +kernel
theorem dX4_ahead_61 : decode cX4_ahead 61 = .ok (.iconst (-1), 1) := by decide +kernel
theorem dX4_ahead_62 : decode cX4_ahead 62 = .ok (.ireturn, 1) := by decide +kernel
theorem dX4_fail_0 : decode cX4_fail 0 = .ok (.aload_n 0, 1) := by decide +kernel
theorem dX4_fail_1 : decode cX4_fail 1 = .ok (.getfield 9, 3) := by decide +kernel
theorem dX4_fail_4 : decode cX4_fail 4 = .ok (.iconst (-1), 1) := by decide +kernel
theorem dX4_fail_5 : decode cX4_fail 5 = .ok (.if_icmp .ne 16, 3) := by decide +kernel
theorem dX4_fail_8 : decode cX4_fail 8 = .ok (.aload_n 0, 1) := by decide +kernel
theorem dX4_fail_9 : decode cX4_fail 9 = .ok (.bipush 10, 2) := by decide +kernel
theorem dX4_fail_11 : decode cX4_fail 11 = .ok (.aload_n 0, 1) := by decide +kernel
theorem dX4_fail_12 : decode cX4_fail 12 = .ok (.getfield 54, 3) := by decide +kernel
theorem dX4_fail_15 : decode cX4_fail 15 = .ok (.imul, 1) := by decide +kernel
theorem dX4_fail_16 : decode cX4_fail 16 = .ok (.iload_n 1, 1) := by decide +kernel
theorem dX4_fail_17 : decode cX4_fail 17 = .ok (.iadd, 1) := by decide +kernel
theorem dX4_fail_18 : decode cX4_fail 18 = .ok (.putfield 9, 3) := by decide +kernel
theorem dX4_fail_21 : decode cX4_fail 21 = .ok (.lconst 0, 1) := by decide +kernel
theorem dX4_fail_22 : decode cX4_fail 22 = .ok (.lreturn, 1) := by decide +kernel
theorem dX4_isDigit_0 : decode cX4_isDigit 0 = .ok (.iload_n 0, 1) := by decide +kernel
theorem dX4_isDigit_1 : decode cX4_isDigit 1 = .ok (.bipush 48, 2) := by decide +kernel
theorem dX4_isDigit_3 : decode cX4_isDigit 3 = .ok (.if_icmp .lt 13, 3) := by decide +kernel
theorem dX4_isDigit_6 : decode cX4_isDigit 6 = .ok (.iload_n 0, 1) := by decide +kernel
theorem dX4_isDigit_7 : decode cX4_isDigit 7 = .ok (.bipush 57, 2) := by decide +kernel
theorem dX4_isDigit_9 : decode cX4_isDigit 9 = .ok (.if_icmp .gt 7, 3) := by decide +kernel
theorem dX4_isDigit_12 : decode cX4_isDigit 12 = .ok (.iconst 1, 1) := by decide +kernel
theorem dX4_isDigit_13 : decode cX4_isDigit 13 = .ok (.goto 4, 3) := by decide +kernel
theorem dX4_isDigit_16 : decode cX4_isDigit 16 = .ok (.iconst 0, 1) := by decide +kernel
theorem dX4_isDigit_17 : decode cX4_isDigit 17 = .ok (.ireturn, 1) := by decide +kernel
theorem dX4_truth_0 : decode cX4_truth 0 = .ok (.iload_n 0, 1) := by decide +kernel
theorem dX4_truth_1 : decode cX4_truth 1 = .ok (.ifCond .eq 7, 3) := by decide +kernel
theorem dX4_truth_4 : decode cX4_truth 4 = .ok (.lconst 1, 1) := by decide +kernel
theorem dX4_truth_5 : decode cX4_truth 5 = .ok (.goto 4, 3) := by decide +kernel
theorem dX4_truth_8 : decode cX4_truth 8 = .ok (.lconst 0, 1) := by decide +kernel
theorem dX4_truth_9 : decode cX4_truth 9 = .ok (.lreturn, 1) := by decide +kernel
theorem dX5_init_0 : decode cX5_init 0 = .ok (.aload_n 0, 1) := by decide +kernel
theorem dX5_init_1 : decode cX5_init 1 = .ok (.invokespecial 3, 3) := by decide +kernel
theorem dX5_init_4 : decode cX5_init 4 = .ok (.aload_n 0, 1) := by decide +kernel
theorem dX5_init_5 : decode cX5_init 5 = .ok (.bipush 16, 2) := by decide +kernel
theorem dX5_init_7 : decode cX5_init 7 = .ok (.newarray .int, 2) := by decide +kernel
theorem dX5_init_9 : decode cX5_init 9 = .ok (.putfield 9, 3) := by decide +kernel
theorem dX5_init_12 : decode cX5_init 12 = .ok (.aload_n 0, 1) := by decide +kernel
theorem dX5_init_13 : decode cX5_init 13 = .ok (.bipush 8, 2) := by decide +kernel
theorem dX5_init_15 : decode cX5_init 15 = .ok (.newarray .int, 2) := by decide +kernel
theorem dX5_init_17 : decode cX5_init 17 = .ok (.putfield 15, 3) := by decide +kernel
theorem dX5_init_20 : decode cX5_init 20 = .ok (.aload_n 0, 1) := by decide +kernel
theorem dX5_init_21 : decode cX5_init 21 = .ok (.bipush 20, 2) := by decide +kernel
theorem dX5_init_23 : decode cX5_init 23 = .ok (.putfield 18, 3) := by decide +kernel
theorem dX5_init_26 : decode cX5_init 26 = .ok (.return_, 1) := by decide +kernel
theorem dX5_takeFrom_0 : decode cX5_takeFrom 0 = .ok (.aload_n 1, 1) := by decide +kernel
theorem dX5_takeFrom_1 : decode cX5_takeFrom 1 = .ok (.getfield 9, 3) := by decide +kernel
theorem dX5_takeFrom_4 : decode cX5_takeFrom 4 = .ok (.iconst 0, 1) := by decide +kernel
theorem dX5_takeFrom_5 : decode cX5_takeFrom 5 = .ok (.aload_n 0, 1) := by decide +kernel
theorem dX5_takeFrom_6 : decode cX5_takeFrom 6 = .ok (.getfield 9, 3) := by decide +kernel
theorem dX5_takeFrom_9 : decode cX5_takeFrom 9 = .ok (.iconst 0, 1) := by decide +kernel
theorem dX5_takeFrom_10 : decode cX5_takeFrom 10 = .ok (.aload_n 0, 1) := by decide +kernel
theorem dX5_takeFrom_11 : decode cX5_takeFrom 11 = .ok (.getfield 9, 3) := by decide +kernel
theorem dX5_takeFrom_14 : decode cX5_takeFrom 14 = .ok (.arraylength, 1) := by decide +kernel
theorem dX5_takeFrom_15 : decode cX5_takeFrom 15 = .ok (.invokestatic 22, 3) := by decide +kernel
theorem dX5_takeFrom_18 : decode cX5_takeFrom 18 = .ok (.aload_n 0, 1) := by decide +kernel
theorem dX5_takeFrom_19 : decode cX5_takeFrom 19 = .ok (.aload_n 1, 1) := by decide +kernel
theorem dX5_takeFrom_20 : decode cX5_takeFrom 20 = .ok (.getfield 28, 3) := by decide +kernel
theorem dX5_takeFrom_23 : decode cX5_takeFrom 23 = .ok (.putfield 28, 3) := by decide +kernel
theorem dX5_takeFrom_26 : decode cX5_takeFrom 26 = .ok (.aload_n 1, 1) := by decide +kernel
theorem dX5_takeFrom_27 : decode cX5_takeFrom 27 = .ok (.getfield 15, 3) := by decide +kernel
theorem dX5_takeFrom_30 : decode cX5_takeFrom 30 = .ok (.iconst 0, 1) := by decide +kernel
theorem dX5_takeFrom_31 : decode cX5_takeFrom 31 = .ok (.aload_n 0, 1) := by decide +kernel
theorem dX5_takeFrom_32 : decode cX5_takeFrom 32 = .ok (.getfield 15, 3) := by decide +kernel
theorem dX5_takeFrom_35 : decode cX5_takeFrom 35 = .ok (.iconst 0, 1) := by decide +kernel
theorem dX5_takeFrom_36 : decode cX5_takeFrom 36 = .ok (.aload_n 0, 1) := by decide +kernel
theorem dX5_takeFrom_37 : decode cX5_takeFrom 37 = .ok (.getfield 15, 3) := by decide +kernel
theorem dX5_takeFrom_40 : decode cX5_takeFrom 40 = .ok (.arraylength, 1) := by decide +kernel
theorem dX5_takeFrom_41 : decode cX5_takeFrom 41 = .ok (.invokestatic 22, 3) := by decide +kernel
theorem dX5_takeFrom_44 : decode cX5_takeFrom 44 = .ok (.aload_n 0, 1) := by decide +kernel
theorem dX5_takeFrom_45 : decode cX5_takeFrom 45 = .ok (.aload_n 1, 1) := by decide +kernel
theorem dX5_takeFrom_46 : decode cX5_takeFrom 46 = .ok (.getfield 31, 3) := by decide +kernel
theorem dX5_takeFrom_49 : decode cX5_takeFrom 49 = .ok (.putfield 31, 3) := by decide +kernel
theorem dX5_takeFrom_52 : decode cX5_takeFrom 52 = .ok (.aload_n 0, 1) := by decide +kernel
theorem dX5_takeFrom_53 : decode cX5_takeFrom 53 = .ok (.aload_n 1, 1) := by decide +kernel
theorem dX5_takeFrom_54 : decode cX5_takeFrom 54 = .ok (.getfield 18, 3) := by decide +kernel
theorem dX5_takeFrom_57 : decode cX5_takeFrom 57 = .ok (.putfield 18, 3) := by decide +kernel
theorem dX5_takeFrom_60 : decode cX5_takeFrom 60 = .ok (.aload_n 0, 1) := by decide +kernel
theorem dX5_takeFrom_61 : decode cX5_takeFrom 61 = .ok (.aload_n 1, 1) := by decide +kernel
theorem dX5_takeFrom_62 : decode cX5_takeFrom 62 = .ok (.getfield 34, 3) := by decide +kernel
theorem dX5_takeFrom_65 : decode cX5_takeFrom 65 = .ok (.putfield 34, 3) := by decide +kernel
theorem dX5_takeFrom_68 : decode cX5_takeFrom 68 = .ok (.return_, 1) := by decide +kernel
theorem dX5_add_0 : decode cX5_add 0 = .ok (.aload_n 0, 1) := by decide +kernel
theorem dX5_add_1 : decode cX5_add 1 = .ok (.getfield 28, 3) := by decide +kernel
theorem dX5_add_4 : decode cX5_add 4 = .ok (.bipush 16, 2) := by decide +kernel
theorem dX5_add_6 : decode cX5_add 6 = .ok (.if_icmp .ge 23, 3) := by decide +kernel
theorem dX5_add_9 : decode cX5_add 9 = .ok (.aload_n 0, 1) := by decide +kernel
theorem dX5_add_10 : decode cX5_add 10 = .ok (.getfield 9, 3) := by decide +kernel
theorem dX5_add_13 : decode cX5_add 13 = .ok (.aload_n 0, 1) := by decide +kernel
theorem dX5_add_14 : decode cX5_add 14 = .ok (.getfield 28, 3) := by decide +kernel
theorem dX5_add_17 : decode cX5_add 17 = .ok (.iload_n 1, 1) := by decide +kernel
theorem dX5_add_18 : decode cX5_add 18 = .ok (.iastore, 1) := by decide +kernel
theorem dX5_add_19 : decode cX5_add 19 = .ok (.aload_n 0, 1) := by decide +kernel
theorem dX5_add_20 : decode cX5_add 20 = .ok (.dup, 1) := by decide +kernel
theorem dX5_add_21 : decode cX5_add 21 = .ok (.getfield 28, 3) := by decide +kernel
theorem dX5_add_24 : decode cX5_add 24 = .ok (.iconst 1, 1) := by decide +kernel
theorem dX5_add_25 : decode cX5_add 25 = .ok (.iadd, 1) := by decide +kernel
theorem dX5_add_26 : decode cX5_add 26 = .ok (.putfield 28, 3) := by decide +kernel
theorem dX5_add_29 : decode cX5_add 29 = .ok (.return_, 1) := by decide +kernel
theorem dX5_lastLook_0 : decode cX5_lastLook 0 = .ok (.aload_n 0, 1) := by decide +kernel
theorem dX5_lastLook_1 : decode cX5_lastLook 1 = .ok (.getfield 31, 3) := by decide +kernel
theorem dX5_lastLook_4 : decode cX5_lastLook 4 = .ok (.ifCond .ne 7, 3) := by decide +kernel
theorem dX5_lastLook_7 : decode cX5_lastLook 7 = .ok (.iconst 0, 1) := by decide +kernel
theorem dX5_lastLook_8 : decode cX5_lastLook 8 = .ok (.goto 14, 3) := by decide +kernel
theorem dX5_lastLook_11 : decode cX5_lastLook 11 = .ok (.aload_n 0, 1) := by decide +kernel
theorem dX5_lastLook_12 : decode cX5_lastLook 12 = .ok (.getfield 15, 3) := by decide +kernel
theorem dX5_lastLook_15 : decode cX5_lastLook 15 = .ok (.aload_n 0, 1) := by decide +kernel
theorem dX5_lastLook_16 : decode cX5_lastLook 16 = .ok (.getfield 31, 3) := by decide +kernel
theorem dX5_lastLook_19 : decode cX5_lastLook 19 = .ok (.iconst 1, 1) := by decide +kernel
theorem dX5_lastLook_20 : decode cX5_lastLook 20 = .ok (.isub, 1) := by decide +kernel
theorem dX5_lastLook_21 : decode cX5_lastLook 21 = .ok (.iaload, 1) := by decide +kernel
theorem dX5_lastLook_22 : decode cX5_lastLook 22 = .ok (.ireturn, 1) := by decide +kernel
theorem dX5_addLook_0 : decode cX5_addLook 0 = .ok (.aload_n 0, 1) := by decide +kernel
theorem dX5_addLook_1 : decode cX5_addLook 1 = .ok (.getfield 31, 3) := by decide +kernel
theorem dX5_addLook_4 : decode cX5_addLook 4 = .ok (.bipush 8, 2) := by decide +kernel
theorem dX5_addLook_6 : decode cX5_addLook 6 = .ok (.if_icmp .lt 6, 3) := by decide +kernel
theorem dX5_addLook_9 : decode cX5_addLook 9 = .ok (.bipush (-4), 2) := by decide +kernel
theorem dX5_addLook_11 : decode cX5_addLook 11 = .ok (.ireturn, 1) := by decide +kernel
theorem dX5_addLook_12 : decode cX5_addLook 12 = .ok (.aload_n 0, 1) := by decide +kernel
theorem dX5_addLook_13 : decode cX5_addLook 13 = .ok (.getfield 15, 3) := by decide +kernel
theorem dX5_addLook_16 : decode cX5_addLook 16 = .ok (.aload_n 0, 1) := by decide +kernel
theorem dX5_addLook_17 : decode cX5_addLook 17 = .ok (.getfield 31, 3) := by decide +kernel
theorem dX5_addLook_20 : decode cX5_addLook 20 = .ok (.iload_n 1, 1) := by decide +kernel
theorem dX5_addLook_21 : decode cX5_addLook 21 = .ok (.iastore, 1) := by decide +kernel
theorem dX5_addLook_22 : decode cX5_addLook 22 = .ok (.aload_n 0, 1) := by decide +kernel
theorem dX5_addLook_23 : decode cX5_addLook 23 = .ok (.dup, 1) := by decide +kernel
theorem dX5_addLook_24 : decode cX5_addLook 24 = .ok (.getfield 31, 3) := by decide +kernel
theorem dX5_addLook_27 : decode cX5_addLook 27 = .ok (.iconst 1, 1) := by decide +kernel
theorem dX5_addLook_28 : decode cX5_addLook 28 = .ok (.iadd, 1) := by decide +kernel
theorem dX5_addLook_29 : decode cX5_addLook 29 = .ok (.putfield 31, 3) := by decide +kernel
theorem dX5_addLook_32 : decode cX5_addLook 32 = .ok (.aload_n 0, 1) := by decide +kernel
theorem dX5_addLook_33 : decode cX5_addLook 33 = .ok (.getfield 31, 3) := by decide +kernel
theorem dX5_addLook_36 : decode cX5_addLook 36 = .ok (.ireturn, 1) := by decide +kernel
theorem dX5_judge_0 : decode cX5_judge 0 = .ok (.iconst 0, 1) := by decide +kernel
theorem dX5_judge_1 : decode cX5_judge 1 = .ok (.istore_n 3, 1) := by decide +kernel
theorem dX5_judge_2 : decode cX5_judge 2 = .ok (.iload_n 3, 1) := by decide +kernel
theorem dX5_judge_3 : decode cX5_judge 3 = .ok (.aload_n 0, 1) := by decide +kernel
theorem dX5_judge_4 : decode cX5_judge 4 = .ok (.getfield 31, 3) := by decide +kernel
theorem dX5_judge_7 : decode cX5_judge 7 = .ok (.if_icmp .ge 82, 3) := by decide +kernel
theorem dX5_judge_10 : decode cX5_judge 10 = .ok (.aload_n 0, 1) := by decide +kernel
theorem dX5_judge_11 : decode cX5_judge 11 = .ok (.getfield 15, 3) := by decide +kernel
theorem dX5_judge_14 : decode cX5_judge 14 = .ok (.iload_n 3, 1) := by decide +kernel
theorem dX5_judge_15 : decode cX5_judge 15 = .ok (.iaload, 1) := by decide +kernel
theorem dX5_judge_16 : decode cX5_judge 16 = .ok (.aload_n 0, 1) := by decide +kernel
theorem dX5_judge_17 : decode cX5_judge 17 = .ok (.getfield 28, 3) := by decide +kernel
theorem dX5_judge_20 : decode cX5_judge 20 = .ok (.if_icmp .gt 69, 3) := by decide +kernel
theorem dX5_judge_23 : decode cX5_judge 23 = .ok (.aload_n 0, 1) := by decide +kernel
theorem dX5_judge_24 : decode cX5_judge 24 = .ok (.aload_n 1, 1) := by decide +kernel
theorem dX5_judge_25 : decode cX5_judge 25 = .ok (.aload_n 0, 1) := by decide +kernel
theorem dX5_judge_26 : decode cX5_judge 26 = .ok (.getfield 9, 3) := by decide +kernel
theorem dX5_judge_29 : decode cX5_judge 29 = .ok (.aload_n 0, 1) := by decide +kernel
theorem dX5_judge_30 : decode cX5_judge 30 = .ok (.getfield 15, 3) := by decide +kernel
theorem dX5_judge_33 : decode cX5_judge 33 = .ok (.iload_n 3, 1) := by decide +kernel
theorem dX5_judge_34 : decode cX5_judge 34 = .ok (.iaload, 1) := by decide +kernel
theorem dX5_judge_35 : decode cX5_judge 35 = .ok (.iconst 0, 1) := by decide +kernel
theorem dX5_judge_36 : decode cX5_judge 36 = .ok (.invokevirtual 37, 3) := by decide +kernel
theorem dX5_judge_39 : decode cX5_judge 39 = .ok (.aload_n 0, 1) := by decide +kernel
theorem dX5_judge_40 : decode cX5_judge 40 = .ok (.getfield 15, 3) := by decide +kernel
theorem dX5_judge_43 : decode cX5_judge 43 = .ok (.iload_n 3, 1) := by decide +kernel
theorem dX5_judge_44 : decode cX5_judge 44 = .ok (.iaload, 1) := by decide +kernel
theorem dX5_judge_45 : decode cX5_judge 45 = .ok (.invokevirtual 43, 3) := by decide +kernel
theorem dX5_judge_48 : decode cX5_judge 48 = .ok (.ifCond .eq 5, 3) := by decide +kernel
theorem dX5_judge_51 : decode cX5_judge 51 = .ok (.iconst 1, 1) := by decide +kernel
theorem dX5_judge_52 : decode cX5_judge 52 = .ok (.ireturn, 1) := by decide +kernel
theorem dX5_judge_53 : decode cX5_judge 53 = .ok (.aload_n 0, 1) := by decide +kernel
theorem dX5_judge_54 : decode cX5_judge 54 = .ok (.aload_n 1, 1) := by decide +kernel
theorem dX5_judge_55 : decode cX5_judge 55 = .ok (.aload_n 0, 1) := by decide +kernel
theorem dX5_judge_56 : decode cX5_judge 56 = .ok (.getfield 9, 3) := by decide +kernel
theorem dX5_judge_59 : decode cX5_judge 59 = .ok (.aload_n 0, 1) := by decide +kernel
theorem dX5_judge_60 : decode cX5_judge 60 = .ok (.getfield 15, 3) := by decide +kernel
theorem dX5_judge_63 : decode cX5_judge 63 = .ok (.iload_n 3, 1) := by decide +kernel
theorem dX5_judge_64 : decode cX5_judge 64 = .ok (.iaload, 1) := by decide +kernel
theorem dX5_judge_65 : decode cX5_judge 65 = .ok (.iconst 1, 1) := by decide +kernel
theorem dX5_judge_66 : decode cX5_judge 66 = .ok (.invokevirtual 37, 3) := by decide +kernel
theorem dX5_judge_69 : decode cX5_judge 69 = .ok (.aload_n 0, 1) := by decide +kernel
theorem dX5_judge_70 : decode cX5_judge 70 = .ok (.getfield 15, 3) := by decide +kernel
theorem dX5_judge_73 : decode cX5_judge 73 = .ok (.iload_n 3, 1) := by decide +kernel
theorem dX5_judge_74 : decode cX5_judge 74 = .ok (.iaload, 1) := by decide +kernel
theorem dX5_judge_75 : decode cX5_judge 75 = .ok (.invokevirtual 43, 3) := by decide +kernel
theorem dX5_judge_78 : decode cX5_judge 78 = .ok (.ifCond .eq 5, 3) := by decide +kernel
theorem dX5_judge_81 : decode cX5_judge 81 = .ok (.iconst 2, 1) := by decide +kernel
theorem dX5_judge_82 : decode cX5_judge 82 = .ok (.ireturn, 1) := by decide +kernel
theorem dX5_judge_83 : decode cX5_judge 83 = .ok (.iinc 3 1, 3) := by decide +kernel
theorem dX5_judge_86 : decode cX5_judge 86 = .ok (.goto (-84), 3) := by decide +kernel
theorem dX5_judge_89 : decode cX5_judge 89 = .ok (.aload_n 0, 1) := by decide +kernel
theorem dX5_judge_90 : decode cX5_judge 90 = .ok (.getfield 31, 3) := by decide +kernel
theorem dX5_judge_93 : decode cX5_judge 93 = .ok (.ifCond .eq 14, 3) := by decide +kernel
theorem dX5_judge_96 : decode cX5_judge 96 = .ok (.aload_n 0, 1) := by decide +kernel
theorem dX5_judge_97 : decode cX5_judge 97 = .ok (.getfield 28, 3) := by decide +kernel
theorem dX5_judge_100 : decode cX5_judge 100 = .ok (.aload_n 0, 1) := by decide +kernel
theorem dX5_judge_101 : decode cX5_judge 101 = .ok (.invokevirtual 47, 3) := by decide +kernel
theorem dX5_judge_104 : decode cX5_judge 104 = .ok (.if_icmp .ge 5, 3) := by decide +kernel
theorem dX5_judge_107 : decode cX5_judge 107 = .ok (.iconst 0, 1) := by decide +kernel
theorem dX5_judge_108 : decode cX5_judge 108 = .ok (.ireturn, 1) := by decide +kernel
theorem dX5_judge_109 : decode cX5_judge 109 = .ok (.aload_n 2, 1) := by decide +kernel
theorem dX5_judge_110 : decode cX5_judge 110 = .ok (.invokevirtual 51, 3) := by decide +kernel
theorem dX5_judge_113 : decode cX5_judge 113 = .ok (.iconst 0, 1) := by decide +kernel
theorem dX5_judge_114 : decode cX5_judge 114 = .ok (.istore_n 3, 1) := by decide +kernel
theorem dX5_judge_115 : decode cX5_judge 115 = .ok (.iload_n 3, 1) := by decide +kernel
theorem dX5_judge_116 : decode cX5_judge 116 = .ok (.aload_n 0, 1) := by decide +kernel
theorem dX5_judge_117 : decode cX5_judge 117 = .ok (.invokevirtual 47, 3) := by decide +kernel
theorem dX5_judge_120 : decode cX5_judge 120 = .ok (.if_icmp .ge 19, 3) := by decide +kernel
theorem dX5_judge_123 : decode cX5_judge 123 = .ok (.aload_n 2, 1) := by decide +kernel
theorem dX5_judge_124 : decode cX5_judge 124 = .ok (.aload_n 0, 1) := by decide +kernel
theorem dX5_judge_125 : decode cX5_judge 125 = .ok (.getfield 9, 3) := by decide +kernel
theorem dX5_judge_128 : decode cX5_judge 128 = .ok (.iload_n 3, 1) := by decide +kernel
theorem dX5_judge_129 : decode cX5_judge 129 = .ok (.iaload, 1) := by decide +kernel
theorem dX5_judge_130 : decode cX5_judge 130 = .ok (.invokevirtual 56, 3) := by decide +kernel
theorem dX5_judge_133 : decode cX5_judge 133 = .ok (.iinc 3 1, 3) := by decide +kernel
theorem dX5_judge_136 : decode cX5_judge 136 = .ok (.goto (-21), 3) := by decide +kernel
theorem dX5_judge_139 : decode cX5_judge 139 = .ok (.aload_n 2, 1) := by decide +kernel
theorem dX5_judge_140 : decode cX5_judge 140 = .ok (.invokevirtual 60, 3) := by decide +kernel
theorem dX5_judge_143 : decode cX5_judge 143 = .ok (.invokestatic 63, 3) := by decide +kernel
theorem dX5_judge_146 : decode cX5_judge 146 = .ok (.aload_n 0, 1) := by decide +kernel
theorem dX5_judge_147 : decode cX5_judge 147 = .ok (.getfield 34, 3) := by decide +kernel
theorem dX5_judge_150 : decode cX5_judge 150 = .ok (.if_icmp .gt 7, 3) := by decide +kernel
theorem dX5_judge_153 : decode cX5_judge 153 = .ok (.iconst 3, 1) := by decide +kernel
theorem dX5_judge_154 : decode cX5_judge 154 = .ok (.goto 4, 3) := by decide +kernel
theorem dX5_judge_157 : decode cX5_judge 157 = .ok (.iconst 4, 1) := by decide +kernel
theorem dX5_judge_158 : decode cX5_judge 158 = .ok (.ireturn, 1) := by decide +kernel
theorem dX5_isRare_0 : decode cX5_isRare 0 = .ok (.iload_n 1, 1) := by decide +kernel
theorem dX5_isRare_1 : decode cX5_isRare 1 = .ok (.i2l, 1) := by decide +kernel
theorem dX5_isRare_2 : decode cX5_isRare 2 = .ok (.aload_n 0, 1) := by decide +kernel
theorem dX5_isRare_3 : decode cX5_isRare 3 = .ok (.getfield 18, 3) := by decide +kernel
theorem dX5_isRare_6 : decode cX5_isRare 6 = .ok (.i2l, 1) := by decide +kernel
theorem dX5_isRare_7 : decode cX5_isRare 7 = .ok (.lmul, 1) := by decide +kernel
theorem dX5_isRare_8 : decode cX5_isRare 8 = .ok (.aload_n 0, 1) := by decide +kernel
theorem dX5_isRare_9 : decode cX5_isRare 9 = .ok (.getfield 31, 3) := by decide +kernel
theorem dX5_isRare_12 : decode cX5_isRare 12 = .ok (.i2l, 1) := by decide +kernel
theorem dX5_isRare_13 : decode cX5_isRare 13 = .ok (.lmul, 1) := by decide +kernel
theorem dX5_isRare_14 : decode cX5_isRare 14 = .ok (.lconst 1, 1) := by decide +kernel
theorem dX5_isRare_15 : decode cX5_isRare 15 = .ok (.iload_n 2, 1) := by decide +kernel
theorem dX5_isRare_16 : decode cX5_isRare 16 = .ok (.lshl, 1) := by decide +kernel
theorem dX5_isRare_17 : decode cX5_isRare 17 = .ok (.lcmp, 1) := by decide +kernel
theorem dX5_isRare_18 : decode cX5_isRare 18 = .ok (.ifCond .gt 7, 3) := by decide +kernel
theorem dX5_isRare_21 : decode cX5_isRare 21 = .ok (.iconst 1, 1) := by decide +kernel
theorem dX5_isRare_22 : decode cX5_isRare 22 = .ok (.goto 4, 3) := by decide +kernel
theorem dX5_isRare_25 : decode cX5_isRare 25 = .ok (.iconst 0, 1) := by decide +kernel
theorem dX5_isRare_26 : decode cX5_isRare 26 = .ok (.ireturn, 1) := by decide +kernel
theorem dX6_init_0 : decode cX6_init 0 = .ok (.aload_n 0, 1) := by decide +kernel
theorem dX6_init_1 : decode cX6_init 1 = .ok (.invokespecial 3, 3) := by decide +kernel
theorem dX6_init_4 : decode cX6_init 4 = .ok (.aload_n 0, 1) := by decide +kernel
theorem dX6_init_5 : decode cX6_init 5 = .ok (.bipush 6, 2) := by decide +kernel
theorem dX6_init_7 : decode cX6_init 7 = .ok (.newarray .int, 2) := by decide +kernel
theorem dX6_init_9 : decode cX6_init 9 = .ok (.putfield 9, 3) := by decide +kernel
theorem dX6_init_12 : decode cX6_init 12 = .ok (.aload_n 0, 1) := by decide +kernel
theorem dX6_init_13 : decode cX6_init 13 = .ok (.sipush 960, 3) := by decide +kernel
theorem dX6_init_16 : decode cX6_init 16 = .ok (.newarray .int, 2) := by decide +kernel
theorem dX6_init_18 : decode cX6_init 18 = .ok (.putfield 15, 3) := by decide +kernel
theorem dX6_init_21 : decode cX6_init 21 = .ok (.aload_n 0, 1) := by decide +kernel
theorem dX6_init_22 : decode cX6_init 22 = .ok (.bipush 10, 2) := by decide +kernel
theorem dX6_init_24 : decode cX6_init 24 = .ok (.newarray .int, 2) := by decide +kernel
theorem dX6_init_26 : decode cX6_init 26 = .ok (.putfield 18, 3) := by decide +kernel
theorem dX6_init_29 : decode cX6_init 29 = .ok (.aload_n 0, 1) := by decide +kernel
theorem dX6_init_30 : decode cX6_init 30 = .ok (.bipush 10, 2) := by decide +kernel
theorem dX6_init_32 : decode cX6_init 32 = .ok (.newarray .int, 2) := by decide +kernel
theorem dX6_init_34 : decode cX6_init 34 = .ok (.putfield 21, 3) := by decide +kernel
theorem dX6_init_37 : decode cX6_init 37 = .ok (.aload_n 0, 1) := by decide +kernel
theorem dX6_init_38 : decode cX6_init 38 = .ok (.bipush 40, 2) := by decide +kernel
theorem dX6_init_40 : decode cX6_init 40 = .ok (.newarray .int, 2) := by decide +kernel
theorem dX6_init_42 : decode cX6_init 42 = .ok (.putfield 24, 3) := by decide +kernel
theorem dX6_init_45 : decode cX6_init 45 = .ok (.aload_n 0, 1) := by decide +kernel
theorem dX6_init_46 : decode cX6_init 46 = .ok (.bipush 24, 2) := by decide +kernel
theorem dX6_init_48 : decode cX6_init 48 = .ok (.newarray .int, 2) := by decide +kernel
theorem dX6_init_50 : decode cX6_init 50 = .ok (.putfield 27, 3) := by decide +kernel
theorem dX6_init_53 : decode cX6_init 53 = .ok (.aload_n 0, 1) := by decide +kernel
theorem dX6_init_54 : decode cX6_init 54 = .ok (.bipush 24, 2) := by decide +kernel
theorem dX6_init_56 : decode cX6_init 56 = .ok (.newarray .int, 2) := by decide +kernel
theorem dX6_init_58 : decode cX6_init 58 = .ok (.putfield 30, 3) := by decide +kernel
theorem dX6_init_61 : decode cX6_init 61 = .ok (.aload_n 0, 1) := by decide +kernel
theorem dX6_init_62 : decode cX6_init 62 = .ok (.bipush 32, 2) := by decide +kernel
theorem dX6_init_64 : decode cX6_init 64 = .ok (.newarray .int, 2) := by decide +kernel
theorem dX6_init_66 : decode cX6_init 66 = .ok (.putfield 33, 3) := by decide +kernel
theorem dX6_init_69 : decode cX6_init 69 = .ok (.return_, 1) := by decide +kernel
theorem dX6_takeFrom_0 : decode cX6_takeFrom 0 = .ok (.aload_n 0, 1) := by decide +kernel
theorem dX6_takeFrom_1 : decode cX6_takeFrom 1 = .ok (.aload_n 1, 1) := by decide +kernel
theorem dX6_takeFrom_2 : decode cX6_takeFrom 2 = .ok (.getfield 36, 3) := by decide +kernel
theorem dX6_takeFrom_5 : decode cX6_takeFrom 5 = .ok (.putfield 36, 3) := by decide +kernel
theorem dX6_takeFrom_8 : decode cX6_takeFrom 8 = .ok (.aload_n 1, 1) := by decide +kernel
theorem dX6_takeFrom_9 : decode cX6_takeFrom 9 = .ok (.getfield 9, 3) := by decide +kernel
theorem dX6_takeFrom_12 : decode cX6_takeFrom 12 = .ok (.iconst 0, 1) := by decide +kernel
theorem dX6_takeFrom_13 : decode cX6_takeFrom 13 = .ok (.aload_n 0, 1) := by decide +kernel
theorem dX6_takeFrom_14 : decode cX6_takeFrom 14 = .ok (.getfield 9, 3) := by decide +kernel
theorem dX6_takeFrom_17 : decode cX6_takeFrom 17 = .ok (.iconst 0, 1) := by decide +kernel
theorem dX6_takeFrom_18 : decode cX6_takeFrom 18 = .ok (.aload_n 0, 1) := by decide +kernel
theorem dX6_takeFrom_19 : decode cX6_takeFrom 19 = .ok (.getfield 9, 3) := by decide +kernel
theorem dX6_takeFrom_22 : decode cX6_takeFrom 22 = .ok (.arraylength, 1) := by decide +kernel
theorem dX6_takeFrom_23 : decode cX6_takeFrom 23 = .ok (.invokestatic 40, 3) := by decide +kernel
theorem dX6_takeFrom_26 : decode cX6_takeFrom 26 = .ok (.aload_n 1, 1) := by decide +kernel
theorem dX6_takeFrom_27 : decode cX6_takeFrom 27 = .ok (.getfield 15, 3) := by decide +kernel
theorem dX6_takeFrom_30 : decode cX6_takeFrom 30 = .ok (.iconst 0, 1) := by decide +kernel
theorem dX6_takeFrom_31 : decode cX6_takeFrom 31 = .ok (.aload_n 0, 1) := by decide +kernel
theorem dX6_takeFrom_32 : decode cX6_takeFrom 32 = .ok (.getfield 15, 3) := by decide +kernel
theorem dX6_takeFrom_35 : decode cX6_takeFrom 35 = .ok (.iconst 0, 1) := by decide +kernel
theorem dX6_takeFrom_36 : decode cX6_takeFrom 36 = .ok (.aload_n 0, 1) := by decide +kernel
theorem dX6_takeFrom_37 : decode cX6_takeFrom 37 = .ok (.getfield 15, 3) := by decide +kernel
theorem dX6_takeFrom_40 : decode cX6_takeFrom 40 = .ok (.arraylength, 1) := by decide +kernel
theorem dX6_takeFrom_41 : decode cX6_takeFrom 41 = .ok (.invokestatic 40, 3) := by decide +kernel
theorem dX6_takeFrom_44 : decode cX6_takeFrom 44 = .ok (.aload_n 0, 1) := by decide +kernel
theorem dX6_takeFrom_45 : decode cX6_takeFrom 45 = .ok (.aload_n 1, 1) := by decide +kernel
theorem dX6_takeFrom_46 : decode cX6_takeFrom 46 = .ok (.getfield 46, 3) := by decide +kernel
theorem dX6_takeFrom_49 : decode cX6_takeFrom 49 = .ok (.putfield 46, 3) := by decide +kernel
theorem dX6_takeFrom_52 : decode cX6_takeFrom 52 = .ok (.aload_n 1, 1) := by decide +kernel
theorem dX6_takeFrom_53 : decode cX6_takeFrom 53 = .ok (.getfield 18, 3) := by decide +kernel
theorem dX6_takeFrom_56 : decode cX6_takeFrom 56 = .ok (.iconst 0, 1) := by decide +kernel
theorem dX6_takeFrom_57 : decode cX6_takeFrom 57 = .ok (.aload_n 0, 1) := by decide +kernel
theorem dX6_takeFrom_58 : decode cX6_takeFrom 58 = .ok (.getfield 18, 3) := by decide +kernel
theorem dX6_takeFrom_61 : decode cX6_takeFrom 61 = .ok (.iconst 0, 1) := by decide +kernel
theorem dX6_takeFrom_62 : decode cX6_takeFrom 62 = .ok (.aload_n 0, 1) := by decide +kernel
theorem dX6_takeFrom_63 : decode cX6_takeFrom 63 = .ok (.getfield 18, 3) := by decide +kernel
theorem dX6_takeFrom_66 : decode cX6_takeFrom 66 = .ok (.arraylength, 1) := by decide +kernel
theorem dX6_takeFrom_67 : decode cX6_takeFrom 67 = .ok (.invokestatic 40, 3) := by decide +kernel
theorem dX6_takeFrom_70 : decode cX6_takeFrom 70 = .ok (.aload_n 1, 1) := by decide +kernel
theorem dX6_takeFrom_71 : decode cX6_takeFrom 71 = .ok (.getfield 21, 3) := by decide +kernel
theorem dX6_takeFrom_74 : decode cX6_takeFrom 74 = .ok (.iconst 0, 1) := by decide +kernel
theorem dX6_takeFrom_75 : decode cX6_takeFrom 75 = .ok (.aload_n 0, 1) := by decide +kernel
theorem dX6_takeFrom_76 : decode cX6_takeFrom 76 = .ok (.getfield 21, 3) := by decide +kernel
theorem dX6_takeFrom_79 : decode cX6_takeFrom 79 = .ok (.iconst 0, 1) := by decide +kernel
theorem dX6_takeFrom_80 : decode cX6_takeFrom 80 = .ok (.aload_n 0, 1) := by decide +kernel
theorem dX6_takeFrom_81 : decode cX6_takeFrom 81 = .ok (.getfield 21, 3) := by decide +kernel
theorem dX6_takeFrom_84 : decode cX6_takeFrom 84 = .ok (.arraylength, 1) := by decide +kernel
theorem dX6_takeFrom_85 : decode cX6_takeFrom 85 = .ok (.invokestatic 40, 3) := by decide +kernel
theorem dX6_takeFrom_88 : decode cX6_takeFrom 88 = .ok (.aload_n 1, 1) := by decide +kernel
theorem dX6_takeFrom_89 : decode cX6_takeFrom 89 = .ok (.getfield 24, 3) := by decide +kernel
theorem dX6_takeFrom_92 : decode cX6_takeFrom 92 = .ok (.iconst 0, 1) := by decide +kernel
theorem dX6_takeFrom_93 : decode cX6_takeFrom 93 = .ok (.aload_n 0, 1) := by decide +kernel
theorem dX6_takeFrom_94 : decode cX6_takeFrom 94 = .ok (.getfield 24, 3) := by decide +kernel
theorem dX6_takeFrom_97 : decode cX6_takeFrom 97 = .ok (.iconst 0, 1) := by decide +kernel
theorem dX6_takeFrom_98 : decode cX6_takeFrom 98 = .ok (.aload_n 0, 1) := by decide +kernel
theorem dX6_takeFrom_99 : decode cX6_takeFrom 99 = .ok (.getfield 24, 3) := by decide +kernel
theorem dX6_takeFrom_102 : decode cX6_takeFrom 102 = .ok (.arraylength, 1) := by decide +kernel
theorem dX6_takeFrom_103 : decode cX6_takeFrom 103 = .ok (.invokestatic 40, 3) := by decide +kernel
theorem dX6_takeFrom_106 : decode cX6_takeFrom 106 = .ok (.aload_n 0, 1) := by decide +kernel
theorem dX6_takeFrom_107 : decode cX6_takeFrom 107 = .ok (.aload_n 1, 1) := by decide +kernel
theorem dX6_takeFrom_108 : decode cX6_takeFrom 108 = .ok (.getfield 49, 3) := by decide +kernel
theorem dX6_takeFrom_111 : decode cX6_takeFrom 111 = .ok (.putfield 49, 3) := by decide +kernel
theorem dX6_takeFrom_114 : decode cX6_takeFrom 114 = .ok (.aload_n 1, 1) := by decide +kernel
theorem dX6_takeFrom_115 : decode cX6_takeFrom 115 = .ok (.getfield 27, 3) := by decide +kernel
theorem dX6_takeFrom_118 : decode cX6_takeFrom 118 = .ok (.iconst 0, 1) := by decide +kernel
theorem dX6_takeFrom_119 : decode cX6_takeFrom 119 = .ok (.aload_n 0, 1) := by decide +kernel
theorem dX6_takeFrom_120 : decode cX6_takeFrom 120 = .ok (.getfield 27, 3) := by decide +kernel
theorem dX6_takeFrom_123 : decode cX6_takeFrom 123 = .ok (.iconst 0, 1) := by decide +kernel
theorem dX6_takeFrom_124 : decode cX6_takeFrom 124 = .ok (.aload_n 0, 1) := by decide +kernel
theorem dX6_takeFrom_125 : decode cX6_takeFrom 125 = .ok (.getfield 27, 3) := by decide +kernel
theorem dX6_takeFrom_128 : decode cX6_takeFrom 128 = .ok (.arraylength, 1) := by decide +kernel
theorem dX6_takeFrom_129 : decode cX6_takeFrom 129 = .ok (.invokestatic 40, 3) := by decide +kernel
theorem dX6_takeFrom_132 : decode cX6_takeFrom 132 = .ok (.aload_n 1, 1) := by decide +kernel
theorem dX6_takeFrom_133 : decode cX6_takeFrom 133 = .ok (.getfield 30, 3) := by decide +kernel
theorem dX6_takeFrom_136 : decode cX6_takeFrom 136 = .ok (.iconst 0, 1) := by decide +kernel
theorem dX6_takeFrom_137 : decode cX6_takeFrom 137 = .ok (.aload_n 0, 1) := by decide +kernel
theorem dX6_takeFrom_138 : decode cX6_takeFrom 138 = .ok (.getfield 30, 3) := by decide +kernel
theorem dX6_takeFrom_141 : decode cX6_takeFrom 141 = .ok (.iconst 0, 1) := by decide +kernel
theorem dX6_takeFrom_142 : decode cX6_takeFrom 142 = .ok (.aload_n 0, 1) := by decide +kernel
theorem dX6_takeFrom_143 : decode cX6_takeFrom 143 = .ok (.getfield 30, 3) := by decide +kernel
theorem dX6_takeFrom_146 : decode cX6_takeFrom 146 = .ok (.arraylength, 1) := by decide +kernel
theorem dX6_takeFrom_147 : decode cX6_takeFrom 147 = .ok (.invokestatic 40, 3) := by decide +kernel
theorem dX6_takeFrom_150 : decode cX6_takeFrom 150 = .ok (.aload_n 0, 1) := by decide +kernel
theorem dX6_takeFrom_151 : decode cX6_takeFrom 151 = .ok (.aload_n 1, 1) := by decide +kernel
theorem dX6_takeFrom_152 : decode cX6_takeFrom 152 = .ok (.getfield 52, 3) := by decide +kernel
theorem dX6_takeFrom_155 : decode cX6_takeFrom 155 = .ok (.putfield 52, 3) := by decide +kernel
theorem dX6_takeFrom_158 : decode cX6_takeFrom 158 = .ok (.aload_n 1, 1) := by decide +kernel
theorem dX6_takeFrom_159 : decode cX6_takeFrom 159 = .ok (.getfield 33, 3) := by decide +kernel
theorem dX6_takeFrom_162 : decode cX6_takeFrom 162 = .ok (.iconst 0, 1) := by decide +kernel
theorem dX6_takeFrom_163 : decode cX6_takeFrom 163 = .ok (.aload_n 0, 1) := by decide +kernel
theorem dX6_takeFrom_164 : decode cX6_takeFrom 164 = .ok (.getfield 33, 3) := by decide +kernel
theorem dX6_takeFrom_167 : decode cX6_takeFrom 167 = .ok (.iconst 0, 1) := by decide +kernel
theorem dX6_takeFrom_168 : decode cX6_takeFrom 168 = .ok (.aload_n 0, 1) := by decide +kernel
theorem dX6_takeFrom_169 : decode cX6_takeFrom 169 = .ok (.getfield 33, 3) := by decide +kernel
theorem dX6_takeFrom_172 : decode cX6_takeFrom 172 = .ok (.arraylength, 1) := by decide +kernel
theorem dX6_takeFrom_173 : decode cX6_takeFrom 173 = .ok (.invokestatic 40, 3) := by decide +kernel
theorem dX6_takeFrom_176 : decode cX6_takeFrom 176 = .ok (.return_, 1) := by decide +kernel
theorem dX6_addProgram_0 : decode cX6_addProgram 0 = .ok (.aload_n 0, 1) := by decide +kernel
theorem dX6_addProgram_1 : decode cX6_addProgram 1 = .ok (.getfield 36, 3) := by decide +kernel
theorem dX6_addProgram_4 : decode cX6_addProgram 4 = .ok (.bipush 6, 2) := by decide +kernel
theorem dX6_addProgram_6 : decode cX6_addProgram 6 = .ok (.if_icmp .lt 6, 3) := by decide +kernel
theorem dX6_addProgram_9 : decode cX6_addProgram 9 = .ok (.bipush (-4), 2) := by decide +kernel
theorem dX6_addProgram_11 : decode cX6_addProgram 11 = .ok (.ireturn, 1) := by decide +kernel
theorem dX6_addProgram_12 : decode cX6_addProgram 12 = .ok (.aload_n 0, 1) := by decide +kernel
theorem dX6_addProgram_13 : decode cX6_addProgram 13 = .ok (.getfield 9, 3) := by decide +kernel
theorem dX6_addProgram_16 : decode cX6_addProgram 16 = .ok (.aload_n 0, 1) := by decide +kernel
theorem dX6_addProgram_17 : decode cX6_addProgram 17 = .ok (.getfield 36, 3) := by decide +kernel
theorem dX6_addProgram_20 : decode cX6_addProgram 20 = .ok (.iconst 0, 1) := by decide +kernel
theorem dX6_addProgram_21 : decode cX6_addProgram 21 = .ok (.iastore, 1) := by decide +kernel
theorem dX6_addProgram_22 : decode cX6_addProgram 22 = .ok (.aload_n 0, 1) := by decide +kernel
theorem dX6_addProgram_23 : decode cX6_addProgram 23 = .ok (.dup, 1) := by decide +kernel
theorem dX6_addProgram_24 : decode cX6_addProgram 24 = .ok (.getfield 36, 3) := by decide +kernel
theorem dX6_addProgram_27 : decode cX6_addProgram 27 = .ok (.iconst 1, 1) := by decide +kernel
theorem dX6_addProgram_28 : decode cX6_addProgram 28 = .ok (.iadd, 1) := by decide +kernel
theorem dX6_addProgram_29 : decode cX6_addProgram 29 = .ok (.putfield 36, 3) := by decide +kernel
theorem dX6_addProgram_32 : decode cX6_addProgram 32 = .ok (.aload_n 0, 1) := by decide +kernel
theorem dX6_addProgram_33 : decode cX6_addProgram 33 = .ok (.getfield 36, 3) := by decide +kernel
theorem dX6_addProgram_36 : decode cX6_addProgram 36 = .ok (.iconst 1, 1) := by decide +kernel
theorem dX6_addProgram_37 : decode cX6_addProgram 37 = .ok (.isub, 1) := by decide +kernel
theorem dX6_addProgram_38 : decode cX6_addProgram 38 = .ok (.ireturn, 1) := by decide +kernel
theorem dX6_addLine_0 : decode cX6_addLine 0 = .ok (.aload_n 0, 1) := by decide +kernel
theorem dX6_addLine_1 : decode cX6_addLine 1 = .ok (.getfield 9, 3) := by decide +kernel
theorem dX6_addLine_4 : decode cX6_addLine 4 = .ok (.iload_n 1, 1) := by decide +kernel
theorem dX6_addLine_5 : decode cX6_addLine 5 = .ok (.iaload, 1) := by decide +kernel
theorem dX6_addLine_6 : decode cX6_addLine 6 = .ok (.istore 6, 2) := by decide +kernel
theorem dX6_addLine_8 : decode cX6_addLine 8 = .ok (.iload 6, 2) := by decide +kernel
theorem dX6_addLine_10 : decode cX6_addLine 10 = .ok (.bipush 40, 2) := by decide +kernel
theorem dX6_addLine_12 : decode cX6_addLine 12 = .ok (.if_icmp .lt 6, 3) := by decide +kernel
theorem dX6_addLine_15 : decode cX6_addLine 15 = .ok (.bipush (-4), 2) := by decide +kernel
theorem dX6_addLine_17 : decode cX6_addLine 17 = .ok (.ireturn, 1) := by decide +kernel
theorem dX6_addLine_18 : decode cX6_addLine 18 = .ok (.aload_n 0, 1) := by decide +kernel
theorem dX6_addLine_19 : decode cX6_addLine 19 = .ok (.getfield 15, 3) := by decide +kernel
theorem dX6_addLine_22 : decode cX6_addLine 22 = .ok (.iload_n 1, 1) := by decide +kernel
theorem dX6_addLine_23 : decode cX6_addLine 23 = .ok (.bipush 40, 2) := by decide +kernel
theorem dX6_addLine_25 : decode cX6_addLine 25 = .ok (.imul, 1) := by decide +kernel
theorem dX6_addLine_26 : decode cX6_addLine 26 = .ok (.iload 6, 2) := by decide +kernel
theorem dX6_addLine_28 : decode cX6_addLine 28 = .ok (.iadd, 1) := by decide +kernel
theorem dX6_addLine_29 : decode cX6_addLine 29 = .ok (.iconst 4, 1) := by decide +kernel
theorem dX6_addLine_30 : decode cX6_addLine 30 = .ok (.imul, 1) := by decide +kernel
theorem dX6_addLine_31 : decode cX6_addLine 31 = .ok (.iload_n 2, 1) := by decide +kernel
theorem dX6_addLine_32 : decode cX6_addLine 32 = .ok (.iload_n 3, 1) := by decide +kernel
theorem dX6_addLine_33 : decode cX6_addLine 33 = .ok (.iload 4, 2) := by decide +kernel
theorem dX6_addLine_35 : decode cX6_addLine 35 = .ok (.iload 5, 2) := by decide +kernel
theorem dX6_addLine_37 : decode cX6_addLine 37 = .ok (.invokestatic 55, 3) := by decide +kernel
theorem dX6_addLine_40 : decode cX6_addLine 40 = .ok (.aload_n 0, 1) := by decide +kernel
theorem dX6_addLine_41 : decode cX6_addLine 41 = .ok (.getfield 9, 3) := by decide +kernel
theorem dX6_addLine_44 : decode cX6_addLine 44 = .ok (.iload_n 1, 1) := by decide +kernel
theorem dX6_addLine_45 : decode cX6_addLine 45 = .ok (.iload 6, 2) := by decide +kernel
theorem dX6_addLine_47 : decode cX6_addLine 47 = .ok (.iconst 1, 1) := by decide +kernel
theorem dX6_addLine_48 : decode cX6_addLine 48 = .ok (.iadd, 1) := by decide +kernel
theorem dX6_addLine_49 : decode cX6_addLine 49 = .ok (.iastore, 1) := by decide +kernel
theorem dX6_addLine_50 : decode cX6_addLine 50 = .ok (.iload 6, 2) := by decide +kernel
theorem dX6_addLine_52 : decode cX6_addLine 52 = .ok (.ireturn, 1) := by decide +kernel
theorem dX6_addChange_0 : decode cX6_addChange 0 = .ok (.aload_n 0, 1) := by decide +kernel
theorem dX6_addChange_1 : decode cX6_addChange 1 = .ok (.getfield 46, 3) := by decide +kernel
theorem dX6_addChange_4 : decode cX6_addChange 4 = .ok (.bipush 10, 2) := by decide +kernel
theorem dX6_addChange_6 : decode cX6_addChange 6 = .ok (.if_icmp .lt 6, 3) := by decide +kernel
theorem dX6_addChange_9 : decode cX6_addChange 9 = .ok (.bipush (-4), 2) := by decide +kernel
theorem dX6_addChange_11 : decode cX6_addChange 11 = .ok (.ireturn, 1) := by decide +kernel
theorem dX6_addChange_12 : decode cX6_addChange 12 = .ok (.aload_n 0, 1) := by decide +kernel
theorem dX6_addChange_13 : decode cX6_addChange 13 = .ok (.getfield 24, 3) := by decide +kernel
theorem dX6_addChange_16 : decode cX6_addChange 16 = .ok (.aload_n 0, 1) := by decide +kernel
theorem dX6_addChange_17 : decode cX6_addChange 17 = .ok (.getfield 46, 3) := by decide +kernel
theorem dX6_addChange_20 : decode cX6_addChange 20 = .ok (.iconst 4, 1) := by decide +kernel
theorem dX6_addChange_21 : decode cX6_addChange 21 = .ok (.imul, 1) := by decide +kernel
theorem dX6_addChange_22 : decode cX6_addChange 22 = .ok (.iload_n 3, 1) := by decide +kernel
theorem dX6_addChange_23 : decode cX6_addChange 23 = .ok (.iload 4, 2) := by decide +kernel
theorem dX6_addChange_25 : decode cX6_addChange 25 = .ok (.iload 5, 2) := by decide +kernel
theorem dX6_addChange_27 : decode cX6_addChange 27 = .ok (.iload 6, 2) := by decide +kernel
theorem dX6_addChange_29 : decode cX6_addChange 29 = .ok (.invokestatic 55, 3) := by decide +kernel
theorem dX6_addChange_32 : decode cX6_addChange 32 = .ok (.aload_n 0, 1) := by decide +kernel
theorem dX6_addChange_33 : decode cX6_addChange 33 = .ok (.getfield 18, 3) := by decide +kernel
theorem dX6_addChange_36 : decode cX6_addChange 36 = .ok (.aload_n 0, 1) := by decide +kernel
theorem dX6_addChange_37 : decode cX6_addChange 37 = .ok (.getfield 46, 3) := by decide +kernel
theorem dX6_addChange_40 : decode cX6_addChange 40 = .ok (.iload_n 1, 1) := by decide +kernel
theorem dX6_addChange_41 : decode cX6_addChange 41 = .ok (.iastore, 1) := by decide +kernel
theorem dX6_addChange_42 : decode cX6_addChange 42 = .ok (.aload_n 0, 1) := by decide +kernel
theorem dX6_addChange_43 : decode cX6_addChange 43 = .ok (.getfield 21, 3) := by decide +kernel
theorem dX6_addChange_46 : decode cX6_addChange 46 = .ok (.aload_n 0, 1) := by decide +kernel
theorem dX6_addChange_47 : decode cX6_addChange 47 = .ok (.getfield 46, 3) := by decide +kernel
theorem dX6_addChange_50 : decode cX6_addChange 50 = .ok (.iload_n 2, 1) := by decide +kernel
theorem dX6_addChange_51 : decode cX6_addChange 51 = .ok (.iastore, 1) := by decide +kernel
theorem dX6_addChange_52 : decode cX6_addChange 52 = .ok (.aload_n 0, 1) := by decide +kernel
theorem dX6_addChange_53 : decode cX6_addChange 53 = .ok (.dup, 1) := by decide +kernel
theorem dX6_addChange_54 : decode cX6_addChange 54 = .ok (.getfield 46, 3) := by decide +kernel
theorem dX6_addChange_57 : decode cX6_addChange 57 = .ok (.iconst 1, 1) := by decide +kernel
theorem dX6_addChange_58 : decode cX6_addChange 58 = .ok (.iadd, 1) := by decide +kernel
theorem dX6_addChange_59 : decode cX6_addChange 59 = .ok (.putfield 46, 3) := by decide +kernel
theorem dX6_addChange_62 : decode cX6_addChange 62 = .ok (.aload_n 0, 1) := by decide +kernel
theorem dX6_addChange_63 : decode cX6_addChange 63 = .ok (.getfield 46, 3) := by decide +kernel
theorem dX6_addChange_66 : decode cX6_addChange 66 = .ok (.iconst 1, 1) := by decide +kernel
theorem dX6_addChange_67 : decode cX6_addChange 67 = .ok (.isub, 1) := by decide +kernel
theorem dX6_addChange_68 : decode cX6_addChange 68 = .ok (.ireturn, 1) := by decide +kernel
theorem dX6_addBuild_0 : decode cX6_addBuild 0 = .ok (.aload_n 0, 1) := by decide +kernel
theorem dX6_addBuild_1 : decode cX6_addBuild 1 = .ok (.getfield 49, 3) := by decide +kernel
theorem dX6_addBuild_4 : decode cX6_addBuild 4 = .ok (.bipush 24, 2) := by decide +kernel
theorem dX6_addBuild_6 : decode cX6_addBuild 6 = .ok (.if_icmp .lt 6, 3) := by decide +kernel
theorem dX6_addBuild_9 : decode cX6_addBuild 9 = .ok (.bipush (-4), 2) := by decide +kernel
theorem dX6_addBuild_11 : decode cX6_addBuild 11 = .ok (.ireturn, 1) := by decide +kernel
theorem dX6_addBuild_12 : decode cX6_addBuild 12 = .ok (.aload_n 0, 1) := by decide +kernel
theorem dX6_addBuild_13 : decode cX6_addBuild 13 = .ok (.getfield 27, 3) := by decide +kernel
theorem dX6_addBuild_16 : decode cX6_addBuild 16 = .ok (.aload_n 0, 1) := by decide +kernel
theorem dX6_addBuild_17 : decode cX6_addBuild 17 = .ok (.getfield 49, 3) := by decide +kernel
theorem dX6_addBuild_20 : decode cX6_addBuild 20 = .ok (.iload_n 1, 1) := by decide +kernel
theorem dX6_addBuild_21 : decode cX6_addBuild 21 = .ok (.iastore, 1) := by decide +kernel
theorem dX6_addBuild_22 : decode cX6_addBuild 22 = .ok (.aload_n 0, 1) := by decide +kernel
theorem dX6_addBuild_23 : decode cX6_addBuild 23 = .ok (.getfield 30, 3) := by decide +kernel
theorem dX6_addBuild_26 : decode cX6_addBuild 26 = .ok (.aload_n 0, 1) := by decide +kernel
theorem dX6_addBuild_27 : decode cX6_addBuild 27 = .ok (.getfield 49, 3) := by decide +kernel
theorem dX6_addBuild_30 : decode cX6_addBuild 30 = .ok (.iload_n 2, 1) := by decide +kernel
theorem dX6_addBuild_31 : decode cX6_addBuild 31 = .ok (.iastore, 1) := by decide +kernel
theorem dX6_addBuild_32 : decode cX6_addBuild 32 = .ok (.aload_n 0, 1) := by decide +kernel
theorem dX6_addBuild_33 : decode cX6_addBuild 33 = .ok (.dup, 1) := by decide +kernel
theorem dX6_addBuild_34 : decode cX6_addBuild 34 = .ok (.getfield 49, 3) := by decide +kernel
theorem dX6_addBuild_37 : decode cX6_addBuild 37 = .ok (.iconst 1, 1) := by decide +kernel
theorem dX6_addBuild_38 : decode cX6_addBuild 38 = .ok (.iadd, 1) := by decide +kernel
theorem dX6_addBuild_39 : decode cX6_addBuild 39 = .ok (.putfield 49, 3) := by decide +kernel
theorem dX6_addBuild_42 : decode cX6_addBuild 42 = .ok (.aload_n 0, 1) := by decide +kernel
theorem dX6_addBuild_43 : decode cX6_addBuild 43 = .ok (.getfield 49, 3) := by decide +kernel
theorem dX6_addBuild_46 : decode cX6_addBuild 46 = .ok (.iconst 1, 1) := by decide +kernel
theorem dX6_addBuild_47 : decode cX6_addBuild 47 = .ok (.isub, 1) := by decide +kernel
theorem dX6_addBuild_48 : decode cX6_addBuild 48 = .ok (.ireturn, 1) := by decide +kernel
theorem dX6_addSetting_0 : decode cX6_addSetting 0 = .ok (.aload_n 0, 1) := by decide +kernel
theorem dX6_addSetting_1 : decode cX6_addSetting 1 = .ok (.getfield 52, 3) := by decide +kernel
theorem dX6_addSetting_4 : decode cX6_addSetting 4 = .ok (.bipush 8, 2) := by decide +kernel
theorem dX6_addSetting_6 : decode cX6_addSetting 6 = .ok (.if_icmp .lt 6, 3) := by decide +kernel
theorem dX6_addSetting_9 : decode cX6_addSetting 9 = .ok (.bipush (-4), 2) := by decide +kernel
theorem dX6_addSetting_11 : decode cX6_addSetting 11 = .ok (.ireturn, 1) := by decide +kernel
theorem dX6_addSetting_12 : decode cX6_addSetting 12 = .ok (.aload_n 0, 1) := by decide +kernel
theorem dX6_addSetting_13 : decode cX6_addSetting 13 = .ok (.getfield 52, 3) := by decide +kernel
theorem dX6_addSetting_16 : decode cX6_addSetting 16 = .ok (.iconst 4, 1) := by decide +kernel
theorem dX6_addSetting_17 : decode cX6_addSetting 17 = .ok (.imul, 1) := by decide +kernel
theorem dX6_addSetting_18 : decode cX6_addSetting 18 = .ok (.istore 5, 2) := by decide +kernel
theorem dX6_addSetting_20 : decode cX6_addSetting 20 = .ok (.aload_n 0, 1) := by decide +kernel
theorem dX6_addSetting_21 : decode cX6_addSetting 21 = .ok (.getfield 33, 3) := by decide +kernel
theorem dX6_addSetting_24 : decode cX6_addSetting 24 = .ok (.iload 5, 2) := by decide +kernel
theorem dX6_addSetting_26 : decode cX6_addSetting 26 = .ok (.iload_n 1, 1) := by decide +kernel
theorem dX6_addSetting_27 : decode cX6_addSetting 27 = .ok (.iastore, 1) := by decide +kernel
theorem dX6_addSetting_28 : decode cX6_addSetting 28 = .ok (.aload_n 0, 1) := by decide +kernel
theorem dX6_addSetting_29 : decode cX6_addSetting 29 = .ok (.getfield 33, 3) := by decide +kernel
theorem dX6_addSetting_32 : decode cX6_addSetting 32 = .ok (.iload 5, 2) := by decide +kernel
theorem dX6_addSetting_34 : decode cX6_addSetting 34 = .ok (.iconst 1, 1) := by decide +kernel
theorem dX6_addSetting_35 : decode cX6_addSetting 35 = .ok (.iadd, 1) := by decide +kernel
theorem dX6_addSetting_36 : decode cX6_addSetting 36 = .ok (.iload_n 2, 1) := by decide +kernel
theorem dX6_addSetting_37 : decode cX6_addSetting 37 = .ok (.iastore, 1) := by decide +kernel
theorem dX6_addSetting_38 : decode cX6_addSetting 38 = .ok (.aload_n 0, 1) := by decide +kernel
theorem dX6_addSetting_39 : decode cX6_addSetting 39 = .ok (.getfield 33, 3) := by decide +kernel
theorem dX6_addSetting_42 : decode cX6_addSetting 42 = .ok (.iload 5, 2) := by decide +kernel
theorem dX6_addSetting_44 : decode cX6_addSetting 44 = .ok (.iconst 2, 1) := by decide +kernel
theorem dX6_addSetting_45 : decode cX6_addSetting 45 = .ok (.iadd, 1) := by decide +kernel
theorem dX6_addSetting_46 : decode cX6_addSetting 46 = .ok (.iload_n 3, 1) := by decide +kernel
theorem dX6_addSetting_47 : decode cX6_addSetting 47 = .ok (.iastore, 1) := by decide +kernel
theorem dX6_addSetting_48 : decode cX6_addSetting 48 = .ok (.aload_n 0, 1) := by decide +kernel
theorem dX6_addSetting_49 : decode cX6_addSetting 49 = .ok (.getfield 33, 3) := by decide +kernel
theorem dX6_addSetting_52 : decode cX6_addSetting 52 = .ok (.iload 5, 2) := by decide +kernel
theorem dX6_addSetting_54 : decode cX6_addSetting 54 = .ok (.iconst 3, 1) := by decide +kernel
theorem dX6_addSetting_55 : decode cX6_addSetting 55 = .ok (.iadd, 1) := by decide +kernel
theorem dX6_addSetting_56 : decode cX6_addSetting 56 = .ok (.iload 4, 2) := by decide +kernel
theorem dX6_addSetting_58 : decode cX6_addSetting 58 = .ok (.iastore, 1) := by decide +kernel
theorem dX6_addSetting_59 : decode cX6_addSetting 59 = .ok (.aload_n 0, 1) := by decide +kernel
theorem dX6_addSetting_60 : decode cX6_addSetting 60 = .ok (.dup, 1) := by decide +kernel
theorem dX6_addSetting_61 : decode cX6_addSetting 61 = .ok (.getfield 52, 3) := by decide +kernel
theorem dX6_addSetting_64 : decode cX6_addSetting 64 = .ok (.iconst 1, 1) := by decide +kernel
theorem dX6_addSetting_65 : decode cX6_addSetting 65 = .ok (.iadd, 1) := by decide +kernel
theorem dX6_addSetting_66 : decode cX6_addSetting 66 = .ok (.putfield 52, 3) := by decide +kernel
theorem dX6_addSetting_69 : decode cX6_addSetting 69 = .ok (.aload_n 0, 1) := by decide +kernel
theorem dX6_addSetting_70 : decode cX6_addSetting 70 = .ok (.getfield 52, 3) := by decide +kernel
theorem dX6_addSetting_73 : decode cX6_addSetting 73 = .ok (.iconst 1, 1) := by decide +kernel
theorem dX6_addSetting_74 : decode cX6_addSetting 74 = .ok (.isub, 1) := by decide +kernel
theorem dX6_addSetting_75 : decode cX6_addSetting 75 = .ok (.ireturn, 1) := by decide +kernel
theorem dX6_isBuilt_0 : decode cX6_isBuilt 0 = .ok (.iconst 0, 1) := by decide +kernel
theorem dX6_isBuilt_1 : decode cX6_isBuilt 1 = .ok (.istore_n 2, 1) := by decide +kernel
theorem dX6_isBuilt_2 : decode cX6_isBuilt 2 = .ok (.iload_n 2, 1) := by decide +kernel
theorem dX6_isBuilt_3 : decode cX6_isBuilt 3 = .ok (.aload_n 0, 1) := by decide +kernel
theorem dX6_isBuilt_4 : decode cX6_isBuilt 4 = .ok (.getfield 49, 3) := by decide +kernel
theorem dX6_isBuilt_7 : decode cX6_isBuilt 7 = .ok (.if_icmp .ge 21, 3) := by decide +kernel
theorem dX6_isBuilt_10 : decode cX6_isBuilt 10 = .ok (.aload_n 0, 1) := by decide +kernel
theorem dX6_isBuilt_11 : decode cX6_isBuilt 11 = .ok (.getfield 27, 3) := by decide +kernel
theorem dX6_isBuilt_14 : decode cX6_isBuilt 14 = .ok (.iload_n 2, 1) := by decide +kernel
theorem dX6_isBuilt_15 : decode cX6_isBuilt 15 = .ok (.iaload, 1) := by decide +kernel
theorem dX6_isBuilt_16 : decode cX6_isBuilt 16 = .ok (.iload_n 1, 1) := by decide +kernel
theorem dX6_isBuilt_17 : decode cX6_isBuilt 17 = .ok (.if_icmp .ne 5, 3) := by decide +kernel
theorem dX6_isBuilt_20 : decode cX6_isBuilt 20 = .ok (.iconst 1, 1) := by decide +kernel
theorem dX6_isBuilt_21 : decode cX6_isBuilt 21 = .ok (.ireturn, 1) := by decide +kernel
theorem dX6_isBuilt_22 : decode cX6_isBuilt 22 = .ok (.iinc 2 1, 3) := by decide +kernel
theorem dX6_isBuilt_25 : decode cX6_isBuilt 25 = .ok (.goto (-23), 3) := by decide +kernel
theorem dX6_isBuilt_28 : decode cX6_isBuilt 28 = .ok (.iconst 0, 1) := by decide +kernel
theorem dX6_isBuilt_29 : decode cX6_isBuilt 29 = .ok (.ireturn, 1) := by decide +kernel
theorem dX6_fits_0 : decode cX6_fits 0 = .ok (.lconst 0, 1) := by decide +kernel
theorem dX6_fits_1 : decode cX6_fits 1 = .ok (.lstore_n 3, 1) := by decide +kernel
theorem dX6_fits_2 : decode cX6_fits 2 = .ok (.iconst 0, 1) := by decide +kernel
theorem dX6_fits_3 : decode cX6_fits 3 = .ok (.istore 5, 2) := by decide +kernel
theorem dX6_fits_5 : decode cX6_fits 5 = .ok (.iload 5, 2) := by decide +kernel
theorem dX6_fits_7 : decode cX6_fits 7 = .ok (.aload_n 0, 1) := by decide +kernel
theorem dX6_fits_8 : decode cX6_fits 8 = .ok (.getfield 46, 3) := by decide +kernel
theorem dX6_fits_11 : decode cX6_fits 11 = .ok (.if_icmp .ge 57, 3) := by decide +kernel
theorem dX6_fits_14 : decode cX6_fits 14 = .ok (.iload_n 2, 1) := by decide +kernel
theorem dX6_fits_15 : decode cX6_fits 15 = .ok (.iload 5, 2) := by decide +kernel
theorem dX6_fits_17 : decode cX6_fits 17 = .ok (.ishr, 1) := by decide +kernel
theorem dX6_fits_18 : decode cX6_fits 18 = .ok (.iconst 1, 1) := by decide +kernel
theorem dX6_fits_19 : decode cX6_fits 19 = .ok (.iand, 1) := by decide +kernel
theorem dX6_fits_20 : decode cX6_fits 20 = .ok (.iconst 1, 1) := by decide +kernel
theorem dX6_fits_21 : decode cX6_fits 21 = .ok (.if_icmp .ne 41, 3) := by decide +kernel
theorem dX6_fits_24 : decode cX6_fits 24 = .ok (.lconst 1, 1) := by decide +kernel
theorem dX6_fits_25 : decode cX6_fits 25 = .ok (.aload_n 0, 1) := by decide +kernel
theorem dX6_fits_26 : decode cX6_fits 26 = .ok (.getfield 21, 3) := by decide +kernel
theorem dX6_fits_29 : decode cX6_fits 29 = .ok (.iload 5, 2) := by decide +kernel
theorem dX6_fits_31 : decode cX6_fits 31 = .ok (.iaload, 1) := by decide +kernel
theorem dX6_fits_32 : decode cX6_fits 32 = .ok (.lshl, 1) := by decide +kernel
theorem dX6_fits_33 : decode cX6_fits 33 = .ok (.lstore 6, 2) := by decide +kernel
theorem dX6_fits_35 : decode cX6_fits 35 = .ok (.aload_n 0, 1) := by decide +kernel
theorem dX6_fits_36 : decode cX6_fits 36 = .ok (.getfield 18, 3) := by decide +kernel
theorem dX6_fits_39 : decode cX6_fits 39 = .ok (.iload 5, 2) := by decide +kernel
theorem dX6_fits_41 : decode cX6_fits 41 = .ok (.iaload, 1) := by decide +kernel
theorem dX6_fits_42 : decode cX6_fits 42 = .ok (.iload_n 1, 1) := by decide +kernel
theorem dX6_fits_43 : decode cX6_fits 43 = .ok (.if_icmp .ne 12, 3) := by decide +kernel
theorem dX6_fits_46 : decode cX6_fits 46 = .ok (.lload_n 3, 1) := by decide +kernel
theorem dX6_fits_47 : decode cX6_fits 47 = .ok (.lload 6, 2) := by decide +kernel
theorem dX6_fits_49 : decode cX6_fits 49 = .ok (.land, 1) := by decide +kernel
theorem dX6_fits_50 : decode cX6_fits 50 = .ok (.lconst 0, 1) := by decide +kernel
theorem dX6_fits_51 : decode cX6_fits 51 = .ok (.lcmp, 1) := by decide +kernel
theorem dX6_fits_52 : decode cX6_fits 52 = .ok (.ifCond .eq 5, 3) := by decide +kernel
theorem dX6_fits_55 : decode cX6_fits 55 = .ok (.iconst 0, 1) := by decide +kernel
theorem dX6_fits_56 : decode cX6_fits 56 = .ok (.ireturn, 1) := by decide +kernel
theorem dX6_fits_57 : decode cX6_fits 57 = .ok (.lload_n 3, 1) := by decide +kernel
theorem dX6_fits_58 : decode cX6_fits 58 = .ok (.lload 6, 2) := by decide +kernel
theorem dX6_fits_60 : decode cX6_fits 60 = .ok (.lor, 1) := by decide +kernel
theorem dX6_fits_61 : decode cX6_fits 61 = .ok (.lstore_n 3, 1) := by decide +kernel
theorem dX6_fits_62 : decode cX6_fits 62 = .ok (.iinc 5 1, 3) := by decide +kernel
theorem dX6_fits_65 : decode cX6_fits 65 = .ok (.goto (-60), 3) := by decide +kernel
theorem dX6_fits_68 : decode cX6_fits 68 = .ok (.iconst 1, 1) := by decide +kernel
theorem dX6_fits_69 : decode cX6_fits 69 = .ok (.ireturn, 1) := by decide +kernel
theorem dX7_init_0 : decode cX7_init 0 = .ok (.aload_n 0, 1) := by decide +kernel
theorem dX7_init_1 : decode cX7_init 1 = .ok (.invokespecial 3, 3) := by decide +kernel
theorem dX7_init_4 : decode cX7_init 4 = .ok (.aload_n 0, 1) := by decide +kernel
theorem dX7_init_5 : decode cX7_init 5 = .ok (.bipush 6, 2) := by decide +kernel
theorem dX7_init_7 : decode cX7_init 7 = .ok (.newarray .int, 2) := by decide +kernel
theorem dX7_init_9 : decode cX7_init 9 = .ok (.putfield 9, 3) := by decide +kernel
theorem dX7_init_12 : decode cX7_init 12 = .ok (.aload_n 0, 1) := by decide +kernel
theorem dX7_init_13 : decode cX7_init 13 = .ok (.sipush 160, 3) := by decide +kernel
theorem dX7_init_16 : decode cX7_init 16 = .ok (.newarray .int, 2) := by decide +kernel
theorem dX7_init_18 : decode cX7_init 18 = .ok (.putfield 15, 3) := by decide +kernel
theorem dX7_init_21 : decode cX7_init 21 = .ok (.aload_n 0, 1) := by decide +kernel
theorem dX7_init_22 : decode cX7_init 22 = .ok (.bipush 8, 2) := by decide +kernel
theorem dX7_init_24 : decode cX7_init 24 = .ok (.newarray .int, 2) := by decide +kernel
theorem dX7_init_26 : decode cX7_init 26 = .ok (.putfield 18, 3) := by decide +kernel
theorem dX7_init_29 : decode cX7_init 29 = .ok (.aload_n 0, 1) := by decide +kernel
theorem dX7_init_30 : decode cX7_init 30 = .ok (.bipush 64, 2) := by decide +kernel
theorem dX7_init_32 : decode cX7_init 32 = .ok (.newarray .int, 2) := by decide +kernel
theorem dX7_init_34 : decode cX7_init 34 = .ok (.putfield 21, 3) := by decide +kernel
theorem dX7_init_37 : decode cX7_init 37 = .ok (.aload_n 0, 1) := by decide +kernel
theorem dX7_init_38 : decode cX7_init 38 = .ok (.bipush 16, 2) := by decide +kernel
theorem dX7_init_40 : decode cX7_init 40 = .ok (.newarray .int, 2) := by decide +kernel
theorem dX7_init_42 : decode cX7_init 42 = .ok (.putfield 24, 3) := by decide +kernel
theorem dX7_init_45 : decode cX7_init 45 = .ok (.aload_n 0, 1) := by decide +kernel
theorem dX7_init_46 : decode cX7_init 46 = .ok (.bipush 16, 2) := by decide +kernel
theorem dX7_init_48 : decode cX7_init 48 = .ok (.newarray .int, 2) := by decide +kernel
theorem dX7_init_50 : decode cX7_init 50 = .ok (.putfield 27, 3) := by decide +kernel
theorem dX7_init_53 : decode cX7_init 53 = .ok (.aload_n 0, 1) := by decide +kernel
theorem dX7_init_54 : decode cX7_init 54 = .ok (.new 30, 3) := by decide +kernel
theorem dX7_init_57 : decode cX7_init 57 = .ok (.dup, 1) := by decide +kernel
theorem dX7_init_58 : decode cX7_init 58 = .ok (.invokespecial 32, 3) := by decide +kernel
theorem dX7_init_61 : decode cX7_init 61 = .ok (.putfield 33, 3) := by decide +kernel
theorem dX7_init_64 : decode cX7_init 64 = .ok (.aload_n 0, 1) := by decide +kernel
theorem dX7_init_65 : decode cX7_init 65 = .ok (.aload_n 0, 1) := by decide +kernel
theorem dX7_init_66 : decode cX7_init 66 = .ok (.getfield 24, 3) := by decide +kernel
theorem dX7_init_69 : decode cX7_init 69 = .ok (.putfield 37, 3) := by decide +kernel
theorem dX7_init_72 : decode cX7_init 72 = .ok (.aload_n 0, 1) := by decide +kernel
theorem dX7_init_73 : decode cX7_init 73 = .ok (.aload_n 0, 1) := by decide +kernel
theorem dX7_init_74 : decode cX7_init 74 = .ok (.getfield 27, 3) := by decide +kernel
theorem dX7_init_77 : decode cX7_init 77 = .ok (.putfield 40, 3) := by decide +kernel
theorem dX7_init_80 : decode cX7_init 80 = .ok (.return_, 1) := by decide +kernel
theorem dX7_goKept_0 : decode cX7_goKept 0 = .ok (.aload_n 0, 1) := by decide +kernel
theorem dX7_goKept_1 : decode cX7_goKept 1 = .ok (.aload_n 1, 1) := by decide +kernel
theorem dX7_goKept_2 : decode cX7_goKept 2 = .ok (.getfield 43, 3) := by decide +kernel
theorem dX7_goKept_5 : decode cX7_goKept 5 = .ok (.iload_n 3, 1) := by decide +kernel
theorem dX7_goKept_6 : decode cX7_goKept 6 = .ok (.aaload, 1) := by decide +kernel
theorem dX7_goKept_7 : decode cX7_goKept 7 = .ok (.putfield 33, 3) := by decide +kernel
theorem dX7_goKept_10 : decode cX7_goKept 10 = .ok (.aload_n 0, 1) := by decide +kernel
theorem dX7_goKept_11 : decode cX7_goKept 11 = .ok (.aload_n 0, 1) := by decide +kernel
theorem dX7_goKept_12 : decode cX7_goKept 12 = .ok (.getfield 33, 3) := by decide +kernel
theorem dX7_goKept_15 : decode cX7_goKept 15 = .ok (.getfield 49, 3) := by decide +kernel
theorem dX7_goKept_18 : decode cX7_goKept 18 = .ok (.putfield 37, 3) := by decide +kernel
theorem dX7_goKept_21 : decode cX7_goKept 21 = .ok (.aload_n 0, 1) := by decide +kernel
theorem dX7_goKept_22 : decode cX7_goKept 22 = .ok (.aload_n 0, 1) := by decide +kernel
theorem dX7_goKept_23 : decode cX7_goKept 23 = .ok (.getfield 33, 3) := by decide +kernel
theorem dX7_goKept_26 : decode cX7_goKept 26 = .ok (.getfield 50, 3) := by decide +kernel
theorem dX7_goKept_29 : decode cX7_goKept 29 = .ok (.putfield 40, 3) := by decide +kernel
theorem dX7_goKept_32 : decode cX7_goKept 32 = .ok (.iload 7, 2) := by decide +kernel
theorem dX7_goKept_34 : decode cX7_goKept 34 = .ok (.ifCond .ne 7, 3) := by decide +kernel
theorem dX7_goKept_37 : decode cX7_goKept 37 = .ok (.aload_n 0, 1) := by decide +kernel
theorem dX7_goKept_38 : decode cX7_goKept 38 = .ok (.invokevirtual 51, 3) := by decide +kernel
theorem dX7_goKept_41 : decode cX7_goKept 41 = .ok (.aload_n 0, 1) := by decide +kernel
theorem dX7_goKept_42 : decode cX7_goKept 42 = .ok (.aload_n 0, 1) := by decide +kernel
theorem dX7_goKept_43 : decode cX7_goKept 43 = .ok (.getfield 33, 3) := by decide +kernel
theorem dX7_goKept_46 : decode cX7_goKept 46 = .ok (.iload 5, 2) := by decide +kernel
theorem dX7_goKept_48 : decode cX7_goKept 48 = .ok (.invokevirtual 54, 3) := by decide +kernel
theorem dX7_goKept_51 : decode cX7_goKept 51 = .ok (.putfield 58, 3) := by decide +kernel
theorem dX7_goKept_54 : decode cX7_goKept 54 = .ok (.aload_n 0, 1) := by decide +kernel
theorem dX7_goKept_55 : decode cX7_goKept 55 = .ok (.aload_n 1, 1) := by decide +kernel
theorem dX7_goKept_56 : decode cX7_goKept 56 = .ok (.getfield 62, 3) := by decide +kernel
theorem dX7_goKept_59 : decode cX7_goKept 59 = .ok (.aload_n 1, 1) := by decide +kernel
theorem dX7_goKept_60 : decode cX7_goKept 60 = .ok (.getfield 62, 3) := by decide +kernel
theorem dX7_goKept_63 : decode cX7_goKept 63 = .ok (.getfield 66, 3) := by decide +kernel
theorem dX7_goKept_66 : decode cX7_goKept 66 = .ok (.iload_n 2, 1) := by decide +kernel
theorem dX7_goKept_67 : decode cX7_goKept 67 = .ok (.iaload, 1) := by decide +kernel
theorem dX7_goKept_68 : decode cX7_goKept 68 = .ok (.aload_n 1, 1) := by decide +kernel
theorem dX7_goKept_69 : decode cX7_goKept 69 = .ok (.getfield 62, 3) := by decide +kernel
theorem dX7_goKept_72 : decode cX7_goKept 72 = .ok (.getfield 71, 3) := by decide +kernel
theorem dX7_goKept_75 : decode cX7_goKept 75 = .ok (.iload_n 2, 1) := by decide +kernel
theorem dX7_goKept_76 : decode cX7_goKept 76 = .ok (.iaload, 1) := by decide +kernel
theorem dX7_goKept_77 : decode cX7_goKept 77 = .ok (.iload 4, 2) := by decide +kernel
theorem dX7_goKept_79 : decode cX7_goKept 79 = .ok (.invokevirtual 74, 3) := by decide +kernel
theorem dX7_goKept_82 : decode cX7_goKept 82 = .ok (.aload_n 0, 1) := by decide +kernel
theorem dX7_goKept_83 : decode cX7_goKept 83 = .ok (.aload_n 0, 1) := by decide +kernel
theorem dX7_goKept_84 : decode cX7_goKept 84 = .ok (.getfield 33, 3) := by decide +kernel
theorem dX7_goKept_87 : decode cX7_goKept 87 = .ok (.iload 5, 2) := by decide +kernel
theorem dX7_goKept_89 : decode cX7_goKept 89 = .ok (.iload 6, 2) := by decide +kernel
theorem dX7_goKept_91 : decode cX7_goKept 91 = .ok (.invokevirtual 78, 3) := by decide +kernel
theorem dX7_goKept_94 : decode cX7_goKept 94 = .ok (.invokevirtual 82, 3) := by decide +kernel
theorem dX7_goKept_97 : decode cX7_goKept 97 = .ok (.return_, 1) := by decide +kernel
theorem dX7_goPlain_0 : decode cX7_goPlain 0 = .ok (.aload_n 0, 1) := by decide +kernel
theorem dX7_goPlain_1 : decode cX7_goPlain 1 = .ok (.aload_n 1, 1) := by decide +kernel
theorem dX7_goPlain_2 : decode cX7_goPlain 2 = .ok (.iload_n 2, 1) := by decide +kernel
theorem dX7_goPlain_3 : decode cX7_goPlain 3 = .ok (.aload_n 1, 1) := by decide +kernel
theorem dX7_goPlain_4 : decode cX7_goPlain 4 = .ok (.getfield 62, 3) := by decide +kernel
theorem dX7_goPlain_7 : decode cX7_goPlain 7 = .ok (.getfield 71, 3) := by decide +kernel
theorem dX7_goPlain_10 : decode cX7_goPlain 10 = .ok (.iload_n 2, 1) := by decide +kernel
theorem dX7_goPlain_11 : decode cX7_goPlain 11 = .ok (.iaload, 1) := by decide +kernel
theorem dX7_goPlain_12 : decode cX7_goPlain 12 = .ok (.iload_n 3, 1) := by decide +kernel
theorem dX7_goPlain_13 : decode cX7_goPlain 13 = .ok (.iload 4, 2) := by decide +kernel
theorem dX7_goPlain_15 : decode cX7_goPlain 15 = .ok (.invokevirtual 86, 3) := by decide +kernel
theorem dX7_goPlain_18 : decode cX7_goPlain 18 = .ok (.return_, 1) := by decide +kernel
theorem dX7_goPlainWith_0 : decode cX7_goPlainWith 0 = .ok (.aload_n 0, 1) := by decide +kernel
theorem dX7_goPlainWith_1 : decode cX7_goPlainWith 1 = .ok (.aload_n 1, 1) := by decide +kernel
theorem dX7_goPlainWith_2 : decode cX7_goPlainWith 2 = .ok (.getfield 43, 3) := by decide +kernel
theorem dX7_goPlainWith_5 : decode cX7_goPlainWith 5 = .ok (.iload 4, 2) := by decide +kernel
theorem dX7_goPlainWith_7 : decode cX7_goPlainWith 7 = .ok (.aaload, 1) := by decide +kernel
theorem dX7_goPlainWith_8 : decode cX7_goPlainWith 8 = .ok (.putfield 33, 3) := by decide +kernel
theorem dX7_goPlainWith_11 : decode cX7_goPlainWith 11 = .ok (.aload_n 0, 1) := by decide +kernel
theorem dX7_goPlainWith_12 : decode cX7_goPlainWith 12 = .ok (.invokevirtual 90, 3) := by decide +kernel
theorem dX7_goPlainWith_15 : decode cX7_goPlainWith 15 = .ok (.aload_n 0, 1) := by decide +kernel
theorem dX7_goPlainWith_16 : decode cX7_goPlainWith 16 = .ok (.iconst 0, 1) := by decide +kernel
theorem dX7_goPlainWith_17 : decode cX7_goPlainWith 17 = .ok (.putfield 58, 3) := by decide +kernel
theorem dX7_goPlainWith_20 : decode cX7_goPlainWith 20 = .ok (.aload_n 0, 1) := by decide +kernel
theorem dX7_goPlainWith_21 : decode cX7_goPlainWith 21 = .ok (.aload_n 1, 1) := by decide +kernel
theorem dX7_goPlainWith_22 : decode cX7_goPlainWith 22 = .ok (.getfield 62, 3) := by decide +kernel
theorem dX7_goPlainWith_25 : decode cX7_goPlainWith 25 = .ok (.aload_n 1, 1) := by decide +kernel
theorem dX7_goPlainWith_26 : decode cX7_goPlainWith 26 = .ok (.getfield 62, 3) := by decide +kernel
theorem dX7_goPlainWith_29 : decode cX7_goPlainWith 29 = .ok (.getfield 66, 3) := by decide +kernel
theorem dX7_goPlainWith_32 : decode cX7_goPlainWith 32 = .ok (.iload_n 2, 1) := by decide +kernel
theorem dX7_goPlainWith_33 : decode cX7_goPlainWith 33 = .ok (.iaload, 1) := by decide +kernel
theorem dX7_goPlainWith_34 : decode cX7_goPlainWith 34 = .ok (.iload_n 3, 1) := by decide +kernel
theorem dX7_goPlainWith_35 : decode cX7_goPlainWith 35 = .ok (.iload 5, 2) := by decide +kernel
theorem dX7_goPlainWith_37 : decode cX7_goPlainWith 37 = .ok (.invokevirtual 74, 3) := by decide +kernel
theorem dX7_goPlainWith_40 : decode cX7_goPlainWith 40 = .ok (.aload_n 0, 1) := by decide +kernel
theorem dX7_goPlainWith_41 : decode cX7_goPlainWith 41 = .ok (.iconst 0, 1) := by decide +kernel
theorem dX7_goPlainWith_42 : decode cX7_goPlainWith 42 = .ok (.invokevirtual 82, 3) := by decide +kernel
theorem dX7_goPlainWith_45 : decode cX7_goPlainWith 45 = .ok (.return_, 1) := by decide +kernel
theorem dX7_goAgain_0 : decode cX7_goAgain 0 = .ok (.aload_n 1, 1) := by decide +kernel
theorem dX7_goAgain_1 : decode cX7_goAgain 1 = .ok (.iload_n 2, 1) := by decide +kernel
theorem dX7_goAgain_2 : decode cX7_goAgain 2 = .ok (.bipush 7, 2) := by decide +kernel
theorem dX7_goAgain_4 : decode cX7_goAgain 4 = .ok (.invokevirtual 93, 3) := by decide +kernel
theorem dX7_goAgain_7 : decode cX7_goAgain 7 = .ok (.istore_n 3, 1) := by decide +kernel
theorem dX7_goAgain_8 : decode cX7_goAgain 8 = .ok (.aload_n 1, 1) := by decide +kernel
theorem dX7_goAgain_9 : decode cX7_goAgain 9 = .ok (.iload_n 2, 1) := by decide +kernel
theorem dX7_goAgain_10 : decode cX7_goAgain 10 = .ok (.bipush 10, 2) := by decide +kernel
theorem dX7_goAgain_12 : decode cX7_goAgain 12 = .ok (.invokevirtual 93, 3) := by decide +kernel
theorem dX7_goAgain_15 : decode cX7_goAgain 15 = .ok (.istore 4, 2) := by decide +kernel
theorem dX7_goAgain_17 : decode cX7_goAgain 17 = .ok (.aload_n 0, 1) := by decide +kernel
theorem dX7_goAgain_18 : decode cX7_goAgain 18 = .ok (.aload_n 1, 1) := by decide +kernel
theorem dX7_goAgain_19 : decode cX7_goAgain 19 = .ok (.getfield 43, 3) := by decide +kernel
theorem dX7_goAgain_22 : decode cX7_goAgain 22 = .ok (.aload_n 1, 1) := by decide +kernel
theorem dX7_goAgain_23 : decode cX7_goAgain 23 = .ok (.iload_n 2, 1) := by decide +kernel
theorem dX7_goAgain_24 : decode cX7_goAgain 24 = .ok (.bipush 8, 2) := by decide +kernel
theorem dX7_goAgain_26 : decode cX7_goAgain 26 = .ok (.invokevirtual 93, 3) := by decide +kernel
theorem dX7_goAgain_29 : decode cX7_goAgain 29 = .ok (.aaload, 1) := by decide +kernel
theorem dX7_goAgain_30 : decode cX7_goAgain 30 = .ok (.putfield 33, 3) := by decide +kernel
theorem dX7_goAgain_33 : decode cX7_goAgain 33 = .ok (.aload_n 0, 1) := by decide +kernel
theorem dX7_goAgain_34 : decode cX7_goAgain 34 = .ok (.invokevirtual 90, 3) := by decide +kernel
theorem dX7_goAgain_37 : decode cX7_goAgain 37 = .ok (.aload_n 0, 1) := by decide +kernel
theorem dX7_goAgain_38 : decode cX7_goAgain 38 = .ok (.aload_n 0, 1) := by decide +kernel
theorem dX7_goAgain_39 : decode cX7_goAgain 39 = .ok (.getfield 33, 3) := by decide +kernel
theorem dX7_goAgain_42 : decode cX7_goAgain 42 = .ok (.iload 4, 2) := by decide +kernel
theorem dX7_goAgain_44 : decode cX7_goAgain 44 = .ok (.invokevirtual 54, 3) := by decide +kernel
theorem dX7_goAgain_47 : decode cX7_goAgain 47 = .ok (.putfield 58, 3) := by decide +kernel
theorem dX7_goAgain_50 : decode cX7_goAgain 50 = .ok (.aload_n 0, 1) := by decide +kernel
theorem dX7_goAgain_51 : decode cX7_goAgain 51 = .ok (.aload_n 1, 1) := by decide +kernel
theorem dX7_goAgain_52 : decode cX7_goAgain 52 = .ok (.getfield 62, 3) := by decide +kernel
theorem dX7_goAgain_55 : decode cX7_goAgain 55 = .ok (.aload_n 1, 1) := by decide +kernel
theorem dX7_goAgain_56 : decode cX7_goAgain 56 = .ok (.getfield 62, 3) := by decide +kernel
theorem dX7_goAgain_59 : decode cX7_goAgain 59 = .ok (.getfield 66, 3) := by decide +kernel
theorem dX7_goAgain_62 : decode cX7_goAgain 62 = .ok (.iload_n 3, 1) := by decide +kernel
theorem dX7_goAgain_63 : decode cX7_goAgain 63 = .ok (.iaload, 1) := by decide +kernel
theorem dX7_goAgain_64 : decode cX7_goAgain 64 = .ok (.aload_n 1, 1) := by decide +kernel
theorem dX7_goAgain_65 : decode cX7_goAgain 65 = .ok (.getfield 62, 3) := by decide +kernel
theorem dX7_goAgain_68 : decode cX7_goAgain 68 = .ok (.getfield 71, 3) := by decide +kernel
theorem dX7_goAgain_71 : decode cX7_goAgain 71 = .ok (.iload_n 3, 1) := by decide +kernel
theorem dX7_goAgain_72 : decode cX7_goAgain 72 = .ok (.iaload, 1) := by decide +kernel
theorem dX7_goAgain_73 : decode cX7_goAgain 73 = .ok (.aload_n 1, 1) := by decide +kernel
theorem dX7_goAgain_74 : decode cX7_goAgain 74 = .ok (.iload_n 2, 1) := by decide +kernel
theorem dX7_goAgain_75 : decode cX7_goAgain 75 = .ok (.bipush 9, 2) := by decide +kernel
theorem dX7_goAgain_77 : decode cX7_goAgain 77 = .ok (.invokevirtual 93, 3) := by decide +kernel
theorem dX7_goAgain_80 : decode cX7_goAgain 80 = .ok (.invokevirtual 74, 3) := by decide +kernel
theorem dX7_goAgain_83 : decode cX7_goAgain 83 = .ok (.aload_n 0, 1) := by decide +kernel
theorem dX7_goAgain_84 : decode cX7_goAgain 84 = .ok (.aload_n 0, 1) := by decide +kernel
theorem dX7_goAgain_85 : decode cX7_goAgain 85 = .ok (.getfield 33, 3) := by decide +kernel
theorem dX7_goAgain_88 : decode cX7_goAgain 88 = .ok (.iload 4, 2) := by decide +kernel
theorem dX7_goAgain_90 : decode cX7_goAgain 90 = .ok (.aload_n 1, 1) := by decide +kernel
theorem dX7_goAgain_91 : decode cX7_goAgain 91 = .ok (.iload_n 2, 1) := by decide +kernel
theorem dX7_goAgain_92 : decode cX7_goAgain 92 = .ok (.bipush 11, 2) := by decide +kernel
theorem dX7_goAgain_94 : decode cX7_goAgain 94 = .ok (.invokevirtual 93, 3) := by decide +kernel
theorem dX7_goAgain_97 : decode cX7_goAgain 97 = .ok (.invokevirtual 78, 3) := by decide +kernel
theorem dX7_goAgain_100 : decode cX7_goAgain 100 = .ok (.invokevirtual 82, 3) := by decide +kernel
theorem dX7_goAgain_103 : decode cX7_goAgain 103 = .ok (.return_, 1) := by decide +kernel
theorem dX7_useOwn_0 : decode cX7_useOwn 0 = .ok (.aload_n 0, 1) := by decide +kernel
theorem dX7_useOwn_1 : decode cX7_useOwn 1 = .ok (.aload_n 0, 1) := by decide +kernel
theorem dX7_useOwn_2 : decode cX7_useOwn 2 = .ok (.getfield 24, 3) := by decide +kernel
theorem dX7_useOwn_5 : decode cX7_useOwn 5 = .ok (.putfield 37, 3) := by decide +kernel
theorem dX7_useOwn_8 : decode cX7_useOwn 8 = .ok (.aload_n 0, 1) := by decide +kernel
theorem dX7_useOwn_9 : decode cX7_useOwn 9 = .ok (.aload_n 0, 1) := by decide +kernel
theorem dX7_useOwn_10 : decode cX7_useOwn 10 = .ok (.getfield 27, 3) := by decide +kernel
theorem dX7_useOwn_13 : decode cX7_useOwn 13 = .ok (.putfield 40, 3) := by decide +kernel
theorem dX7_useOwn_16 : decode cX7_useOwn 16 = .ok (.aload_n 0, 1) := by decide +kernel
theorem dX7_useOwn_17 : decode cX7_useOwn 17 = .ok (.invokevirtual 51, 3) := by decide +kernel
theorem dX7_useOwn_20 : decode cX7_useOwn 20 = .ok (.return_, 1) := by decide +kernel
theorem dX7_empty_0 : decode cX7_empty 0 = .ok (.aload_n 0, 1) := by decide +kernel
theorem dX7_empty_1 : decode cX7_empty 1 = .ok (.getfield 37, 3) := by decide +kernel
theorem dX7_empty_4 : decode cX7_empty 4 = .ok (.iconst (-1), 1) := by decide +kernel
theorem dX7_empty_5 : decode cX7_empty 5 = .ok (.invokestatic 96, 3) := by decide +kernel
theorem dX7_empty_8 : decode cX7_empty 8 = .ok (.aload_n 0, 1) := by decide +kernel
theorem dX7_empty_9 : decode cX7_empty 9 = .ok (.getfield 40, 3) := by decide +kernel
theorem dX7_empty_12 : decode cX7_empty 12 = .ok (.iconst 0, 1) := by decide +kernel
theorem dX7_empty_13 : decode cX7_empty 13 = .ok (.invokestatic 96, 3) := by decide +kernel
theorem dX7_empty_16 : decode cX7_empty 16 = .ok (.return_, 1) := by decide +kernel
theorem dX7_begin_0 : decode cX7_begin 0 = .ok (.aload_n 0, 1) := by decide +kernel
theorem dX7_begin_1 : decode cX7_begin 1 = .ok (.aload_n 1, 1) := by decide +kernel
theorem dX7_begin_2 : decode cX7_begin 2 = .ok (.getfield 102, 3) := by decide +kernel
theorem dX7_begin_5 : decode cX7_begin 5 = .ok (.iload_n 2, 1) := by decide +kernel
theorem dX7_begin_6 : decode cX7_begin 6 = .ok (.iaload, 1) := by decide +kernel
theorem dX7_begin_7 : decode cX7_begin 7 = .ok (.putfield 105, 3) := by decide +kernel
theorem dX7_begin_10 : decode cX7_begin 10 = .ok (.aload_n 1, 1) := by decide +kernel
theorem dX7_begin_11 : decode cX7_begin 11 = .ok (.getfield 108, 3) := by decide +kernel
theorem dX7_begin_14 : decode cX7_begin 14 = .ok (.iload_n 2, 1) := by decide +kernel
theorem dX7_begin_15 : decode cX7_begin 15 = .ok (.bipush 40, 2) := by decide +kernel
theorem dX7_begin_17 : decode cX7_begin 17 = .ok (.imul, 1) := by decide +kernel
theorem dX7_begin_18 : decode cX7_begin 18 = .ok (.iconst 4, 1) := by decide +kernel
theorem dX7_begin_19 : decode cX7_begin 19 = .ok (.imul, 1) := by decide +kernel
theorem dX7_begin_20 : decode cX7_begin 20 = .ok (.aload_n 0, 1) := by decide +kernel
theorem dX7_begin_21 : decode cX7_begin 21 = .ok (.getfield 15, 3) := by decide +kernel
theorem dX7_begin_24 : decode cX7_begin 24 = .ok (.iconst 0, 1) := by decide +kernel
theorem dX7_begin_25 : decode cX7_begin 25 = .ok (.aload_n 0, 1) := by decide +kernel
theorem dX7_begin_26 : decode cX7_begin 26 = .ok (.getfield 105, 3) := by decide +kernel
theorem dX7_begin_29 : decode cX7_begin 29 = .ok (.iconst 4, 1) := by decide +kernel
theorem dX7_begin_30 : decode cX7_begin 30 = .ok (.imul, 1) := by decide +kernel
theorem dX7_begin_31 : decode cX7_begin 31 = .ok (.invokestatic 109, 3) := by decide +kernel
theorem dX7_begin_34 : decode cX7_begin 34 = .ok (.iconst 0, 1) := by decide +kernel
theorem dX7_begin_35 : decode cX7_begin 35 = .ok (.istore 5, 2) := by decide +kernel
theorem dX7_begin_37 : decode cX7_begin 37 = .ok (.iload 5, 2) := by decide +kernel
theorem dX7_begin_39 : decode cX7_begin 39 = .ok (.aload_n 1, 1) := by decide +kernel
theorem dX7_begin_40 : decode cX7_begin 40 = .ok (.getfield 115, 3) := by decide +kernel
theorem dX7_begin_43 : decode cX7_begin 43 = .ok (.if_icmp .ge 44, 3) := by decide +kernel
theorem dX7_begin_46 : decode cX7_begin 46 = .ok (.iload_n 3, 1) := by decide +kernel
theorem dX7_begin_47 : decode cX7_begin 47 = .ok (.iload 5, 2) := by decide +kernel
theorem dX7_begin_49 : decode cX7_begin 49 = .ok (.ishr, 1) := by decide +kernel
theorem dX7_begin_50 : decode cX7_begin 50 = .ok (.iconst 1, 1) := by decide +kernel
theorem dX7_begin_51 : decode cX7_begin 51 = .ok (.iand, 1) := by decide +kernel
theorem dX7_begin_52 : decode cX7_begin 52 = .ok (.iconst 1, 1) := by decide +kernel
theorem dX7_begin_53 : decode cX7_begin 53 = .ok (.if_icmp .ne 28, 3) := by decide +kernel
theorem dX7_begin_56 : decode cX7_begin 56 = .ok (.aload_n 1, 1) := by decide +kernel
theorem dX7_begin_57 : decode cX7_begin 57 = .ok (.getfield 118, 3) := by decide +kernel
theorem dX7_begin_60 : decode cX7_begin 60 = .ok (.iload 5, 2) := by decide +kernel
theorem dX7_begin_62 : decode cX7_begin 62 = .ok (.iconst 4, 1) := by decide +kernel
theorem dX7_begin_63 : decode cX7_begin 63 = .ok (.imul, 1) := by decide +kernel
theorem dX7_begin_64 : decode cX7_begin 64 = .ok (.aload_n 0, 1) := by decide +kernel
theorem dX7_begin_65 : decode cX7_begin 65 = .ok (.getfield 15, 3) := by decide +kernel
theorem dX7_begin_68 : decode cX7_begin 68 = .ok (.aload_n 1, 1) := by decide +kernel
theorem dX7_begin_69 : decode cX7_begin 69 = .ok (.getfield 121, 3) := by decide +kernel
theorem dX7_begin_72 : decode cX7_begin 72 = .ok (.iload 5, 2) := by decide +kernel
theorem dX7_begin_74 : decode cX7_begin 74 = .ok (.iaload, 1) := by decide +kernel
theorem dX7_begin_75 : decode cX7_begin 75 = .ok (.iconst 4, 1) := by decide +kernel
theorem dX7_begin_76 : decode cX7_begin 76 = .ok (.imul, 1) := by decide +kernel
theorem dX7_begin_77 : decode cX7_begin 77 = .ok (.iconst 4, 1) := by decide +kernel
theorem dX7_begin_78 : decode cX7_begin 78 = .ok (.invokestatic 109, 3) := by decide +kernel
theorem dX7_begin_81 : decode cX7_begin 81 = .ok (.iinc 5 1, 3) := by decide +kernel
theorem dX7_begin_84 : decode cX7_begin 84 = .ok (.goto (-47), 3) := by decide +kernel
theorem dX7_begin_87 : decode cX7_begin 87 = .ok (.aload_n 0, 1) := by decide +kernel
theorem dX7_begin_88 : decode cX7_begin 88 = .ok (.getfield 21, 3) := by decide +kernel
theorem dX7_begin_91 : decode cX7_begin 91 = .ok (.iconst 0, 1) := by decide +kernel
theorem dX7_begin_92 : decode cX7_begin 92 = .ok (.invokestatic 96, 3) := by decide +kernel
theorem dX7_begin_95 : decode cX7_begin 95 = .ok (.aload_n 0, 1) := by decide +kernel
theorem dX7_begin_96 : decode cX7_begin 96 = .ok (.getfield 18, 3) := by decide +kernel
theorem dX7_begin_99 : decode cX7_begin 99 = .ok (.iconst 0, 1) := by decide +kernel
theorem dX7_begin_100 : decode cX7_begin 100 = .ok (.invokestatic 96, 3) := by decide +kernel
theorem dX7_begin_103 : decode cX7_begin 103 = .ok (.aload_n 1, 1) := by decide +kernel
theorem dX7_begin_104 : decode cX7_begin 104 = .ok (.getfield 124, 3) := by decide +kernel
theorem dX7_begin_107 : decode cX7_begin 107 = .ok (.iload 4, 2) := by decide +kernel
theorem dX7_begin_109 : decode cX7_begin 109 = .ok (.iconst 4, 1) := by decide +kernel
theorem dX7_begin_110 : decode cX7_begin 110 = .ok (.imul, 1) := by decide +kernel
theorem dX7_begin_111 : decode cX7_begin 111 = .ok (.aload_n 0, 1) := by decide +kernel
theorem dX7_begin_112 : decode cX7_begin 112 = .ok (.getfield 18, 3) := by decide +kernel
theorem dX7_begin_115 : decode cX7_begin 115 = .ok (.iconst 4, 1) := by decide +kernel
theorem dX7_begin_116 : decode cX7_begin 116 = .ok (.iconst 4, 1) := by decide +kernel
theorem dX7_begin_117 : decode cX7_begin 117 = .ok (.invokestatic 109, 3) := by decide +kernel
theorem dX7_begin_120 : decode cX7_begin 120 = .ok (.return_, 1) := by decide +kernel
theorem dX7_go_0 : decode cX7_go 0 = .ok (.aload_n 0, 1) := by decide +kernel
theorem dX7_go_1 : decode cX7_go 1 = .ok (.getfield 9, 3) := by decide +kernel
theorem dX7_go_4 : decode cX7_go 4 = .ok (.iconst 0, 1) := by decide +kernel
theorem dX7_go_5 : decode cX7_go 5 = .ok (.invokestatic 96, 3) := by decide +kernel
theorem dX7_go_8 : decode cX7_go 8 = .ok (.iconst 0, 1) := by decide +kernel
theorem dX7_go_9 : decode cX7_go 9 = .ok (.istore_n 2, 1) := by decide +kernel
theorem dX7_go_10 : decode cX7_go 10 = .ok (.iconst 0, 1) := by decide +kernel
theorem dX7_go_11 : decode cX7_go 11 = .ok (.istore_n 3, 1) := by decide +kernel
theorem dX7_go_12 : decode cX7_go 12 = .ok (.iconst 0, 1) := by decide +kernel
theorem dX7_go_13 : decode cX7_go 13 = .ok (.istore 4, 2) := by decide +kernel
theorem dX7_go_15 : decode cX7_go 15 = .ok (.iload_n 2, 1) := by decide +kernel
theorem dX7_go_16 : decode cX7_go 16 = .ok (.sipush 2000, 3) := by decide +kernel
theorem dX7_go_19 : decode cX7_go 19 = .ok (.if_icmp .ge 87, 3) := by decide +kernel
theorem dX7_go_22 : decode cX7_go 22 = .ok (.iload 4, 2) := by decide +kernel
theorem dX7_go_24 : decode cX7_go 24 = .ok (.ifCond .lt 82, 3) := by decide +kernel
theorem dX7_go_27 : decode cX7_go 27 = .ok (.iload 4, 2) := by decide +kernel
theorem dX7_go_29 : decode cX7_go 29 = .ok (.aload_n 0, 1) := by decide +kernel
theorem dX7_go_30 : decode cX7_go 30 = .ok (.getfield 105, 3) := by decide +kernel
theorem dX7_go_33 : decode cX7_go 33 = .ok (.if_icmp .ge 73, 3) := by decide +kernel
theorem dX7_go_36 : decode cX7_go 36 = .ok (.aload_n 0, 1) := by decide +kernel
theorem dX7_go_37 : decode cX7_go 37 = .ok (.getfield 15, 3) := by decide +kernel
theorem dX7_go_40 : decode cX7_go 40 = .ok (.iload 4, 2) := by decide +kernel
theorem dX7_go_42 : decode cX7_go 42 = .ok (.iconst 4, 1) := by decide +kernel
theorem dX7_go_43 : decode cX7_go 43 = .ok (.imul, 1) := by decide +kernel
theorem dX7_go_44 : decode cX7_go 44 = .ok (.iaload, 1) := by decide +kernel
theorem dX7_go_45 : decode cX7_go 45 = .ok (.istore 5, 2) := by decide +kernel
theorem dX7_go_47 : decode cX7_go 47 = .ok (.iinc 2 1, 3) := by decide +kernel
theorem dX7_go_50 : decode cX7_go 50 = .ok (.iload_n 3, 1) := by decide +kernel
theorem dX7_go_51 : decode cX7_go 51 = .ok (.aload_n 0, 1) := by decide +kernel
theorem dX7_go_52 : decode cX7_go 52 = .ok (.getfield 33, 3) := by decide +kernel
theorem dX7_go_55 : decode cX7_go 55 = .ok (.getfield 127, 3) := by decide +kernel
theorem dX7_go_58 : decode cX7_go 58 = .ok (.iload 5, 2) := by decide +kernel
theorem dX7_go_60 : decode cX7_go 60 = .ok (.iaload, 1) := by decide +kernel
theorem dX7_go_61 : decode cX7_go 61 = .ok (.iadd, 1) := by decide +kernel
theorem dX7_go_62 : decode cX7_go 62 = .ok (.istore_n 3, 1) := by decide +kernel
theorem dX7_go_63 : decode cX7_go 63 = .ok (.iload 5, 2) := by decide +kernel
theorem dX7_go_65 : decode cX7_go 65 = .ok (.bipush 7, 2) := by decide +kernel
theorem dX7_go_67 : decode cX7_go 67 = .ok (.if_icmp .ne 10, 3) := by decide +kernel
theorem dX7_go_70 : decode cX7_go 70 = .ok (.aload_n 0, 1) := by decide +kernel
theorem dX7_go_71 : decode cX7_go 71 = .ok (.getfield 105, 3) := by decide +kernel
theorem dX7_go_74 : decode cX7_go 74 = .ok (.goto 27, 3) := by decide +kernel
theorem dX7_go_77 : decode cX7_go 77 = .ok (.iload 5, 2) := by decide +kernel
theorem dX7_go_79 : decode cX7_go 79 = .ok (.bipush 6, 2) := by decide +kernel
theorem dX7_go_81 : decode cX7_go 81 = .ok (.if_icmp .ne 12, 3) := by decide +kernel
theorem dX7_go_84 : decode cX7_go 84 = .ok (.aload_n 0, 1) := by decide +kernel
theorem dX7_go_85 : decode cX7_go 85 = .ok (.iload 4, 2) := by decide +kernel
theorem dX7_go_87 : decode cX7_go 87 = .ok (.invokevirtual 130, 3) := by decide +kernel
theorem dX7_go_90 : decode cX7_go 90 = .ok (.goto 11, 3) := by decide +kernel
theorem dX7_go_93 : decode cX7_go 93 = .ok (.aload_n 0, 1) := by decide +kernel
theorem dX7_go_94 : decode cX7_go 94 = .ok (.iload 5, 2) := by decide +kernel
theorem dX7_go_96 : decode cX7_go 96 = .ok (.iload 4, 2) := by decide +kernel
theorem dX7_go_98 : decode cX7_go 98 = .ok (.invokevirtual 133, 3) := by decide +kernel
theorem dX7_go_101 : decode cX7_go 101 = .ok (.istore 4, 2) := by decide +kernel
theorem dX7_go_103 : decode cX7_go 103 = .ok (.goto (-88), 3) := by decide +kernel
theorem dX7_go_106 : decode cX7_go 106 = .ok (.aload_n 0, 1) := by decide +kernel
theorem dX7_go_107 : decode cX7_go 107 = .ok (.getfield 9, 3) := by decide +kernel
theorem dX7_go_110 : decode cX7_go 110 = .ok (.iconst 0, 1) := by decide +kernel
theorem dX7_go_111 : decode cX7_go 111 = .ok (.iload_n 2, 1) := by decide +kernel
theorem dX7_go_112 : decode cX7_go 112 = .ok (.iastore, 1) := by decide +kernel
theorem dX7_go_113 : decode cX7_go 113 = .ok (.aload_n 0, 1) := by decide +kernel
theorem dX7_go_114 : decode cX7_go 114 = .ok (.iload 4, 2) := by decide +kernel
theorem dX7_go_116 : decode cX7_go 116 = .ok (.aload_n 0, 1) := by decide +kernel
theorem dX7_go_117 : decode cX7_go 117 = .ok (.getfield 105, 3) := by decide +kernel
theorem dX7_go_120 : decode cX7_go 120 = .ok (.if_icmp .ge 7, 3) := by decide +kernel
theorem dX7_go_123 : decode cX7_go 123 = .ok (.iconst 1, 1) := by decide +kernel
theorem dX7_go_124 : decode cX7_go 124 = .ok (.goto 4, 3) := by decide +kernel
theorem dX7_go_127 : decode cX7_go 127 = .ok (.iconst 0, 1) := by decide +kernel
theorem dX7_go_128 : decode cX7_go 128 = .ok (.putfield 136, 3) := by decide +kernel
theorem dX7_go_131 : decode cX7_go 131 = .ok (.aload_n 0, 1) := by decide +kernel
theorem dX7_go_132 : decode cX7_go 132 = .ok (.getfield 9, 3) := by decide +kernel
theorem dX7_go_135 : decode cX7_go 135 = .ok (.iconst 5, 1) := by decide +kernel
theorem dX7_go_136 : decode cX7_go 136 = .ok (.aload_n 0, 1) := by decide +kernel
theorem dX7_go_137 : decode cX7_go 137 = .ok (.getfield 136, 3) := by decide +kernel
theorem dX7_go_140 : decode cX7_go 140 = .ok (.ifCond .eq 7, 3) := by decide +kernel
theorem dX7_go_143 : decode cX7_go 143 = .ok (.iconst (-1), 1) := by decide +kernel
theorem dX7_go_144 : decode cX7_go 144 = .ok (.goto 36, 3) := by decide +kernel
theorem dX7_go_147 : decode cX7_go 147 = .ok (.iload_n 3, 1) := by decide +kernel
theorem dX7_go_148 : decode cX7_go 148 = .ok (.aload_n 0, 1) := by decide +kernel
theorem dX7_go_149 : decode cX7_go 149 = .ok (.getfield 9, 3) := by decide +kernel
theorem dX7_go_152 : decode cX7_go 152 = .ok (.iconst 2, 1) := by decide +kernel
theorem dX7_go_153 : decode cX7_go 153 = .ok (.iaload, 1) := by decide +kernel
theorem dX7_go_154 : decode cX7_go 154 = .ok (.aload_n 0, 1) := by decide +kernel
theorem dX7_go_155 : decode cX7_go 155 = .ok (.getfield 33, 3) := by decide +kernel
theorem dX7_go_158 : decode cX7_go 158 = .ok (.getfield 140, 3) := by decide +kernel
theorem dX7_go_161 : decode cX7_go 161 = .ok (.imul, 1) := by decide +kernel
theorem dX7_go_162 : decode cX7_go 162 = .ok (.iadd, 1) := by decide +kernel
theorem dX7_go_163 : decode cX7_go 163 = .ok (.aload_n 0, 1) := by decide +kernel
theorem dX7_go_164 : decode cX7_go 164 = .ok (.getfield 9, 3) := by decide +kernel
theorem dX7_go_167 : decode cX7_go 167 = .ok (.iconst 4, 1) := by decide +kernel
theorem dX7_go_168 : decode cX7_go 168 = .ok (.iaload, 1) := by decide +kernel
theorem dX7_go_169 : decode cX7_go 169 = .ok (.aload_n 0, 1) := by decide +kernel
theorem dX7_go_170 : decode cX7_go 170 = .ok (.getfield 33, 3) := by decide +kernel
theorem dX7_go_173 : decode cX7_go 173 = .ok (.getfield 143, 3) := by decide +kernel
theorem dX7_go_176 : decode cX7_go 176 = .ok (.imul, 1) := by decide +kernel
theorem dX7_go_177 : decode cX7_go 177 = .ok (.iadd, 1) := by decide +kernel
theorem dX7_go_178 : decode cX7_go 178 = .ok (.iload_n 1, 1) := by decide +kernel
theorem dX7_go_179 : decode cX7_go 179 = .ok (.iadd, 1) := by decide +kernel
theorem dX7_go_180 : decode cX7_go 180 = .ok (.iastore, 1) := by decide +kernel
theorem dX7_go_181 : decode cX7_go 181 = .ok (.return_, 1) := by decide +kernel
theorem dX7_work_0 : decode cX7_work 0 = .ok (.aload_n 0, 1) := by decide +kernel
theorem dX7_work_1 : decode cX7_work 1 = .ok (.getfield 15, 3) := by decide +kernel
theorem dX7_work_4 : decode cX7_work 4 = .ok (.iload_n 2, 1) := by decide +kernel
theorem dX7_work_5 : decode cX7_work 5 = .ok (.iconst 4, 1) := by decide +kernel
theorem dX7_work_6 : decode cX7_work 6 = .ok (.imul, 1) := by decide +kernel
theorem dX7_work_7 : decode cX7_work 7 = .ok (.iconst 1, 1) := by decide +kernel
theorem dX7_work_8 : decode cX7_work 8 = .ok (.iadd, 1) := by decide +kernel
theorem dX7_work_9 : decode cX7_work 9 = .ok (.iaload, 1) := by decide +kernel
theorem dX7_work_10 : decode cX7_work 10 = .ok (.istore_n 3, 1) := by decide +kernel
theorem dX7_work_11 : decode cX7_work 11 = .ok (.aload_n 0, 1) := by decide +kernel
theorem dX7_work_12 : decode cX7_work 12 = .ok (.getfield 15, 3) := by decide +kernel
theorem dX7_work_15 : decode cX7_work 15 = .ok (.iload_n 2, 1) := by decide +kernel
theorem dX7_work_16 : decode cX7_work 16 = .ok (.iconst 4, 1) := by decide +kernel
theorem dX7_work_17 : decode cX7_work 17 = .ok (.imul, 1) := by decide +kernel
theorem dX7_work_18 : decode cX7_work 18 = .ok (.iconst 2, 1) := by decide +kernel
theorem dX7_work_19 : decode cX7_work 19 = .ok (.iadd, 1) := by decide +kernel
theorem dX7_work_20 : decode cX7_work 20 = .ok (.iaload, 1) := by decide +kernel
theorem dX7_work_21 : decode cX7_work 21 = .ok (.istore 4, 2) := by decide +kernel
theorem dX7_work_23 : decode cX7_work 23 = .ok (.aload_n 0, 1) := by decide +kernel
theorem dX7_work_24 : decode cX7_work 24 = .ok (.getfield 15, 3) := by decide +kernel
theorem dX7_work_27 : decode cX7_work 27 = .ok (.iload_n 2, 1) := by decide +kernel
theorem dX7_work_28 : decode cX7_work 28 = .ok (.iconst 4, 1) := by decide +kernel
theorem dX7_work_29 : decode cX7_work 29 = .ok (.imul, 1) := by decide +kernel
theorem dX7_work_30 : decode cX7_work 30 = .ok (.iconst 3, 1) := by decide +kernel
theorem dX7_work_31 : decode cX7_work 31 = .ok (.iadd, 1) := by decide +kernel
theorem dX7_work_32 : decode cX7_work 32 = .ok (.iaload, 1) := by decide +kernel
theorem dX7_work_33 : decode cX7_work 33 = .ok (.istore 5, 2) := by decide +kernel
theorem dX7_work_35 : decode cX7_work 35 = .ok (.iload_n 1, 1) := by decide +kernel
theorem dX7_work_36 : decode cX7_work 36 = .ok (.tableswitch 144 0 4 #[36, 47, 71, 95, 119], 36) := by decide +kernel
theorem dX7_work_72 : decode cX7_work 72 = .ok (.aload_n 0, 1) := by decide +kernel
theorem dX7_work_73 : decode cX7_work 73 = .ok (.getfield 18, 3) := by decide +kernel
theorem dX7_work_76 : decode cX7_work 76 = .ok (.iload_n 3, 1) := by decide +kernel
theorem dX7_work_77 : decode cX7_work 77 = .ok (.iload 4, 2) := by decide +kernel
theorem dX7_work_79 : decode cX7_work 79 = .ok (.iastore, 1) := by decide +kernel
theorem dX7_work_80 : decode cX7_work 80 = .ok (.goto 122, 3) := by decide +kernel
theorem dX7_work_83 : decode cX7_work 83 = .ok (.aload_n 0, 1) := by decide +kernel
theorem dX7_work_84 : decode cX7_work 84 = .ok (.getfield 18, 3) := by decide +kernel
theorem dX7_work_87 : decode cX7_work 87 = .ok (.iload_n 3, 1) := by decide +kernel
theorem dX7_work_88 : decode cX7_work 88 = .ok (.aload_n 0, 1) := by decide +kernel
theorem dX7_work_89 : decode cX7_work 89 = .ok (.getfield 18, 3) := by decide +kernel
theorem dX7_work_92 : decode cX7_work 92 = .ok (.iload 4, 2) := by decide +kernel
theorem dX7_work_94 : decode cX7_work 94 = .ok (.iaload, 1) := by decide +kernel
theorem dX7_work_95 : decode cX7_work 95 = .ok (.aload_n 0, 1) := by decide +kernel
theorem dX7_work_96 : decode cX7_work 96 = .ok (.getfield 18, 3) := by decide +kernel
theorem dX7_work_99 : decode cX7_work 99 = .ok (.iload 5, 2) := by decide +kernel
theorem dX7_work_101 : decode cX7_work 101 = .ok (.iaload, 1) := by decide +kernel
theorem dX7_work_102 : decode cX7_work 102 = .ok (.iadd, 1) := by decide +kernel
theorem dX7_work_103 : decode cX7_work 103 = .ok (.iastore, 1) := by decide +kernel
theorem dX7_work_104 : decode cX7_work 104 = .ok (.goto 98, 3) := by decide +kernel
theorem dX7_work_107 : decode cX7_work 107 = .ok (.aload_n 0, 1) := by decide +kernel
theorem dX7_work_108 : decode cX7_work 108 = .ok (.getfield 18, 3) := by decide +kernel
theorem dX7_work_111 : decode cX7_work 111 = .ok (.iload_n 3, 1) := by decide +kernel
theorem dX7_work_112 : decode cX7_work 112 = .ok (.aload_n 0, 1) := by decide +kernel
theorem dX7_work_113 : decode cX7_work 113 = .ok (.getfield 18, 3) := by decide +kernel
theorem dX7_work_116 : decode cX7_work 116 = .ok (.iload 4, 2) := by decide +kernel
theorem dX7_work_118 : decode cX7_work 118 = .ok (.iaload, 1) := by decide +kernel
theorem dX7_work_119 : decode cX7_work 119 = .ok (.aload_n 0, 1) := by decide +kernel
theorem dX7_work_120 : decode cX7_work 120 = .ok (.getfield 18, 3) := by decide +kernel
theorem dX7_work_123 : decode cX7_work 123 = .ok (.iload 5, 2) := by decide +kernel
theorem dX7_work_125 : decode cX7_work 125 = .ok (.iaload, 1) := by decide +kernel
theorem dX7_work_126 : decode cX7_work 126 = .ok (.isub, 1) := by decide +kernel
theorem dX7_work_127 : decode cX7_work 127 = .ok (.iastore, 1) := by decide +kernel
theorem dX7_work_128 : decode cX7_work 128 = .ok (.goto 74, 3) := by decide +kernel
theorem dX7_work_131 : decode cX7_work 131 = .ok (.aload_n 0, 1) := by decide +kernel
theorem dX7_work_132 : decode cX7_work 132 = .ok (.getfield 18, 3) := by decide +kernel
theorem dX7_work_135 : decode cX7_work 135 = .ok (.iload_n 3, 1) := by decide +kernel
theorem dX7_work_136 : decode cX7_work 136 = .ok (.aload_n 0, 1) := by decide +kernel
theorem dX7_work_137 : decode cX7_work 137 = .ok (.getfield 18, 3) := by decide +kernel
theorem dX7_work_140 : decode cX7_work 140 = .ok (.iload 4, 2) := by decide +kernel
theorem dX7_work_142 : decode cX7_work 142 = .ok (.iaload, 1) := by decide +kernel
theorem dX7_work_143 : decode cX7_work 143 = .ok (.aload_n 0, 1) := by decide +kernel
theorem dX7_work_144 : decode cX7_work 144 = .ok (.getfield 18, 3) := by decide +kernel
theorem dX7_work_147 : decode cX7_work 147 = .ok (.iload 5, 2) := by decide +kernel
theorem dX7_work_149 : decode cX7_work 149 = .ok (.iaload, 1) := by decide +kernel
theorem dX7_work_150 : decode cX7_work 150 = .ok (.imul, 1) := by decide +kernel
theorem dX7_work_151 : decode cX7_work 151 = .ok (.iastore, 1) := by decide +kernel
theorem dX7_work_152 : decode cX7_work 152 = .ok (.goto 50, 3) := by decide +kernel
theorem dX7_work_155 : decode cX7_work 155 = .ok (.aload_n 0, 1) := by decide +kernel
theorem dX7_work_156 : decode cX7_work 156 = .ok (.getfield 18, 3) := by decide +kernel
theorem dX7_work_159 : decode cX7_work 159 = .ok (.iload_n 3, 1) := by decide +kernel
theorem dX7_work_160 : decode cX7_work 160 = .ok (.aload_n 0, 1) := by decide +kernel
theorem dX7_work_161 : decode cX7_work 161 = .ok (.getfield 21, 3) := by decide +kernel
theorem dX7_work_164 : decode cX7_work 164 = .ok (.aload_n 0, 1) := by decide +kernel
theorem dX7_work_165 : decode cX7_work 165 = .ok (.aload_n 0, 1) := by decide +kernel
theorem dX7_work_166 : decode cX7_work 166 = .ok (.getfield 18, 3) := by decide +kernel
theorem dX7_work_169 : decode cX7_work 169 = .ok (.iload 4, 2) := by decide +kernel
theorem dX7_work_171 : decode cX7_work 171 = .ok (.iaload, 1) := by decide +kernel
theorem dX7_work_172 : decode cX7_work 172 = .ok (.invokevirtual 146, 3) := by decide +kernel
theorem dX7_work_175 : decode cX7_work 175 = .ok (.iaload, 1) := by decide +kernel
theorem dX7_work_176 : decode cX7_work 176 = .ok (.iastore, 1) := by decide +kernel
theorem dX7_work_177 : decode cX7_work 177 = .ok (.goto 25, 3) := by decide +kernel
theorem dX7_work_180 : decode cX7_work 180 = .ok (.aload_n 0, 1) := by decide +kernel
theorem dX7_work_181 : decode cX7_work 181 = .ok (.getfield 21, 3) := by decide +kernel
theorem dX7_work_184 : decode cX7_work 184 = .ok (.aload_n 0, 1) := by decide +kernel
theorem dX7_work_185 : decode cX7_work 185 = .ok (.aload_n 0, 1) := by decide +kernel
theorem dX7_work_186 : decode cX7_work 186 = .ok (.getfield 18, 3) := by decide +kernel
theorem dX7_work_189 : decode cX7_work 189 = .ok (.iload 4, 2) := by decide +kernel
theorem dX7_work_191 : decode cX7_work 191 = .ok (.iaload, 1) := by decide +kernel
theorem dX7_work_192 : decode cX7_work 192 = .ok (.invokevirtual 146, 3) := by decide +kernel
theorem dX7_work_195 : decode cX7_work 195 = .ok (.aload_n 0, 1) := by decide +kernel
theorem dX7_work_196 : decode cX7_work 196 = .ok (.getfield 18, 3) := by decide +kernel
theorem dX7_work_199 : decode cX7_work 199 = .ok (.iload_n 3, 1) := by decide +kernel
theorem dX7_work_200 : decode cX7_work 200 = .ok (.iaload, 1) := by decide +kernel
theorem dX7_work_201 : decode cX7_work 201 = .ok (.iastore, 1) := by decide +kernel
theorem dX7_work_202 : decode cX7_work 202 = .ok (.iload_n 2, 1) := by decide +kernel
theorem dX7_work_203 : decode cX7_work 203 = .ok (.iconst 1, 1) := by decide +kernel
theorem dX7_work_204 : decode cX7_work 204 = .ok (.iadd, 1) := by decide +kernel
theorem dX7_work_205 : decode cX7_work 205 = .ok (.ireturn, 1) := by decide +kernel
theorem dX7_touched_0 : decode cX7_touched 0 = .ok (.iload_n 1, 1) := by decide +kernel
theorem dX7_touched_1 : decode cX7_touched 1 = .ok (.bipush 64, 2) := by decide +kernel
theorem dX7_touched_3 : decode cX7_touched 3 = .ok (.invokestatic 149, 3) := by decide +kernel
theorem dX7_touched_6 : decode cX7_touched 6 = .ok (.istore_n 2, 1) := by decide +kernel
theorem dX7_touched_7 : decode cX7_touched 7 = .ok (.iload_n 2, 1) := by decide +kernel
theorem dX7_touched_8 : decode cX7_touched 8 = .ok (.aload_n 0, 1) := by decide +kernel
theorem dX7_touched_9 : decode cX7_touched 9 = .ok (.getfield 58, 3) := by decide +kernel
theorem dX7_touched_12 : decode cX7_touched 12 = .ok (.iadd, 1) := by decide +kernel
theorem dX7_touched_13 : decode cX7_touched 13 = .ok (.aload_n 0, 1) := by decide +kernel
theorem dX7_touched_14 : decode cX7_touched 14 = .ok (.getfield 33, 3) := by decide +kernel
theorem dX7_touched_17 : decode cX7_touched 17 = .ok (.getfield 152, 3) := by decide +kernel
theorem dX7_touched_20 : decode cX7_touched 20 = .ok (.invokestatic 155, 3) := by decide +kernel
theorem dX7_touched_23 : decode cX7_touched 23 = .ok (.istore_n 3, 1) := by decide +kernel
theorem dX7_touched_24 : decode cX7_touched 24 = .ok (.iload_n 3, 1) := by decide +kernel
theorem dX7_touched_25 : decode cX7_touched 25 = .ok (.aload_n 0, 1) := by decide +kernel
theorem dX7_touched_26 : decode cX7_touched 26 = .ok (.getfield 33, 3) := by decide +kernel
theorem dX7_touched_29 : decode cX7_touched 29 = .ok (.getfield 158, 3) := by decide +kernel
theorem dX7_touched_32 : decode cX7_touched 32 = .ok (.invokestatic 149, 3) := by decide +kernel
theorem dX7_touched_35 : decode cX7_touched 35 = .ok (.istore 4, 2) := by decide +kernel
theorem dX7_touched_37 : decode cX7_touched 37 = .ok (.aload_n 0, 1) := by decide +kernel
theorem dX7_touched_38 : decode cX7_touched 38 = .ok (.getfield 9, 3) := by decide +kernel
theorem dX7_touched_41 : decode cX7_touched 41 = .ok (.iconst 1, 1) := by decide +kernel
theorem dX7_touched_42 : decode cX7_touched 42 = .ok (.dup2, 1) := by decide +kernel
theorem dX7_touched_43 : decode cX7_touched 43 = .ok (.iaload, 1) := by decide +kernel
theorem dX7_touched_44 : decode cX7_touched 44 = .ok (.iconst 1, 1) := by decide +kernel
theorem dX7_touched_45 : decode cX7_touched 45 = .ok (.iadd, 1) := by decide +kernel
theorem dX7_touched_46 : decode cX7_touched 46 = .ok (.iastore, 1) := by decide +kernel
theorem dX7_touched_47 : decode cX7_touched 47 = .ok (.aload_n 0, 1) := by decide +kernel
theorem dX7_touched_48 : decode cX7_touched 48 = .ok (.getfield 37, 3) := by decide +kernel
theorem dX7_touched_51 : decode cX7_touched 51 = .ok (.iload 4, 2) := by decide +kernel
theorem dX7_touched_53 : decode cX7_touched 53 = .ok (.iaload, 1) := by decide +kernel
theorem dX7_touched_54 : decode cX7_touched 54 = .ok (.iload_n 3, 1) := by decide +kernel
theorem dX7_touched_55 : decode cX7_touched 55 = .ok (.if_icmp .eq 21, 3) := by decide +kernel
theorem dX7_touched_58 : decode cX7_touched 58 = .ok (.aload_n 0, 1) := by decide +kernel
theorem dX7_touched_59 : decode cX7_touched 59 = .ok (.getfield 9, 3) := by decide +kernel
theorem dX7_touched_62 : decode cX7_touched 62 = .ok (.iconst 2, 1) := by decide +kernel
theorem dX7_touched_63 : decode cX7_touched 63 = .ok (.dup2, 1) := by decide +kernel
theorem dX7_touched_64 : decode cX7_touched 64 = .ok (.iaload, 1) := by decide +kernel
theorem dX7_touched_65 : decode cX7_touched 65 = .ok (.iconst 1, 1) := by decide +kernel
theorem dX7_touched_66 : decode cX7_touched 66 = .ok (.iadd, 1) := by decide +kernel
theorem dX7_touched_67 : decode cX7_touched 67 = .ok (.iastore, 1) := by decide +kernel
theorem dX7_touched_68 : decode cX7_touched 68 = .ok (.aload_n 0, 1) := by decide +kernel
theorem dX7_touched_69 : decode cX7_touched 69 = .ok (.getfield 37, 3) := by decide +kernel
theorem dX7_touched_72 : decode cX7_touched 72 = .ok (.iload 4, 2) := by decide +kernel
theorem dX7_touched_74 : decode cX7_touched 74 = .ok (.iload_n 3, 1) := by decide +kernel
theorem dX7_touched_75 : decode cX7_touched 75 = .ok (.iastore, 1) := by decide +kernel
theorem dX7_touched_76 : decode cX7_touched 76 = .ok (.iload_n 2, 1) := by decide +kernel
theorem dX7_touched_77 : decode cX7_touched 77 = .ok (.ireturn, 1) := by decide +kernel
theorem dX7_leap_0 : decode cX7_leap 0 = .ok (.aload_n 0, 1) := by decide +kernel
theorem dX7_leap_1 : decode cX7_leap 1 = .ok (.getfield 18, 3) := by decide +kernel
theorem dX7_leap_4 : decode cX7_leap 4 = .ok (.aload_n 0, 1) := by decide +kernel
theorem dX7_leap_5 : decode cX7_leap 5 = .ok (.getfield 15, 3) := by decide +kernel
theorem dX7_leap_8 : decode cX7_leap 8 = .ok (.iload_n 1, 1) := by decide +kernel
theorem dX7_leap_9 : decode cX7_leap 9 = .ok (.iconst 4, 1) := by decide +kernel
theorem dX7_leap_10 : decode cX7_leap 10 = .ok (.imul, 1) := by decide +kernel
theorem dX7_leap_11 : decode cX7_leap 11 = .ok (.iconst 1, 1) := by decide +kernel
theorem dX7_leap_12 : decode cX7_leap 12 = .ok (.iadd, 1) := by decide +kernel
theorem dX7_leap_13 : decode cX7_leap 13 = .ok (.iaload, 1) := by decide +kernel
theorem dX7_leap_14 : decode cX7_leap 14 = .ok (.iaload, 1) := by decide +kernel
theorem dX7_leap_15 : decode cX7_leap 15 = .ok (.ifCond .le 7, 3) := by decide +kernel
theorem dX7_leap_18 : decode cX7_leap 18 = .ok (.iconst 1, 1) := by decide +kernel
theorem dX7_leap_19 : decode cX7_leap 19 = .ok (.goto 4, 3) := by decide +kernel
theorem dX7_leap_22 : decode cX7_leap 22 = .ok (.iconst 0, 1) := by decide +kernel
theorem dX7_leap_23 : decode cX7_leap 23 = .ok (.istore_n 2, 1) := by decide +kernel
theorem dX7_leap_24 : decode cX7_leap 24 = .ok (.iload_n 1, 1) := by decide +kernel
theorem dX7_leap_25 : decode cX7_leap 25 = .ok (.aload_n 0, 1) := by decide +kernel
theorem dX7_leap_26 : decode cX7_leap 26 = .ok (.getfield 33, 3) := by decide +kernel
theorem dX7_leap_29 : decode cX7_leap 29 = .ok (.getfield 160, 3) := by decide +kernel
theorem dX7_leap_32 : decode cX7_leap 32 = .ok (.invokestatic 149, 3) := by decide +kernel
theorem dX7_leap_35 : decode cX7_leap 35 = .ok (.istore_n 3, 1) := by decide +kernel
theorem dX7_leap_36 : decode cX7_leap 36 = .ok (.aload_n 0, 1) := by decide +kernel
theorem dX7_leap_37 : decode cX7_leap 37 = .ok (.getfield 9, 3) := by decide +kernel
theorem dX7_leap_40 : decode cX7_leap 40 = .ok (.iconst 3, 1) := by decide +kernel
theorem dX7_leap_41 : decode cX7_leap 41 = .ok (.dup2, 1) := by decide +kernel
theorem dX7_leap_42 : decode cX7_leap 42 = .ok (.iaload, 1) := by decide +kernel
theorem dX7_leap_43 : decode cX7_leap 43 = .ok (.iconst 1, 1) := by decide +kernel
theorem dX7_leap_44 : decode cX7_leap 44 = .ok (.iadd, 1) := by decide +kernel
theorem dX7_leap_45 : decode cX7_leap 45 = .ok (.iastore, 1) := by decide +kernel
theorem dX7_leap_46 : decode cX7_leap 46 = .ok (.aload_n 0, 1) := by decide +kernel
theorem dX7_leap_47 : decode cX7_leap 47 = .ok (.getfield 40, 3) := by decide +kernel
theorem dX7_leap_50 : decode cX7_leap 50 = .ok (.iload_n 3, 1) := by decide +kernel
theorem dX7_leap_51 : decode cX7_leap 51 = .ok (.iaload, 1) := by decide +kernel
theorem dX7_leap_52 : decode cX7_leap 52 = .ok (.iload_n 2, 1) := by decide +kernel
theorem dX7_leap_53 : decode cX7_leap 53 = .ok (.if_icmp .eq 20, 3) := by decide +kernel
theorem dX7_leap_56 : decode cX7_leap 56 = .ok (.aload_n 0, 1) := by decide +kernel
theorem dX7_leap_57 : decode cX7_leap 57 = .ok (.getfield 9, 3) := by decide +kernel
theorem dX7_leap_60 : decode cX7_leap 60 = .ok (.iconst 4, 1) := by decide +kernel
theorem dX7_leap_61 : decode cX7_leap 61 = .ok (.dup2, 1) := by decide +kernel
theorem dX7_leap_62 : decode cX7_leap 62 = .ok (.iaload, 1) := by decide +kernel
theorem dX7_leap_63 : decode cX7_leap 63 = .ok (.iconst 1, 1) := by decide +kernel
theorem dX7_leap_64 : decode cX7_leap 64 = .ok (.iadd, 1) := by decide +kernel
theorem dX7_leap_65 : decode cX7_leap 65 = .ok (.iastore, 1) := by decide +kernel
theorem dX7_leap_66 : decode cX7_leap 66 = .ok (.aload_n 0, 1) := by decide +kernel
theorem dX7_leap_67 : decode cX7_leap 67 = .ok (.getfield 40, 3) := by decide +kernel
theorem dX7_leap_70 : decode cX7_leap 70 = .ok (.iload_n 3, 1) := by decide +kernel
theorem dX7_leap_71 : decode cX7_leap 71 = .ok (.iload_n 2, 1) := by decide +kernel
theorem dX7_leap_72 : decode cX7_leap 72 = .ok (.iastore, 1) := by decide +kernel
theorem dX7_leap_73 : decode cX7_leap 73 = .ok (.iload_n 2, 1) := by decide +kernel
theorem dX7_leap_74 : decode cX7_leap 74 = .ok (.iconst 1, 1) := by decide +kernel
theorem dX7_leap_75 : decode cX7_leap 75 = .ok (.if_icmp .ne 16, 3) := by decide +kernel
theorem dX7_leap_78 : decode cX7_leap 78 = .ok (.aload_n 0, 1) := by decide +kernel
theorem dX7_leap_79 : decode cX7_leap 79 = .ok (.getfield 15, 3) := by decide +kernel
theorem dX7_leap_82 : decode cX7_leap 82 = .ok (.iload_n 1, 1) := by decide +kernel
theorem dX7_leap_83 : decode cX7_leap 83 = .ok (.iconst 4, 1) := by decide +kernel
theorem dX7_leap_84 : decode cX7_leap 84 = .ok (.imul, 1) := by decide +kernel
theorem dX7_leap_85 : decode cX7_leap 85 = .ok (.iconst 2, 1) := by decide +kernel
theorem dX7_leap_86 : decode cX7_leap 86 = .ok (.iadd, 1) := by decide +kernel
theorem dX7_leap_87 : decode cX7_leap 87 = .ok (.iaload, 1) := by decide +kernel
theorem dX7_leap_88 : decode cX7_leap 88 = .ok (.goto 6, 3) := by decide +kernel
theorem dX7_leap_91 : decode cX7_leap 91 = .ok (.iload_n 1, 1) := by decide +kernel
theorem dX7_leap_92 : decode cX7_leap 92 = .ok (.iconst 1, 1) := by decide +kernel
theorem dX7_leap_93 : decode cX7_leap 93 = .ok (.iadd, 1) := by decide +kernel
theorem dX7_leap_94 : decode cX7_leap 94 = .ok (.ireturn, 1) := by decide +kernel
theorem dX8_init_0 : decode cX8_init 0 = .ok (.aload_n 0, 1) := by decide +kernel
theorem dX8_init_1 : decode cX8_init 1 = .ok (.invokespecial 3, 3) := by decide +kernel
theorem dX8_init_4 : decode cX8_init 4 = .ok (.aload_n 0, 1) := by decide +kernel
theorem dX8_init_5 : decode cX8_init 5 = .ok (.new 9, 3) := by decide +kernel
theorem dX8_init_8 : decode cX8_init 8 = .ok (.dup, 1) := by decide +kernel
theorem dX8_init_9 : decode cX8_init 9 = .ok (.invokespecial 11, 3) := by decide +kernel
theorem dX8_init_12 : decode cX8_init 12 = .ok (.putfield 12, 3) := by decide +kernel
theorem dX8_init_15 : decode cX8_init 15 = .ok (.aload_n 0, 1) := by decide +kernel
theorem dX8_init_16 : decode cX8_init 16 = .ok (.iconst 4, 1) := by decide +kernel
theorem dX8_init_17 : decode cX8_init 17 = .ok (.anewarray 18, 3) := by decide +kernel
theorem dX8_init_20 : decode cX8_init 20 = .ok (.putfield 20, 3) := by decide +kernel
theorem dX8_init_23 : decode cX8_init 23 = .ok (.aload_n 0, 1) := by decide +kernel
theorem dX8_init_24 : decode cX8_init 24 = .ok (.new 24, 3) := by decide +kernel
theorem dX8_init_27 : decode cX8_init 27 = .ok (.dup, 1) := by decide +kernel
theorem dX8_init_28 : decode cX8_init 28 = .ok (.invokespecial 26, 3) := by decide +kernel
theorem dX8_init_31 : decode cX8_init 31 = .ok (.putfield 27, 3) := by decide +kernel
theorem dX8_init_34 : decode cX8_init 34 = .ok (.aload_n 0, 1) := by decide +kernel
theorem dX8_init_35 : decode cX8_init 35 = .ok (.sipush 2800, 3) := by decide +kernel
theorem dX8_init_38 : decode cX8_init 38 = .ok (.newarray .int, 2) := by decide +kernel
theorem dX8_init_40 : decode cX8_init 40 = .ok (.putfield 31, 3) := by decide +kernel
theorem dX8_init_43 : decode cX8_init 43 = .ok (.aload_n 0, 1) := by decide +kernel
theorem dX8_init_44 : decode cX8_init 44 = .ok (.bipush 40, 2) := by decide +kernel
theorem dX8_init_46 : decode cX8_init 46 = .ok (.newarray .int, 2) := by decide +kernel
theorem dX8_init_48 : decode cX8_init 48 = .ok (.putfield 35, 3) := by decide +kernel
theorem dX8_init_51 : decode cX8_init 51 = .ok (.iconst 0, 1) := by decide +kernel
theorem dX8_init_52 : decode cX8_init 52 = .ok (.istore_n 1, 1) := by decide +kernel
theorem dX8_init_53 : decode cX8_init 53 = .ok (.iload_n 1, 1) := by decide +kernel
theorem dX8_init_54 : decode cX8_init 54 = .ok (.iconst 4, 1) := by decide +kernel
theorem dX8_init_55 : decode cX8_init 55 = .ok (.if_icmp .ge 22, 3) := by decide +kernel
theorem dX8_init_58 : decode cX8_init 58 = .ok (.aload_n 0, 1) := by decide +kernel
theorem dX8_init_59 : decode cX8_init 59 = .ok (.getfield 20, 3) := by decide +kernel
theorem dX8_init_62 : decode cX8_init 62 = .ok (.iload_n 1, 1) := by decide +kernel
theorem dX8_init_63 : decode cX8_init 63 = .ok (.new 18, 3) := by decide +kernel
theorem dX8_init_66 : decode cX8_init 66 = .ok (.dup, 1) := by decide +kernel
theorem dX8_init_67 : decode cX8_init 67 = .ok (.invokespecial 38, 3) := by decide +kernel
theorem dX8_init_70 : decode cX8_init 70 = .ok (.aastore, 1) := by decide +kernel
theorem dX8_init_71 : decode cX8_init 71 = .ok (.iinc 1 1, 3) := by decide +kernel
theorem dX8_init_74 : decode cX8_init 74 = .ok (.goto (-21), 3) := by decide +kernel
theorem dX8_init_77 : decode cX8_init 77 = .ok (.return_, 1) := by decide +kernel
theorem dX8_takeFrom_0 : decode cX8_takeFrom 0 = .ok (.aload_n 0, 1) := by decide +kernel
theorem dX8_takeFrom_1 : decode cX8_takeFrom 1 = .ok (.getfield 12, 3) := by decide +kernel
theorem dX8_takeFrom_4 : decode cX8_takeFrom 4 = .ok (.aload_n 1, 1) := by decide +kernel
theorem dX8_takeFrom_5 : decode cX8_takeFrom 5 = .ok (.getfield 12, 3) := by decide +kernel
theorem dX8_takeFrom_8 : decode cX8_takeFrom 8 = .ok (.invokevirtual 39, 3) := by decide +kernel
theorem dX8_takeFrom_11 : decode cX8_takeFrom 11 = .ok (.iconst 0, 1) := by decide +kernel
theorem dX8_takeFrom_12 : decode cX8_takeFrom 12 = .ok (.istore_n 2, 1) := by decide +kernel
theorem dX8_takeFrom_13 : decode cX8_takeFrom 13 = .ok (.iload_n 2, 1) := by decide +kernel
theorem dX8_takeFrom_14 : decode cX8_takeFrom 14 = .ok (.iconst 4, 1) := by decide +kernel
theorem dX8_takeFrom_15 : decode cX8_takeFrom 15 = .ok (.if_icmp .ge 24, 3) := by decide +kernel
theorem dX8_takeFrom_18 : decode cX8_takeFrom 18 = .ok (.aload_n 0, 1) := by decide +kernel
theorem dX8_takeFrom_19 : decode cX8_takeFrom 19 = .ok (.getfield 20, 3) := by decide +kernel
theorem dX8_takeFrom_22 : decode cX8_takeFrom 22 = .ok (.iload_n 2, 1) := by decide +kernel
theorem dX8_takeFrom_23 : decode cX8_takeFrom 23 = .ok (.aaload, 1) := by decide +kernel
theorem dX8_takeFrom_24 : decode cX8_takeFrom 24 = .ok (.aload_n 1, 1) := by decide +kernel
theorem dX8_takeFrom_25 : decode cX8_takeFrom 25 = .ok (.getfield 20, 3) := by decide +kernel
theorem dX8_takeFrom_28 : decode cX8_takeFrom 28 = .ok (.iload_n 2, 1) := by decide +kernel
theorem dX8_takeFrom_29 : decode cX8_takeFrom 29 = .ok (.aaload, 1) := by decide +kernel
theorem dX8_takeFrom_30 : decode cX8_takeFrom 30 = .ok (.invokevirtual 43, 3) := by decide +kernel
theorem dX8_takeFrom_33 : decode cX8_takeFrom 33 = .ok (.iinc 2 1, 3) := by decide +kernel
theorem dX8_takeFrom_36 : decode cX8_takeFrom 36 = .ok (.goto (-23), 3) := by decide +kernel
theorem dX8_takeFrom_39 : decode cX8_takeFrom 39 = .ok (.aload_n 0, 1) := by decide +kernel
theorem dX8_takeFrom_40 : decode cX8_takeFrom 40 = .ok (.getfield 27, 3) := by decide +kernel
theorem dX8_takeFrom_43 : decode cX8_takeFrom 43 = .ok (.aload_n 1, 1) := by decide +kernel
theorem dX8_takeFrom_44 : decode cX8_takeFrom 44 = .ok (.getfield 27, 3) := by decide +kernel
theorem dX8_takeFrom_47 : decode cX8_takeFrom 47 = .ok (.invokevirtual 46, 3) := by decide +kernel
theorem dX8_takeFrom_50 : decode cX8_takeFrom 50 = .ok (.aload_n 1, 1) := by decide +kernel
theorem dX8_takeFrom_51 : decode cX8_takeFrom 51 = .ok (.getfield 31, 3) := by decide +kernel
theorem dX8_takeFrom_54 : decode cX8_takeFrom 54 = .ok (.iconst 0, 1) := by decide +kernel
theorem dX8_takeFrom_55 : decode cX8_takeFrom 55 = .ok (.aload_n 0, 1) := by decide +kernel
theorem dX8_takeFrom_56 : decode cX8_takeFrom 56 = .ok (.getfield 31, 3) := by decide +kernel
theorem dX8_takeFrom_59 : decode cX8_takeFrom 59 = .ok (.iconst 0, 1) := by decide +kernel
theorem dX8_takeFrom_60 : decode cX8_takeFrom 60 = .ok (.aload_n 0, 1) := by decide +kernel
theorem dX8_takeFrom_61 : decode cX8_takeFrom 61 = .ok (.getfield 31, 3) := by decide +kernel
theorem dX8_takeFrom_64 : decode cX8_takeFrom 64 = .ok (.arraylength, 1) := by decide +kernel
theorem dX8_takeFrom_65 : decode cX8_takeFrom 65 = .ok (.invokestatic 49, 3) := by decide +kernel
theorem dX8_takeFrom_68 : decode cX8_takeFrom 68 = .ok (.aload_n 0, 1) := by decide +kernel
theorem dX8_takeFrom_69 : decode cX8_takeFrom 69 = .ok (.aload_n 1, 1) := by decide +kernel
theorem dX8_takeFrom_70 : decode cX8_takeFrom 70 = .ok (.getfield 55, 3) := by decide +kernel
theorem dX8_takeFrom_73 : decode cX8_takeFrom 73 = .ok (.putfield 55, 3) := by decide +kernel
theorem dX8_takeFrom_76 : decode cX8_takeFrom 76 = .ok (.aload_n 1, 1) := by decide +kernel
theorem dX8_takeFrom_77 : decode cX8_takeFrom 77 = .ok (.getfield 35, 3) := by decide +kernel
theorem dX8_takeFrom_80 : decode cX8_takeFrom 80 = .ok (.iconst 0, 1) := by decide +kernel
theorem dX8_takeFrom_81 : decode cX8_takeFrom 81 = .ok (.aload_n 0, 1) := by decide +kernel
theorem dX8_takeFrom_82 : decode cX8_takeFrom 82 = .ok (.getfield 35, 3) := by decide +kernel
theorem dX8_takeFrom_85 : decode cX8_takeFrom 85 = .ok (.iconst 0, 1) := by decide +kernel
theorem dX8_takeFrom_86 : decode cX8_takeFrom 86 = .ok (.aload_n 0, 1) := by decide +kernel
theorem dX8_takeFrom_87 : decode cX8_takeFrom 87 = .ok (.getfield 35, 3) := by decide +kernel
theorem dX8_takeFrom_90 : decode cX8_takeFrom 90 = .ok (.arraylength, 1) := by decide +kernel
theorem dX8_takeFrom_91 : decode cX8_takeFrom 91 = .ok (.invokestatic 49, 3) := by decide +kernel
theorem dX8_takeFrom_94 : decode cX8_takeFrom 94 = .ok (.aload_n 0, 1) := by decide +kernel
theorem dX8_takeFrom_95 : decode cX8_takeFrom 95 = .ok (.aload_n 1, 1) := by decide +kernel
theorem dX8_takeFrom_96 : decode cX8_takeFrom 96 = .ok (.getfield 59, 3) := by decide +kernel
theorem dX8_takeFrom_99 : decode cX8_takeFrom 99 = .ok (.putfield 59, 3) := by decide +kernel
theorem dX8_takeFrom_102 : decode cX8_takeFrom 102 = .ok (.return_, 1) := by decide +kernel
theorem dX8_told_0 : decode cX8_told 0 = .ok (.aload_n 0, 1) := by decide +kernel
theorem dX8_told_1 : decode cX8_told 1 = .ok (.getfield 31, 3) := by decide +kernel
theorem dX8_told_4 : decode cX8_told 4 = .ok (.iload_n 1, 1) := by decide +kernel
theorem dX8_told_5 : decode cX8_told 5 = .ok (.bipush 14, 2) := by decide +kernel
theorem dX8_told_7 : decode cX8_told 7 = .ok (.imul, 1) := by decide +kernel
theorem dX8_told_8 : decode cX8_told 8 = .ok (.iload_n 2, 1) := by decide +kernel
theorem dX8_told_9 : decode cX8_told 9 = .ok (.iadd, 1) := by decide +kernel
theorem dX8_told_10 : decode cX8_told 10 = .ok (.iaload, 1) := by decide +kernel
theorem dX8_told_11 : decode cX8_told 11 = .ok (.ireturn, 1) := by decide +kernel
theorem dX8_tell_0 : decode cX8_tell 0 = .ok (.aload_n 0, 1) := by decide +kernel
theorem dX8_tell_1 : decode cX8_tell 1 = .ok (.getfield 31, 3) := by decide +kernel
theorem dX8_tell_4 : decode cX8_tell 4 = .ok (.iload_n 1, 1) := by decide +kernel
theorem dX8_tell_5 : decode cX8_tell 5 = .ok (.bipush 14, 2) := by decide +kernel
theorem dX8_tell_7 : decode cX8_tell 7 = .ok (.imul, 1) := by decide +kernel
theorem dX8_tell_8 : decode cX8_tell 8 = .ok (.iload_n 2, 1) := by decide +kernel
theorem dX8_tell_9 : decode cX8_tell 9 = .ok (.iadd, 1) := by decide +kernel
theorem dX8_tell_10 : decode cX8_tell 10 = .ok (.iload_n 3, 1) := by decide +kernel
theorem dX8_tell_11 : decode cX8_tell 11 = .ok (.iastore, 1) := by decide +kernel
theorem dX8_tell_12 : decode cX8_tell 12 = .ok (.return_, 1) := by decide +kernel
theorem dX8_addRun_0 : decode cX8_addRun 0 = .ok (.iconst 0, 1) := by decide +kernel
theorem dX8_addRun_1 : decode cX8_addRun 1 = .ok (.istore_n 3, 1) := by decide +kernel
theorem dX8_addRun_2 : decode cX8_addRun 2 = .ok (.iload_n 3, 1) := by decide +kernel
theorem dX8_addRun_3 : decode cX8_addRun 3 = .ok (.iconst 5, 1) := by decide +kernel
theorem dX8_addRun_4 : decode cX8_addRun 4 = .ok (.if_icmp .gt 21, 3) := by decide +kernel
theorem dX8_addRun_7 : decode cX8_addRun 7 = .ok (.aload_n 0, 1) := by decide +kernel
theorem dX8_addRun_8 : decode cX8_addRun 8 = .ok (.aload_n 0, 1) := by decide +kernel
theorem dX8_addRun_9 : decode cX8_addRun 9 = .ok (.getfield 55, 3) := by decide +kernel
theorem dX8_addRun_12 : decode cX8_addRun 12 = .ok (.iload_n 3, 1) := by decide +kernel
theorem dX8_addRun_13 : decode cX8_addRun 13 = .ok (.aload_n 1, 1) := by decide +kernel
theorem dX8_addRun_14 : decode cX8_addRun 14 = .ok (.iload_n 3, 1) := by decide +kernel
theorem dX8_addRun_15 : decode cX8_addRun 15 = .ok (.iaload, 1) := by decide +kernel
theorem dX8_addRun_16 : decode cX8_addRun 16 = .ok (.invokevirtual 62, 3) := by decide +kernel
theorem dX8_addRun_19 : decode cX8_addRun 19 = .ok (.iinc 3 1, 3) := by decide +kernel
theorem dX8_addRun_22 : decode cX8_addRun 22 = .ok (.goto (-20), 3) := by decide +kernel
theorem dX8_addRun_25 : decode cX8_addRun 25 = .ok (.aload_n 0, 1) := by decide +kernel
theorem dX8_addRun_26 : decode cX8_addRun 26 = .ok (.aload_n 0, 1) := by decide +kernel
theorem dX8_addRun_27 : decode cX8_addRun 27 = .ok (.getfield 55, 3) := by decide +kernel
theorem dX8_addRun_30 : decode cX8_addRun 30 = .ok (.bipush 6, 2) := by decide +kernel
theorem dX8_addRun_32 : decode cX8_addRun 32 = .ok (.iload_n 2, 1) := by decide +kernel
theorem dX8_addRun_33 : decode cX8_addRun 33 = .ok (.ifCond .eq 7, 3) := by decide +kernel
theorem dX8_addRun_36 : decode cX8_addRun 36 = .ok (.iconst 1, 1) := by decide +kernel
theorem dX8_addRun_37 : decode cX8_addRun 37 = .ok (.goto 4, 3) := by decide +kernel
theorem dX8_addRun_40 : decode cX8_addRun 40 = .ok (.iconst 0, 1) := by decide +kernel
theorem dX8_addRun_41 : decode cX8_addRun 41 = .ok (.invokevirtual 62, 3) := by decide +kernel
theorem dX8_addRun_44 : decode cX8_addRun 44 = .ok (.aload_n 0, 1) := by decide +kernel
theorem dX8_addRun_45 : decode cX8_addRun 45 = .ok (.dup, 1) := by decide +kernel
theorem dX8_addRun_46 : decode cX8_addRun 46 = .ok (.getfield 55, 3) := by decide +kernel
theorem dX8_addRun_49 : decode cX8_addRun 49 = .ok (.iconst 1, 1) := by decide +kernel
theorem dX8_addRun_50 : decode cX8_addRun 50 = .ok (.iadd, 1) := by decide +kernel
theorem dX8_addRun_51 : decode cX8_addRun 51 = .ok (.putfield 55, 3) := by decide +kernel
theorem dX8_addRun_54 : decode cX8_addRun 54 = .ok (.aload_n 0, 1) := by decide +kernel
theorem dX8_addRun_55 : decode cX8_addRun 55 = .ok (.getfield 55, 3) := by decide +kernel
theorem dX8_addRun_58 : decode cX8_addRun 58 = .ok (.iconst 1, 1) := by decide +kernel
theorem dX8_addRun_59 : decode cX8_addRun 59 = .ok (.isub, 1) := by decide +kernel
theorem dX8_addRun_60 : decode cX8_addRun 60 = .ok (.ireturn, 1) := by decide +kernel
theorem dX8_isTimedOn_0 : decode cX8_isTimedOn 0 = .ok (.aload_n 0, 1) := by decide +kernel
theorem dX8_isTimedOn_1 : decode cX8_isTimedOn 1 = .ok (.iload_n 1, 1) := by decide +kernel
theorem dX8_isTimedOn_2 : decode cX8_isTimedOn 2 = .ok (.bipush 8, 2) := by decide +kernel
theorem dX8_isTimedOn_4 : decode cX8_isTimedOn 4 = .ok (.invokevirtual 66, 3) := by decide +kernel
theorem dX8_isTimedOn_7 : decode cX8_isTimedOn 7 = .ok (.iload_n 2, 1) := by decide +kernel
theorem dX8_isTimedOn_8 : decode cX8_isTimedOn 8 = .ok (.if_icmp .ne 17, 3) := by decide +kernel
theorem dX8_isTimedOn_11 : decode cX8_isTimedOn 11 = .ok (.aload_n 0, 1) := by decide +kernel
theorem dX8_isTimedOn_12 : decode cX8_isTimedOn 12 = .ok (.iload_n 1, 1) := by decide +kernel
theorem dX8_isTimedOn_13 : decode cX8_isTimedOn 13 = .ok (.bipush 6, 2) := by decide +kernel
theorem dX8_isTimedOn_15 : decode cX8_isTimedOn 15 = .ok (.invokevirtual 66, 3) := by decide +kernel
theorem dX8_isTimedOn_18 : decode cX8_isTimedOn 18 = .ok (.ifCond .ne 7, 3) := by decide +kernel
theorem dX8_isTimedOn_21 : decode cX8_isTimedOn 21 = .ok (.iconst 1, 1) := by decide +kernel
theorem dX8_isTimedOn_22 : decode cX8_isTimedOn 22 = .ok (.goto 4, 3) := by decide +kernel
theorem dX8_isTimedOn_25 : decode cX8_isTimedOn 25 = .ok (.iconst 0, 1) := by decide +kernel
theorem dX8_isTimedOn_26 : decode cX8_isTimedOn 26 = .ok (.ireturn, 1) := by decide +kernel
theorem dX8_isAsCounted_0 : decode cX8_isAsCounted 0 = .ok (.iconst 0, 1) := by decide +kernel
theorem dX8_isAsCounted_1 : decode cX8_isAsCounted 1 = .ok (.istore_n 3, 1) := by decide +kernel
theorem dX8_isAsCounted_2 : decode cX8_isAsCounted 2 = .ok (.iload_n 3, 1) := by decide +kernel
theorem dX8_isAsCounted_3 : decode cX8_isAsCounted 3 = .ok (.iconst 5, 1) := by decide +kernel
theorem dX8_isAsCounted_4 : decode cX8_isAsCounted 4 = .ok (.if_icmp .gt 23, 3) := by decide +kernel
theorem dX8_isAsCounted_7 : decode cX8_isAsCounted 7 = .ok (.aload_n 0, 1) := by decide +kernel
theorem dX8_isAsCounted_8 : decode cX8_isAsCounted 8 = .ok (.iload_n 1, 1) := by decide +kernel
theorem dX8_isAsCounted_9 : decode cX8_isAsCounted 9 = .ok (.iload_n 3, 1) := by decide +kernel
theorem dX8_isAsCounted_10 : decode cX8_isAsCounted 10 = .ok (.invokevirtual 66, 3) := by decide +kernel
theorem dX8_isAsCounted_13 : decode cX8_isAsCounted 13 = .ok (.aload_n 2, 1) := by decide +kernel
theorem dX8_isAsCounted_14 : decode cX8_isAsCounted 14 = .ok (.iload_n 3, 1) := by decide +kernel
theorem dX8_isAsCounted_15 : decode cX8_isAsCounted 15 = .ok (.iaload, 1) := by decide +kernel
theorem dX8_isAsCounted_16 : decode cX8_isAsCounted 16 = .ok (.if_icmp .eq 5, 3) := by decide +kernel
theorem dX8_isAsCounted_19 : decode cX8_isAsCounted 19 = .ok (.iconst 0, 1) := by decide +kernel
theorem dX8_isAsCounted_20 : decode cX8_isAsCounted 20 = .ok (.ireturn, 1) := by decide +kernel
theorem dX8_isAsCounted_21 : decode cX8_isAsCounted 21 = .ok (.iinc 3 1, 3) := by decide +kernel
theorem dX8_isAsCounted_24 : decode cX8_isAsCounted 24 = .ok (.goto (-22), 3) := by decide +kernel
theorem dX8_isAsCounted_27 : decode cX8_isAsCounted 27 = .ok (.iconst 1, 1) := by decide +kernel
theorem dX8_isAsCounted_28 : decode cX8_isAsCounted 28 = .ok (.ireturn, 1) := by decide +kernel
theorem dX8_voidRuns_0 : decode cX8_voidRuns 0 = .ok (.iconst 0, 1) := by decide +kernel
theorem dX8_voidRuns_1 : decode cX8_voidRuns 1 = .ok (.istore_n 1, 1) := by decide +kernel
theorem dX8_voidRuns_2 : decode cX8_voidRuns 2 = .ok (.iconst 0, 1) := by decide +kernel
theorem dX8_voidRuns_3 : decode cX8_voidRuns 3 = .ok (.istore_n 2, 1) := by decide +kernel
theorem dX8_voidRuns_4 : decode cX8_voidRuns 4 = .ok (.iload_n 2, 1) := by decide +kernel
theorem dX8_voidRuns_5 : decode cX8_voidRuns 5 = .ok (.aload_n 0, 1) := by decide +kernel
theorem dX8_voidRuns_6 : decode cX8_voidRuns 6 = .ok (.getfield 55, 3) := by decide +kernel
theorem dX8_voidRuns_9 : decode cX8_voidRuns 9 = .ok (.if_icmp .ge 19, 3) := by decide +kernel
theorem dX8_voidRuns_12 : decode cX8_voidRuns 12 = .ok (.iload_n 1, 1) := by decide +kernel
theorem dX8_voidRuns_13 : decode cX8_voidRuns 13 = .ok (.aload_n 0, 1) := by decide +kernel
theorem dX8_voidRuns_14 : decode cX8_voidRuns 14 = .ok (.iload_n 2, 1) := by decide +kernel
theorem dX8_voidRuns_15 : decode cX8_voidRuns 15 = .ok (.bipush 6, 2) := by decide +kernel
theorem dX8_voidRuns_17 : decode cX8_voidRuns 17 = .ok (.invokevirtual 66, 3) := by decide +kernel
theorem dX8_voidRuns_20 : decode cX8_voidRuns 20 = .ok (.iadd, 1) := by decide +kernel
theorem dX8_voidRuns_21 : decode cX8_voidRuns 21 = .ok (.istore_n 1, 1) := by decide +kernel
theorem dX8_voidRuns_22 : decode cX8_voidRuns 22 = .ok (.iinc 2 1, 3) := by decide +kernel
theorem dX8_voidRuns_25 : decode cX8_voidRuns 25 = .ok (.goto (-21), 3) := by decide +kernel
theorem dX8_voidRuns_28 : decode cX8_voidRuns 28 = .ok (.iload_n 1, 1) := by decide +kernel
theorem dX8_voidRuns_29 : decode cX8_voidRuns 29 = .ok (.ireturn, 1) := by decide +kernel
theorem dX8_gather_0 : decode cX8_gather 0 = .ok (.aload_n 1, 1) := by decide +kernel
theorem dX8_gather_1 : decode cX8_gather 1 = .ok (.invokevirtual 70, 3) := by decide +kernel
theorem dX8_gather_4 : decode cX8_gather 4 = .ok (.iconst 0, 1) := by decide +kernel
theorem dX8_gather_5 : decode cX8_gather 5 = .ok (.istore 6, 2) := by decide +kernel
theorem dX8_gather_7 : decode cX8_gather 7 = .ok (.iload 6, 2) := by decide +kernel
theorem dX8_gather_9 : decode cX8_gather 9 = .ok (.aload_n 0, 1) := by decide +kernel
theorem dX8_gather_10 : decode cX8_gather 10 = .ok (.getfield 55, 3) := by decide +kernel
theorem dX8_gather_13 : decode cX8_gather 13 = .ok (.if_icmp .ge 62, 3) := by decide +kernel
theorem dX8_gather_16 : decode cX8_gather 16 = .ok (.iload 6, 2) := by decide +kernel
theorem dX8_gather_18 : decode cX8_gather 18 = .ok (.iload 5, 2) := by decide +kernel
theorem dX8_gather_20 : decode cX8_gather 20 = .ok (.if_icmp .ge 55, 3) := by decide +kernel
theorem dX8_gather_23 : decode cX8_gather 23 = .ok (.aload_n 0, 1) := by decide +kernel
theorem dX8_gather_24 : decode cX8_gather 24 = .ok (.iload 6, 2) := by decide +kernel
theorem dX8_gather_26 : decode cX8_gather 26 = .ok (.iload_n 3, 1) := by decide +kernel
theorem dX8_gather_27 : decode cX8_gather 27 = .ok (.invokevirtual 75, 3) := by decide +kernel
theorem dX8_gather_30 : decode cX8_gather 30 = .ok (.ifCond .eq 39, 3) := by decide +kernel
theorem dX8_gather_33 : decode cX8_gather 33 = .ok (.aload_n 0, 1) := by decide +kernel
theorem dX8_gather_34 : decode cX8_gather 34 = .ok (.iload 6, 2) := by decide +kernel
theorem dX8_gather_36 : decode cX8_gather 36 = .ok (.bipush 7, 2) := by decide +kernel
theorem dX8_gather_38 : decode cX8_gather 38 = .ok (.invokevirtual 66, 3) := by decide +kernel
theorem dX8_gather_41 : decode cX8_gather 41 = .ok (.iload_n 2, 1) := by decide +kernel
theorem dX8_gather_42 : decode cX8_gather 42 = .ok (.if_icmp .ne 27, 3) := by decide +kernel
theorem dX8_gather_45 : decode cX8_gather 45 = .ok (.aload_n 0, 1) := by decide +kernel
theorem dX8_gather_46 : decode cX8_gather 46 = .ok (.iload 6, 2) := by decide +kernel
theorem dX8_gather_48 : decode cX8_gather 48 = .ok (.bipush 9, 2) := by decide +kernel
theorem dX8_gather_50 : decode cX8_gather 50 = .ok (.invokevirtual 66, 3) := by decide +kernel
theorem dX8_gather_53 : decode cX8_gather 53 = .ok (.iload 4, 2) := by decide +kernel
theorem dX8_gather_55 : decode cX8_gather 55 = .ok (.if_icmp .ne 14, 3) := by decide +kernel
theorem dX8_gather_58 : decode cX8_gather 58 = .ok (.aload_n 1, 1) := by decide +kernel
theorem dX8_gather_59 : decode cX8_gather 59 = .ok (.aload_n 0, 1) := by decide +kernel
theorem dX8_gather_60 : decode cX8_gather 60 = .ok (.iload 6, 2) := by decide +kernel
theorem dX8_gather_62 : decode cX8_gather 62 = .ok (.iconst 5, 1) := by decide +kernel
theorem dX8_gather_63 : decode cX8_gather 63 = .ok (.invokevirtual 66, 3) := by decide +kernel
theorem dX8_gather_66 : decode cX8_gather 66 = .ok (.invokevirtual 79, 3) := by decide +kernel
theorem dX8_gather_69 : decode cX8_gather 69 = .ok (.iinc 6 1, 3) := by decide +kernel
theorem dX8_gather_72 : decode cX8_gather 72 = .ok (.goto (-65), 3) := by decide +kernel
theorem dX8_gather_75 : decode cX8_gather 75 = .ok (.return_, 1) := by decide +kernel
theorem dX9_init_0 : decode cX9_init 0 = .ok (.aload_n 0, 1) := by decide +kernel
theorem dX9_init_1 : decode cX9_init 1 = .ok (.invokespecial 3, 3) := by decide +kernel
theorem dX9_init_4 : decode cX9_init 4 = .ok (.aload_n 0, 1) := by decide +kernel
theorem dX9_init_5 : decode cX9_init 5 = .ok (.sipush 252, 3) := by decide +kernel
theorem dX9_init_8 : decode cX9_init 8 = .ok (.newarray .int, 2) := by decide +kernel
theorem dX9_init_10 : decode cX9_init 10 = .ok (.putfield 11, 3) := by decide +kernel
theorem dX9_init_13 : decode cX9_init 13 = .ok (.return_, 1) := by decide +kernel
theorem dX9_ask_0 : decode cX9_ask 0 = .ok (.aload_n 0, 1) := by decide +kernel
theorem dX9_ask_1 : decode cX9_ask 1 = .ok (.aload_n 1, 1) := by decide +kernel
theorem dX9_ask_2 : decode cX9_ask 2 = .ok (.putfield 15, 3) := by decide +kernel
theorem dX9_ask_5 : decode cX9_ask 5 = .ok (.aload_n 0, 1) := by decide +kernel
theorem dX9_ask_6 : decode cX9_ask 6 = .ok (.aload_n 2, 1) := by decide +kernel
theorem dX9_ask_7 : decode cX9_ask 7 = .ok (.putfield 19, 3) := by decide +kernel
theorem dX9_ask_10 : decode cX9_ask 10 = .ok (.aload_n 0, 1) := by decide +kernel
theorem dX9_ask_11 : decode cX9_ask 11 = .ok (.iload_n 3, 1) := by decide +kernel
theorem dX9_ask_12 : decode cX9_ask 12 = .ok (.putfield 23, 3) := by decide +kernel
theorem dX9_ask_15 : decode cX9_ask 15 = .ok (.aload_n 0, 1) := by decide +kernel
theorem dX9_ask_16 : decode cX9_ask 16 = .ok (.iload 5, 2) := by decide +kernel
theorem dX9_ask_18 : decode cX9_ask 18 = .ok (.putfield 27, 3) := by decide +kernel
theorem dX9_ask_21 : decode cX9_ask 21 = .ok (.aload_n 0, 1) := by decide +kernel
theorem dX9_ask_22 : decode cX9_ask 22 = .ok (.iload 6, 2) := by decide +kernel
theorem dX9_ask_24 : decode cX9_ask 24 = .ok (.putfield 30, 3) := by decide +kernel
theorem dX9_ask_27 : decode cX9_ask 27 = .ok (.aload_n 0, 1) := by decide +kernel
theorem dX9_ask_28 : decode cX9_ask 28 = .ok (.iload 7, 2) := by decide +kernel
theorem dX9_ask_30 : decode cX9_ask 30 = .ok (.putfield 33, 3) := by decide +kernel
theorem dX9_ask_33 : decode cX9_ask 33 = .ok (.aload_n 0, 1) := by decide +kernel
theorem dX9_ask_34 : decode cX9_ask 34 = .ok (.aload_n 1, 1) := by decide +kernel
theorem dX9_ask_35 : decode cX9_ask 35 = .ok (.getfield 36, 3) := by decide +kernel
theorem dX9_ask_38 : decode cX9_ask 38 = .ok (.getfield 42, 3) := by decide +kernel
theorem dX9_ask_41 : decode cX9_ask 41 = .ok (.iload_n 3, 1) := by decide +kernel
theorem dX9_ask_42 : decode cX9_ask 42 = .ok (.iaload, 1) := by decide +kernel
theorem dX9_ask_43 : decode cX9_ask 43 = .ok (.aload_n 1, 1) := by decide +kernel
theorem dX9_ask_44 : decode cX9_ask 44 = .ok (.getfield 36, 3) := by decide +kernel
theorem dX9_ask_47 : decode cX9_ask 47 = .ok (.getfield 42, 3) := by decide +kernel
theorem dX9_ask_50 : decode cX9_ask 50 = .ok (.iload 4, 2) := by decide +kernel
theorem dX9_ask_52 : decode cX9_ask 52 = .ok (.iaload, 1) := by decide +kernel
theorem dX9_ask_53 : decode cX9_ask 53 = .ok (.iconst (-1), 1) := by decide +kernel
theorem dX9_ask_54 : decode cX9_ask 54 = .ok (.ixor, 1) := by decide +kernel
theorem dX9_ask_55 : decode cX9_ask 55 = .ok (.iand, 1) := by decide +kernel
theorem dX9_ask_56 : decode cX9_ask 56 = .ok (.putfield 47, 3) := by decide +kernel
theorem dX9_ask_59 : decode cX9_ask 59 = .ok (.return_, 1) := by decide +kernel
theorem dX9_findLeast_0 : decode cX9_findLeast 0 = .ok (.aload_n 0, 1) := by decide +kernel
theorem dX9_findLeast_1 : decode cX9_findLeast 1 = .ok (.iconst 0, 1) := by decide +kernel
theorem dX9_findLeast_2 : decode cX9_findLeast 2 = .ok (.putfield 50, 3) := by decide +kernel
theorem dX9_findLeast_5 : decode cX9_findLeast 5 = .ok (.iconst 0, 1) := by decide +kernel
theorem dX9_findLeast_6 : decode cX9_findLeast 6 = .ok (.istore_n 1, 1) := by decide +kernel
theorem dX9_findLeast_7 : decode cX9_findLeast 7 = .ok (.iconst 1, 1) := by decide +kernel
theorem dX9_findLeast_8 : decode cX9_findLeast 8 = .ok (.aload_n 0, 1) := by decide +kernel
theorem dX9_findLeast_9 : decode cX9_findLeast 9 = .ok (.getfield 47, 3) := by decide +kernel
theorem dX9_findLeast_12 : decode cX9_findLeast 12 = .ok (.invokestatic 53, 3) := by decide +kernel
theorem dX9_findLeast_15 : decode cX9_findLeast 15 = .ok (.ishl, 1) := by decide +kernel
theorem dX9_findLeast_16 : decode cX9_findLeast 16 = .ok (.istore_n 2, 1) := by decide +kernel
theorem dX9_findLeast_17 : decode cX9_findLeast 17 = .ok (.iconst 0, 1) := by decide +kernel
theorem dX9_findLeast_18 : decode cX9_findLeast 18 = .ok (.istore_n 3, 1) := by decide +kernel
theorem dX9_findLeast_19 : decode cX9_findLeast 19 = .ok (.iload_n 3, 1) := by decide +kernel
theorem dX9_findLeast_20 : decode cX9_findLeast 20 = .ok (.iload_n 2, 1) := by decide +kernel
theorem dX9_findLeast_21 : decode cX9_findLeast 21 = .ok (.if_icmp .ge 67, 3) := by decide +kernel
theorem dX9_findLeast_24 : decode cX9_findLeast 24 = .ok (.aload_n 0, 1) := by decide +kernel
theorem dX9_findLeast_25 : decode cX9_findLeast 25 = .ok (.getfield 50, 3) := by decide +kernel
theorem dX9_findLeast_28 : decode cX9_findLeast 28 = .ok (.sipush 252, 3) := by decide +kernel
theorem dX9_findLeast_31 : decode cX9_findLeast 31 = .ok (.if_icmp .ge 57, 3) := by decide +kernel
theorem dX9_findLeast_34 : decode cX9_findLeast 34 = .ok (.aload_n 0, 1) := by decide +kernel
theorem dX9_findLeast_35 : decode cX9_findLeast 35 = .ok (.iload_n 1, 1) := by decide +kernel
theorem dX9_findLeast_36 : decode cX9_findLeast 36 = .ok (.invokevirtual 59, 3) := by decide +kernel
theorem dX9_findLeast_39 : decode cX9_findLeast 39 = .ok (.ifCond .ne 31, 3) := by decide +kernel
theorem dX9_findLeast_42 : decode cX9_findLeast 42 = .ok (.aload_n 0, 1) := by decide +kernel
theorem dX9_findLeast_43 : decode cX9_findLeast 43 = .ok (.iload_n 1, 1) := by decide +kernel
theorem dX9_findLeast_44 : decode cX9_findLeast 44 = .ok (.invokevirtual 63, 3) := by decide +kernel
theorem dX9_findLeast_47 : decode cX9_findLeast 47 = .ok (.ifCond .eq 23, 3) := by decide +kernel
theorem dX9_findLeast_50 : decode cX9_findLeast 50 = .ok (.aload_n 0, 1) := by decide +kernel
theorem dX9_findLeast_51 : decode cX9_findLeast 51 = .ok (.getfield 11, 3) := by decide +kernel
theorem dX9_findLeast_54 : decode cX9_findLeast 54 = .ok (.aload_n 0, 1) := by decide +kernel
theorem dX9_findLeast_55 : decode cX9_findLeast 55 = .ok (.getfield 50, 3) := by decide +kernel
theorem dX9_findLeast_58 : decode cX9_findLeast 58 = .ok (.iload_n 1, 1) := by decide +kernel
theorem dX9_findLeast_59 : decode cX9_findLeast 59 = .ok (.iastore, 1) := by decide +kernel
theorem dX9_findLeast_60 : decode cX9_findLeast 60 = .ok (.aload_n 0, 1) := by decide +kernel
theorem dX9_findLeast_61 : decode cX9_findLeast 61 = .ok (.dup, 1) := by decide +kernel
theorem dX9_findLeast_62 : decode cX9_findLeast 62 = .ok (.getfield 50, 3) := by decide +kernel
theorem dX9_findLeast_65 : decode cX9_findLeast 65 = .ok (.iconst 1, 1) := by decide +kernel
theorem dX9_findLeast_66 : decode cX9_findLeast 66 = .ok (.iadd, 1) := by decide +kernel
theorem dX9_findLeast_67 : decode cX9_findLeast 67 = .ok (.putfield 50, 3) := by decide +kernel
theorem dX9_findLeast_70 : decode cX9_findLeast 70 = .ok (.iload_n 1, 1) := by decide +kernel
theorem dX9_findLeast_71 : decode cX9_findLeast 71 = .ok (.aload_n 0, 1) := by decide +kernel
theorem dX9_findLeast_72 : decode cX9_findLeast 72 = .ok (.getfield 47, 3) := by decide +kernel
theorem dX9_findLeast_75 : decode cX9_findLeast 75 = .ok (.isub, 1) := by decide +kernel
theorem dX9_findLeast_76 : decode cX9_findLeast 76 = .ok (.aload_n 0, 1) := by decide +kernel
theorem dX9_findLeast_77 : decode cX9_findLeast 77 = .ok (.getfield 47, 3) := by decide +kernel
theorem dX9_findLeast_80 : decode cX9_findLeast 80 = .ok (.iand, 1) := by decide +kernel
theorem dX9_findLeast_81 : decode cX9_findLeast 81 = .ok (.istore_n 1, 1) := by decide +kernel
theorem dX9_findLeast_82 : decode cX9_findLeast 82 = .ok (.iinc 3 1, 3) := by decide +kernel
theorem dX9_findLeast_85 : decode cX9_findLeast 85 = .ok (.goto (-66), 3) := by decide +kernel
theorem dX9_findLeast_88 : decode cX9_findLeast 88 = .ok (.return_, 1) := by decide +kernel
theorem dX9_fewest_0 : decode cX9_fewest 0 = .ok (.iconst (-1), 1) := by decide +kernel
theorem dX9_fewest_1 : decode cX9_fewest 1 = .ok (.istore_n 1, 1) := by decide +kernel
theorem dX9_fewest_2 : decode cX9_fewest 2 = .ok (.iconst 0, 1) := by decide +kernel
theorem dX9_fewest_3 : decode cX9_fewest 3 = .ok (.istore_n 2, 1) := by decide +kernel
theorem dX9_fewest_4 : decode cX9_fewest 4 = .ok (.iload_n 2, 1) := by decide +kernel
theorem dX9_fewest_5 : decode cX9_fewest 5 = .ok (.aload_n 0, 1) := by decide +kernel
theorem dX9_fewest_6 : decode cX9_fewest 6 = .ok (.getfield 50, 3) := by decide +kernel
theorem dX9_fewest_9 : decode cX9_fewest 9 = .ok (.if_icmp .ge 37, 3) := by decide +kernel
theorem dX9_fewest_12 : decode cX9_fewest 12 = .ok (.iload_n 1, 1) := by decide +kernel
theorem dX9_fewest_13 : decode cX9_fewest 13 = .ok (.iconst (-1), 1) := by decide +kernel
theorem dX9_fewest_14 : decode cX9_fewest 14 = .ok (.if_icmp .eq 19, 3) := by decide +kernel
theorem dX9_fewest_17 : decode cX9_fewest 17 = .ok (.aload_n 0, 1) := by decide +kernel
theorem dX9_fewest_18 : decode cX9_fewest 18 = .ok (.getfield 11, 3) := by decide +kernel
theorem dX9_fewest_21 : decode cX9_fewest 21 = .ok (.iload_n 2, 1) := by decide +kernel
theorem dX9_fewest_22 : decode cX9_fewest 22 = .ok (.iaload, 1) := by decide +kernel
theorem dX9_fewest_23 : decode cX9_fewest 23 = .ok (.invokestatic 53, 3) := by decide +kernel
theorem dX9_fewest_26 : decode cX9_fewest 26 = .ok (.iload_n 1, 1) := by decide +kernel
theorem dX9_fewest_27 : decode cX9_fewest 27 = .ok (.invokestatic 53, 3) := by decide +kernel
theorem dX9_fewest_30 : decode cX9_fewest 30 = .ok (.if_icmp .ge 10, 3) := by decide +kernel
theorem dX9_fewest_33 : decode cX9_fewest 33 = .ok (.aload_n 0, 1) := by decide +kernel
theorem dX9_fewest_34 : decode cX9_fewest 34 = .ok (.getfield 11, 3) := by decide +kernel
theorem dX9_fewest_37 : decode cX9_fewest 37 = .ok (.iload_n 2, 1) := by decide +kernel
theorem dX9_fewest_38 : decode cX9_fewest 38 = .ok (.iaload, 1) := by decide +kernel
theorem dX9_fewest_39 : decode cX9_fewest 39 = .ok (.istore_n 1, 1) := by decide +kernel
theorem dX9_fewest_40 : decode cX9_fewest 40 = .ok (.iinc 2 1, 3) := by decide +kernel
theorem dX9_fewest_43 : decode cX9_fewest 43 = .ok (.goto (-39), 3) := by decide +kernel
theorem dX9_fewest_46 : decode cX9_fewest 46 = .ok (.iload_n 1, 1) := by decide +kernel
theorem dX9_fewest_47 : decode cX9_fewest 47 = .ok (.ireturn, 1) := by decide +kernel
theorem dX9_alone_0 : decode cX9_alone 0 = .ok (.iconst 0, 1) := by decide +kernel
theorem dX9_alone_1 : decode cX9_alone 1 = .ok (.istore_n 1, 1) := by decide +kernel
theorem dX9_alone_2 : decode cX9_alone 2 = .ok (.iconst 0, 1) := by decide +kernel
theorem dX9_alone_3 : decode cX9_alone 3 = .ok (.istore_n 2, 1) := by decide +kernel
theorem dX9_alone_4 : decode cX9_alone 4 = .ok (.iload_n 2, 1) := by decide +kernel
theorem dX9_alone_5 : decode cX9_alone 5 = .ok (.bipush 10, 2) := by decide +kernel
theorem dX9_alone_7 : decode cX9_alone 7 = .ok (.if_icmp .ge 37, 3) := by decide +kernel
theorem dX9_alone_10 : decode cX9_alone 10 = .ok (.aload_n 0, 1) := by decide +kernel
theorem dX9_alone_11 : decode cX9_alone 11 = .ok (.getfield 47, 3) := by decide +kernel
theorem dX9_alone_14 : decode cX9_alone 14 = .ok (.iload_n 2, 1) := by decide +kernel
theorem dX9_alone_15 : decode cX9_alone 15 = .ok (.ishr, 1) := by decide +kernel
theorem dX9_alone_16 : decode cX9_alone 16 = .ok (.iconst 1, 1) := by decide +kernel
theorem dX9_alone_17 : decode cX9_alone 17 = .ok (.iand, 1) := by decide +kernel
theorem dX9_alone_18 : decode cX9_alone 18 = .ok (.iconst 1, 1) := by decide +kernel
theorem dX9_alone_19 : decode cX9_alone 19 = .ok (.if_icmp .ne 19, 3) := by decide +kernel
theorem dX9_alone_22 : decode cX9_alone 22 = .ok (.aload_n 0, 1) := by decide +kernel
theorem dX9_alone_23 : decode cX9_alone 23 = .ok (.iconst 1, 1) := by decide +kernel
theorem dX9_alone_24 : decode cX9_alone 24 = .ok (.iload_n 2, 1) := by decide +kernel
theorem dX9_alone_25 : decode cX9_alone 25 = .ok (.ishl, 1) := by decide +kernel
theorem dX9_alone_26 : decode cX9_alone 26 = .ok (.invokevirtual 63, 3) := by decide +kernel
theorem dX9_alone_29 : decode cX9_alone 29 = .ok (.ifCond .eq 9, 3) := by decide +kernel
theorem dX9_alone_32 : decode cX9_alone 32 = .ok (.iload_n 1, 1) := by decide +kernel
theorem dX9_alone_33 : decode cX9_alone 33 = .ok (.iconst 1, 1) := by decide +kernel
theorem dX9_alone_34 : decode cX9_alone 34 = .ok (.iload_n 2, 1) := by decide +kernel
theorem dX9_alone_35 : decode cX9_alone 35 = .ok (.ishl, 1) := by decide +kernel
theorem dX9_alone_36 : decode cX9_alone 36 = .ok (.ior, 1) := by decide +kernel
theorem dX9_alone_37 : decode cX9_alone 37 = .ok (.istore_n 1, 1) := by decide +kernel
theorem dX9_alone_38 : decode cX9_alone 38 = .ok (.iinc 2 1, 3) := by decide +kernel
theorem dX9_alone_41 : decode cX9_alone 41 = .ok (.goto (-37), 3) := by decide +kernel
theorem dX9_alone_44 : decode cX9_alone 44 = .ok (.iload_n 1, 1) := by decide +kernel
theorem dX9_alone_45 : decode cX9_alone 45 = .ok (.ireturn, 1) := by decide +kernel
theorem dX9_holdsFound_0 : decode cX9_holdsFound 0 = .ok (.iconst 0, 1) := by decide +kernel
theorem dX9_holdsFound_1 : decode cX9_holdsFound 1 = .ok (.istore_n 2, 1) := by decide +kernel
theorem dX9_holdsFound_2 : decode cX9_holdsFound 2 = .ok (.iload_n 2, 1) := by decide +kernel
theorem dX9_holdsFound_3 : decode cX9_holdsFound 3 = .ok (.aload_n 0, 1) := by decide +kernel
theorem dX9_holdsFound_4 : decode cX9_holdsFound 4 = .ok (.getfield 50, 3) := by decide +kernel
theorem dX9_holdsFound_7 : decode cX9_holdsFound 7 = .ok (.if_icmp .ge 24, 3) := by decide +kernel
theorem dX9_holdsFound_10 : decode cX9_holdsFound 10 = .ok (.aload_n 0, 1) := by decide +kernel
theorem dX9_holdsFound_11 : decode cX9_holdsFound 11 = .ok (.getfield 11, 3) := by decide +kernel
theorem dX9_holdsFound_14 : decode cX9_holdsFound 14 = .ok (.iload_n 2, 1) := by decide +kernel
theorem dX9_holdsFound_15 : decode cX9_holdsFound 15 = .ok (.iaload, 1) := by decide +kernel
theorem dX9_holdsFound_16 : decode cX9_holdsFound 16 = .ok (.iload_n 1, 1) := by decide +kernel
theorem dX9_holdsFound_17 : decode cX9_holdsFound 17 = .ok (.iconst (-1), 1) := by decide +kernel
theorem dX9_holdsFound_18 : decode cX9_holdsFound 18 = .ok (.ixor, 1) := by decide +kernel
theorem dX9_holdsFound_19 : decode cX9_holdsFound 19 = .ok (.iand, 1) := by decide +kernel
theorem dX9_holdsFound_20 : decode cX9_holdsFound 20 = .ok (.ifCond .ne 5, 3) := by decide +kernel
theorem dX9_holdsFound_23 : decode cX9_holdsFound 23 = .ok (.iconst 1, 1) := by decide +kernel
theorem dX9_holdsFound_24 : decode cX9_holdsFound 24 = .ok (.ireturn, 1) := by decide +kernel
theorem dX9_holdsFound_25 : decode cX9_holdsFound 25 = .ok (.iinc 2 1, 3) := by decide +kernel
theorem dX9_holdsFound_28 : decode cX9_holdsFound 28 = .ok (.goto (-26), 3) := by decide +kernel
theorem dX9_holdsFound_31 : decode cX9_holdsFound 31 = .ok (.iconst 0, 1) := by decide +kernel
theorem dX9_holdsFound_32 : decode cX9_holdsFound 32 = .ok (.ireturn, 1) := by decide +kernel
theorem dX9_brings_0 : decode cX9_brings 0 = .ok (.aload_n 0, 1) := by decide +kernel
theorem dX9_brings_1 : decode cX9_brings 1 = .ok (.getfield 15, 3) := by decide +kernel
theorem dX9_brings_4 : decode cX9_brings 4 = .ok (.ifnull 10, 3) := by decide +kernel
theorem dX9_brings_7 : decode cX9_brings 7 = .ok (.aload_n 0, 1) := by decide +kernel
theorem dX9_brings_8 : decode cX9_brings 8 = .ok (.getfield 19, 3) := by decide +kernel
theorem dX9_brings_11 : decode cX9_brings 11 = .ok (.ifnonnull 5, 3) := by decide +kernel
theorem dX9_brings_14 : decode cX9_brings 14 = .ok (.iconst 0, 1) := by decide +kernel
theorem dX9_brings_15 : decode cX9_brings 15 = .ok (.ireturn, 1) := by decide +kernel
theorem dX9_brings_16 : decode cX9_brings 16 = .ok (.aload_n 0, 1) := by decide +kernel
theorem dX9_brings_17 : decode cX9_brings 17 = .ok (.getfield 19, 3) := by decide +kernel
theorem dX9_brings_20 : decode cX9_brings 20 = .ok (.aload_n 0, 1) := by decide +kernel
theorem dX9_brings_21 : decode cX9_brings 21 = .ok (.getfield 15, 3) := by decide +kernel
theorem dX9_brings_24 : decode cX9_brings 24 = .ok (.aload_n 0, 1) := by decide +kernel
theorem dX9_brings_25 : decode cX9_brings 25 = .ok (.getfield 23, 3) := by decide +kernel
theorem dX9_brings_28 : decode cX9_brings 28 = .ok (.aload_n 0, 1) := by decide +kernel
theorem dX9_brings_29 : decode cX9_brings 29 = .ok (.getfield 15, 3) := by decide +kernel
theorem dX9_brings_32 : decode cX9_brings 32 = .ok (.getfield 36, 3) := by decide +kernel
theorem dX9_brings_35 : decode cX9_brings 35 = .ok (.getfield 42, 3) := by decide +kernel
theorem dX9_brings_38 : decode cX9_brings 38 = .ok (.aload_n 0, 1) := by decide +kernel
theorem dX9_brings_39 : decode cX9_brings 39 = .ok (.getfield 23, 3) := by decide +kernel
theorem dX9_brings_42 : decode cX9_brings 42 = .ok (.iaload, 1) := by decide +kernel
theorem dX9_brings_43 : decode cX9_brings 43 = .ok (.iload_n 1, 1) := by decide +kernel
theorem dX9_brings_44 : decode cX9_brings 44 = .ok (.iconst (-1), 1) := by decide +kernel
theorem dX9_brings_45 : decode cX9_brings 45 = .ok (.ixor, 1) := by decide +kernel
theorem dX9_brings_46 : decode cX9_brings 46 = .ok (.iand, 1) := by decide +kernel
theorem dX9_brings_47 : decode cX9_brings 47 = .ok (.aload_n 0, 1) := by decide +kernel
theorem dX9_brings_48 : decode cX9_brings 48 = .ok (.getfield 27, 3) := by decide +kernel
theorem dX9_brings_51 : decode cX9_brings 51 = .ok (.aload_n 0, 1) := by decide +kernel
theorem dX9_brings_52 : decode cX9_brings 52 = .ok (.getfield 30, 3) := by decide +kernel
theorem dX9_brings_55 : decode cX9_brings 55 = .ok (.invokevirtual 66, 3) := by decide +kernel
theorem dX9_brings_58 : decode cX9_brings 58 = .ok (.aload_n 0, 1) := by decide +kernel
theorem dX9_brings_59 : decode cX9_brings 59 = .ok (.getfield 19, 3) := by decide +kernel
theorem dX9_brings_62 : decode cX9_brings 62 = .ok (.getfield 72, 3) := by decide +kernel
theorem dX9_brings_65 : decode cX9_brings 65 = .ok (.ifCond .ne 23, 3) := by decide +kernel
theorem dX9_brings_68 : decode cX9_brings 68 = .ok (.aload_n 0, 1) := by decide +kernel
theorem dX9_brings_69 : decode cX9_brings 69 = .ok (.getfield 19, 3) := by decide +kernel
theorem dX9_brings_72 : decode cX9_brings 72 = .ok (.getfield 76, 3) := by decide +kernel
theorem dX9_brings_75 : decode cX9_brings 75 = .ok (.iconst 5, 1) := by decide +kernel
theorem dX9_brings_76 : decode cX9_brings 76 = .ok (.iaload, 1) := by decide +kernel
theorem dX9_brings_77 : decode cX9_brings 77 = .ok (.aload_n 0, 1) := by decide +kernel
theorem dX9_brings_78 : decode cX9_brings 78 = .ok (.getfield 33, 3) := by decide +kernel
theorem dX9_brings_81 : decode cX9_brings 81 = .ok (.if_icmp .gt 7, 3) := by decide +kernel
theorem dX9_brings_84 : decode cX9_brings 84 = .ok (.iconst 1, 1) := by decide +kernel
theorem dX9_brings_85 : decode cX9_brings 85 = .ok (.goto 4, 3) := by decide +kernel
theorem dX9_brings_88 : decode cX9_brings 88 = .ok (.iconst 0, 1) := by decide +kernel
theorem dX9_brings_89 : decode cX9_brings 89 = .ok (.ireturn, 1) := by decide +kernel
theorem dX10_init_0 : decode cX10_init 0 = .ok (.aload_n 0, 1) := by decide +kernel
theorem dX10_init_1 : decode cX10_init 1 = .ok (.invokespecial 1, 3) := by decide +kernel
theorem dX10_init_4 : decode cX10_init 4 = .ok (.aload_n 0, 1) := by decide +kernel
theorem dX10_init_5 : decode cX10_init 5 = .ok (.sipush 256, 3) := by decide +kernel
theorem dX10_init_8 : decode cX10_init 8 = .ok (.newarray .int, 2) := by decide +kernel
theorem dX10_init_10 : decode cX10_init 10 = .ok (.putfield 9, 3) := by decide +kernel
theorem dX10_init_13 : decode cX10_init 13 = .ok (.aload_n 0, 1) := by decide +kernel
theorem dX10_init_14 : decode cX10_init 14 = .ok (.sipush 256, 3) := by decide +kernel
theorem dX10_init_17 : decode cX10_init 17 = .ok (.newarray .int, 2) := by decide +kernel
theorem dX10_init_19 : decode cX10_init 19 = .ok (.putfield 13, 3) := by decide +kernel
theorem dX10_init_22 : decode cX10_init 22 = .ok (.aload_n 0, 1) := by decide +kernel
theorem dX10_init_23 : decode cX10_init 23 = .ok (.sipush 256, 3) := by decide +kernel
theorem dX10_init_26 : decode cX10_init 26 = .ok (.newarray .int, 2) := by decide +kernel
theorem dX10_init_28 : decode cX10_init 28 = .ok (.putfield 16, 3) := by decide +kernel
theorem dX10_init_31 : decode cX10_init 31 = .ok (.return_, 1) := by decide +kernel
theorem dX10_dealt_0 : decode cX10_dealt 0 = .ok (.iload_n 2, 1) := by decide +kernel
theorem dX10_dealt_1 : decode cX10_dealt 1 = .ok (.iconst 2, 1) := by decide +kernel
theorem dX10_dealt_2 : decode cX10_dealt 2 = .ok (.idiv, 1) := by decide +kernel
theorem dX10_dealt_3 : decode cX10_dealt 3 = .ok (.istore 4, 2) := by decide +kernel
theorem dX10_dealt_5 : decode cX10_dealt 5 = .ok (.iload_n 3, 1) := by decide +kernel
theorem dX10_dealt_6 : decode cX10_dealt 6 = .ok (.ifCond .eq 7, 3) := by decide +kernel
theorem dX10_dealt_9 : decode cX10_dealt 9 = .ok (.iconst (-1), 1) := by decide +kernel
theorem dX10_dealt_10 : decode cX10_dealt 10 = .ok (.goto 4, 3) := by decide +kernel
theorem dX10_dealt_13 : decode cX10_dealt 13 = .ok (.iconst 1, 1) := by decide +kernel
theorem dX10_dealt_14 : decode cX10_dealt 14 = .ok (.istore 5, 2) := by decide +kernel
theorem dX10_dealt_16 : decode cX10_dealt 16 = .ok (.aload_n 0, 1) := by decide +kernel
theorem dX10_dealt_17 : decode cX10_dealt 17 = .ok (.aload_n 1, 1) := by decide +kernel
theorem dX10_dealt_18 : decode cX10_dealt 18 = .ok (.iconst 0, 1) := by decide +kernel
theorem dX10_dealt_19 : decode cX10_dealt 19 = .ok (.iload 4, 2) := by decide +kernel
theorem dX10_dealt_21 : decode cX10_dealt 21 = .ok (.iload 5, 2) := by decide +kernel
theorem dX10_dealt_23 : decode cX10_dealt 23 = .ok (.aload_n 0, 1) := by decide +kernel
theorem dX10_dealt_24 : decode cX10_dealt 24 = .ok (.getfield 9, 3) := by decide +kernel
theorem dX10_dealt_27 : decode cX10_dealt 27 = .ok (.invokevirtual 19, 3) := by decide +kernel
theorem dX10_dealt_30 : decode cX10_dealt 30 = .ok (.istore 6, 2) := by decide +kernel
theorem dX10_dealt_32 : decode cX10_dealt 32 = .ok (.aload_n 0, 1) := by decide +kernel
theorem dX10_dealt_33 : decode cX10_dealt 33 = .ok (.aload_n 1, 1) := by decide +kernel
theorem dX10_dealt_34 : decode cX10_dealt 34 = .ok (.iload 4, 2) := by decide +kernel
theorem dX10_dealt_36 : decode cX10_dealt 36 = .ok (.iload_n 2, 1) := by decide +kernel
theorem dX10_dealt_37 : decode cX10_dealt 37 = .ok (.iload 5, 2) := by decide +kernel
theorem dX10_dealt_39 : decode cX10_dealt 39 = .ok (.aload_n 0, 1) := by decide +kernel
theorem dX10_dealt_40 : decode cX10_dealt 40 = .ok (.getfield 13, 3) := by decide +kernel
theorem dX10_dealt_43 : decode cX10_dealt 43 = .ok (.invokevirtual 19, 3) := by decide +kernel
theorem dX10_dealt_46 : decode cX10_dealt 46 = .ok (.istore 7, 2) := by decide +kernel
theorem dX10_dealt_48 : decode cX10_dealt 48 = .ok (.iconst 0, 1) := by decide +kernel
theorem dX10_dealt_49 : decode cX10_dealt 49 = .ok (.istore 8, 2) := by decide +kernel
theorem dX10_dealt_51 : decode cX10_dealt 51 = .ok (.iload 7, 2) := by decide +kernel
theorem dX10_dealt_53 : decode cX10_dealt 53 = .ok (.istore 9, 2) := by decide +kernel
theorem dX10_dealt_55 : decode cX10_dealt 55 = .ok (.iconst 0, 1) := by decide +kernel
theorem dX10_dealt_56 : decode cX10_dealt 56 = .ok (.istore 10, 2) := by decide +kernel
theorem dX10_dealt_58 : decode cX10_dealt 58 = .ok (.iload 10, 2) := by decide +kernel
theorem dX10_dealt_60 : decode cX10_dealt 60 = .ok (.iload 6, 2) := by decide +kernel
theorem dX10_dealt_62 : decode cX10_dealt 62 = .ok (.if_icmp .ge 47, 3) := by decide +kernel
theorem dX10_dealt_65 : decode cX10_dealt 65 = .ok (.iload 9, 2) := by decide +kernel
theorem dX10_dealt_67 : decode cX10_dealt 67 = .ok (.ifCond .le 29, 3) := by decide +kernel
theorem dX10_dealt_70 : decode cX10_dealt 70 = .ok (.aload_n 0, 1) := by decide +kernel
theorem dX10_dealt_71 : decode cX10_dealt 71 = .ok (.getfield 9, 3) := by decide +kernel
theorem dX10_dealt_74 : decode cX10_dealt 74 = .ok (.iload 10, 2) := by decide +kernel
theorem dX10_dealt_76 : decode cX10_dealt 76 = .ok (.iaload, 1) := by decide +kernel
theorem dX10_dealt_77 : decode cX10_dealt 77 = .ok (.aload_n 0, 1) := by decide +kernel
theorem dX10_dealt_78 : decode cX10_dealt 78 = .ok (.getfield 13, 3) := by decide +kernel
theorem dX10_dealt_81 : decode cX10_dealt 81 = .ok (.iload 9, 2) := by decide +kernel
theorem dX10_dealt_83 : decode cX10_dealt 83 = .ok (.iconst 1, 1) := by decide +kernel
theorem dX10_dealt_84 : decode cX10_dealt 84 = .ok (.isub, 1) := by decide +kernel
theorem dX10_dealt_85 : decode cX10_dealt 85 = .ok (.iaload, 1) := by decide +kernel
theorem dX10_dealt_86 : decode cX10_dealt 86 = .ok (.iadd, 1) := by decide +kernel
theorem dX10_dealt_87 : decode cX10_dealt 87 = .ok (.ifCond .le 9, 3) := by decide +kernel
theorem dX10_dealt_90 : decode cX10_dealt 90 = .ok (.iinc 9 (-1), 3) := by decide +kernel
theorem dX10_dealt_93 : decode cX10_dealt 93 = .ok (.goto (-28), 3) := by decide +kernel
theorem dX10_dealt_96 : decode cX10_dealt 96 = .ok (.iload 8, 2) := by decide +kernel
theorem dX10_dealt_98 : decode cX10_dealt 98 = .ok (.iload 9, 2) := by decide +kernel
theorem dX10_dealt_100 : decode cX10_dealt 100 = .ok (.iadd, 1) := by decide +kernel
theorem dX10_dealt_101 : decode cX10_dealt 101 = .ok (.istore 8, 2) := by decide +kernel
theorem dX10_dealt_103 : decode cX10_dealt 103 = .ok (.iinc 10 1, 3) := by decide +kernel
theorem dX10_dealt_106 : decode cX10_dealt 106 = .ok (.goto (-48), 3) := by decide +kernel
theorem dX10_dealt_109 : decode cX10_dealt 109 = .ok (.iload 8, 2) := by decide +kernel
theorem dX10_dealt_111 : decode cX10_dealt 111 = .ok (.ireturn, 1) := by decide +kernel
theorem dX10_sumsOfSets_0 : decode cX10_sumsOfSets 0 = .ok (.aload 5, 2) := by decide +kernel
theorem dX10_sumsOfSets_2 : decode cX10_sumsOfSets 2 = .ok (.iconst 0, 1) := by decide +kernel
theorem dX10_sumsOfSets_3 : decode cX10_sumsOfSets 3 = .ok (.iconst 0, 1) := by decide +kernel
theorem dX10_sumsOfSets_4 : decode cX10_sumsOfSets 4 = .ok (.iastore, 1) := by decide +kernel
theorem dX10_sumsOfSets_5 : decode cX10_sumsOfSets 5 = .ok (.iconst 1, 1) := by decide +kernel
theorem dX10_sumsOfSets_6 : decode cX10_sumsOfSets 6 = .ok (.istore 6, 2) := by decide +kernel
theorem dX10_sumsOfSets_8 : decode cX10_sumsOfSets 8 = .ok (.iload_n 2, 1) := by decide +kernel
theorem dX10_sumsOfSets_9 : decode cX10_sumsOfSets 9 = .ok (.istore 7, 2) := by decide +kernel
theorem dX10_sumsOfSets_11 : decode cX10_sumsOfSets 11 = .ok (.iload 7, 2) := by decide +kernel
theorem dX10_sumsOfSets_13 : decode cX10_sumsOfSets 13 = .ok (.iload_n 3, 1) := by decide +kernel
theorem dX10_sumsOfSets_14 : decode cX10_sumsOfSets 14 = .ok (.if_icmp .ge 40, 3) := by decide +kernel
theorem dX10_sumsOfSets_17 : decode cX10_sumsOfSets 17 = .ok (.iload 6, 2) := by decide +kernel
theorem dX10_sumsOfSets_19 : decode cX10_sumsOfSets 19 = .ok (.iconst 2, 1) := by decide +kernel
theorem dX10_sumsOfSets_20 : decode cX10_sumsOfSets 20 = .ok (.imul, 1) := by decide +kernel
theorem dX10_sumsOfSets_21 : decode cX10_sumsOfSets 21 = .ok (.sipush 256, 3) := by decide +kernel
theorem dX10_sumsOfSets_24 : decode cX10_sumsOfSets 24 = .ok (.if_icmp .gt 30, 3) := by decide +kernel
theorem dX10_sumsOfSets_27 : decode cX10_sumsOfSets 27 = .ok (.aload_n 0, 1) := by decide +kernel
theorem dX10_sumsOfSets_28 : decode cX10_sumsOfSets 28 = .ok (.aload 5, 2) := by decide +kernel
theorem dX10_sumsOfSets_30 : decode cX10_sumsOfSets 30 = .ok (.iload 6, 2) := by decide +kernel
theorem dX10_sumsOfSets_32 : decode cX10_sumsOfSets 32 = .ok (.aload_n 1, 1) := by decide +kernel
theorem dX10_sumsOfSets_33 : decode cX10_sumsOfSets 33 = .ok (.iload 7, 2) := by decide +kernel
theorem dX10_sumsOfSets_35 : decode cX10_sumsOfSets 35 = .ok (.iaload, 1) := by decide +kernel
theorem dX10_sumsOfSets_36 : decode cX10_sumsOfSets 36 = .ok (.iload 4, 2) := by decide +kernel
theorem dX10_sumsOfSets_38 : decode cX10_sumsOfSets 38 = .ok (.imul, 1) := by decide +kernel
theorem dX10_sumsOfSets_39 : decode cX10_sumsOfSets 39 = .ok (.invokevirtual 23, 3) := by decide +kernel
theorem dX10_sumsOfSets_42 : decode cX10_sumsOfSets 42 = .ok (.iload 6, 2) := by decide +kernel
theorem dX10_sumsOfSets_44 : decode cX10_sumsOfSets 44 = .ok (.iconst 2, 1) := by decide +kernel
theorem dX10_sumsOfSets_45 : decode cX10_sumsOfSets 45 = .ok (.imul, 1) := by decide +kernel
theorem dX10_sumsOfSets_46 : decode cX10_sumsOfSets 46 = .ok (.istore 6, 2) := by decide +kernel
theorem dX10_sumsOfSets_48 : decode cX10_sumsOfSets 48 = .ok (.iinc 7 1, 3) := by decide +kernel
theorem dX10_sumsOfSets_51 : decode cX10_sumsOfSets 51 = .ok (.goto (-40), 3) := by decide +kernel
theorem dX10_sumsOfSets_54 : decode cX10_sumsOfSets 54 = .ok (.iload 6, 2) := by decide +kernel
theorem dX10_sumsOfSets_56 : decode cX10_sumsOfSets 56 = .ok (.ireturn, 1) := by decide +kernel
theorem dX10_addToEach_0 : decode cX10_addToEach 0 = .ok (.iconst 0, 1) := by decide +kernel
theorem dX10_addToEach_1 : decode cX10_addToEach 1 = .ok (.istore 4, 2) := by decide +kernel
theorem dX10_addToEach_3 : decode cX10_addToEach 3 = .ok (.iconst 0, 1) := by decide +kernel
theorem dX10_addToEach_4 : decode cX10_addToEach 4 = .ok (.istore 5, 2) := by decide +kernel
theorem dX10_addToEach_6 : decode cX10_addToEach 6 = .ok (.iconst 0, 1) := by decide +kernel
theorem dX10_addToEach_7 : decode cX10_addToEach 7 = .ok (.istore 6, 2) := by decide +kernel
theorem dX10_addToEach_9 : decode cX10_addToEach 9 = .ok (.iload 6, 2) := by decide +kernel
theorem dX10_addToEach_11 : decode cX10_addToEach 11 = .ok (.iload_n 2, 1) := by decide +kernel
theorem dX10_addToEach_12 : decode cX10_addToEach 12 = .ok (.iconst 2, 1) := by decide +kernel
theorem dX10_addToEach_13 : decode cX10_addToEach 13 = .ok (.imul, 1) := by decide +kernel
theorem dX10_addToEach_14 : decode cX10_addToEach 14 = .ok (.if_icmp .ge 67, 3) := by decide +kernel
theorem dX10_addToEach_17 : decode cX10_addToEach 17 = .ok (.iload 5, 2) := by decide +kernel
theorem dX10_addToEach_19 : decode cX10_addToEach 19 = .ok (.iload_n 2, 1) := by decide +kernel
theorem dX10_addToEach_20 : decode cX10_addToEach 20 = .ok (.if_icmp .ge 22, 3) := by decide +kernel
theorem dX10_addToEach_23 : decode cX10_addToEach 23 = .ok (.iload 4, 2) := by decide +kernel
theorem dX10_addToEach_25 : decode cX10_addToEach 25 = .ok (.iload_n 2, 1) := by decide +kernel
theorem dX10_addToEach_26 : decode cX10_addToEach 26 = .ok (.if_icmp .ge 33, 3) := by decide +kernel
theorem dX10_addToEach_29 : decode cX10_addToEach 29 = .ok (.aload_n 1, 1) := by decide +kernel
theorem dX10_addToEach_30 : decode cX10_addToEach 30 = .ok (.iload 4, 2) := by decide +kernel
theorem dX10_addToEach_32 : decode cX10_addToEach 32 = .ok (.iaload, 1) := by decide +kernel
theorem dX10_addToEach_33 : decode cX10_addToEach 33 = .ok (.aload_n 1, 1) := by decide +kernel
theorem dX10_addToEach_34 : decode cX10_addToEach 34 = .ok (.iload 5, 2) := by decide +kernel
theorem dX10_addToEach_36 : decode cX10_addToEach 36 = .ok (.iaload, 1) := by decide +kernel
theorem dX10_addToEach_37 : decode cX10_addToEach 37 = .ok (.iload_n 3, 1) := by decide +kernel
theorem dX10_addToEach_38 : decode cX10_addToEach 38 = .ok (.iadd, 1) := by decide +kernel
theorem dX10_addToEach_39 : decode cX10_addToEach 39 = .ok (.if_icmp .gt 20, 3) := by decide +kernel
theorem dX10_addToEach_42 : decode cX10_addToEach 42 = .ok (.aload_n 0, 1) := by decide +kernel
theorem dX10_addToEach_43 : decode cX10_addToEach 43 = .ok (.getfield 16, 3) := by decide +kernel
theorem dX10_addToEach_46 : decode cX10_addToEach 46 = .ok (.iload 6, 2) := by decide +kernel
theorem dX10_addToEach_48 : decode cX10_addToEach 48 = .ok (.aload_n 1, 1) := by decide +kernel
theorem dX10_addToEach_49 : decode cX10_addToEach 49 = .ok (.iload 4, 2) := by decide +kernel
theorem dX10_addToEach_51 : decode cX10_addToEach 51 = .ok (.iaload, 1) := by decide +kernel
theorem dX10_addToEach_52 : decode cX10_addToEach 52 = .ok (.iastore, 1) := by decide +kernel
theorem dX10_addToEach_53 : decode cX10_addToEach 53 = .ok (.iinc 4 1, 3) := by decide +kernel
theorem dX10_addToEach_56 : decode cX10_addToEach 56 = .ok (.goto 19, 3) := by decide +kernel
theorem dX10_addToEach_59 : decode cX10_addToEach 59 = .ok (.aload_n 0, 1) := by decide +kernel
theorem dX10_addToEach_60 : decode cX10_addToEach 60 = .ok (.getfield 16, 3) := by decide +kernel
theorem dX10_addToEach_63 : decode cX10_addToEach 63 = .ok (.iload 6, 2) := by decide +kernel
theorem dX10_addToEach_65 : decode cX10_addToEach 65 = .ok (.aload_n 1, 1) := by decide +kernel
theorem dX10_addToEach_66 : decode cX10_addToEach 66 = .ok (.iload 5, 2) := by decide +kernel
theorem dX10_addToEach_68 : decode cX10_addToEach 68 = .ok (.iaload, 1) := by decide +kernel
theorem dX10_addToEach_69 : decode cX10_addToEach 69 = .ok (.iload_n 3, 1) := by decide +kernel
theorem dX10_addToEach_70 : decode cX10_addToEach 70 = .ok (.iadd, 1) := by decide +kernel
theorem dX10_addToEach_71 : decode cX10_addToEach 71 = .ok (.iastore, 1) := by decide +kernel
theorem dX10_addToEach_72 : decode cX10_addToEach 72 = .ok (.iinc 5 1, 3) := by decide +kernel
theorem dX10_addToEach_75 : decode cX10_addToEach 75 = .ok (.iinc 6 1, 3) := by decide +kernel
theorem dX10_addToEach_78 : decode cX10_addToEach 78 = .ok (.goto (-69), 3) := by decide +kernel
theorem dX10_addToEach_81 : decode cX10_addToEach 81 = .ok (.aload_n 0, 1) := by decide +kernel
theorem dX10_addToEach_82 : decode cX10_addToEach 82 = .ok (.getfield 16, 3) := by decide +kernel
theorem dX10_addToEach_85 : decode cX10_addToEach 85 = .ok (.iconst 0, 1) := by decide +kernel
theorem dX10_addToEach_86 : decode cX10_addToEach 86 = .ok (.aload_n 1, 1) := by decide +kernel
theorem dX10_addToEach_87 : decode cX10_addToEach 87 = .ok (.iconst 0, 1) := by decide +kernel
theorem dX10_addToEach_88 : decode cX10_addToEach 88 = .ok (.iload_n 2, 1) := by decide +kernel
theorem dX10_addToEach_89 : decode cX10_addToEach 89 = .ok (.iconst 2, 1) := by decide +kernel
theorem dX10_addToEach_90 : decode cX10_addToEach 90 = .ok (.imul, 1) := by decide +kernel
theorem dX10_addToEach_91 : decode cX10_addToEach 91 = .ok (.invokestatic 27, 3) := by decide +kernel
theorem dX10_addToEach_94 : decode cX10_addToEach 94 = .ok (.return_, 1) := by decide +kernel
theorem dJ0_length_8abf5_0 : decode cJ0_length_8abf5 0 = .ok (.aload_n 0, 1) := by decide +kernel
theorem dJ0_length_8abf5_1 : decode cJ0_length_8abf5 1 = .ok (.getfield 9, 3) := by decide +kernel
theorem dJ0_length_8abf5_4 : decode cJ0_length_8abf5 4 = .ok (.arraylength, 1) := by decide +kernel
theorem dJ0_length_8abf5_5 : decode cJ0_length_8abf5 5 = .ok (.aload_n 0, 1) := by decide +kernel
theorem dJ0_length_8abf5_6 : decode cJ0_length_8abf5 6 = .ok (.invokevirtual 335, 3) := by decide +kernel
theorem dJ0_length_8abf5_9 : decode cJ0_length_8abf5 9 = .ok (.ishr, 1) := by decide +kernel
theorem dJ0_length_8abf5_10 : decode cJ0_length_8abf5 10 = .ok (.ireturn, 1) := by decide +kernel
theorem dJ0_charAt_5068e_0 : decode cJ0_charAt_5068e 0 = .ok (.aload_n 0, 1) := by decide +kernel
theorem dJ0_charAt_5068e_1 : decode cJ0_charAt_5068e 1 = .ok (.invokevirtual 492, 3) := by decide +kernel
theorem dJ0_charAt_5068e_4 : decode cJ0_charAt_5068e 4 = .ok (.ifCond .eq 12, 3) := by decide +kernel
theorem dJ0_charAt_5068e_7 : decode cJ0_charAt_5068e 7 = .ok (.aload_n 0, 1) := by decide +kernel
theorem dJ0_charAt_5068e_8 : decode cJ0_charAt_5068e 8 = .ok (.getfield 9, 3) := by decide +kernel
theorem dJ0_charAt_5068e_11 : decode cJ0_charAt_5068e 11 = .ok (.iload_n 1, 1) := by decide +kernel
theorem dJ0_charAt_5068e_12 : decode cJ0_charAt_5068e 12 = .ok (.invokestatic 495, 3) := by decide +kernel
theorem dJ0_charAt_5068e_15 : decode cJ0_charAt_5068e 15 = .ok (.ireturn, 1) := by decide +kernel
theorem dJ0_charAt_5068e_16 : decode cJ0_charAt_5068e 16 = .ok (.aload_n 0, 1) := by decide +kernel
theorem dJ0_charAt_5068e_17 : decode cJ0_charAt_5068e 17 = .ok (.getfield 9, 3) := by decide +kernel
theorem dJ0_charAt_5068e_20 : decode cJ0_charAt_5068e 20 = .ok (.iload_n 1, 1) := by decide +kernel
theorem dJ0_charAt_5068e_21 : decode cJ0_charAt_5068e 21 = .ok (.invokestatic 498, 3) := by decide +kernel
theorem dJ0_charAt_5068e_24 : decode cJ0_charAt_5068e 24 = .ok (.ireturn, 1) := by decide +kernel
theorem dJ0_coder_7d493_0 : decode cJ0_coder_7d493 0 = .ok (.getstatic 38, 3) := by decide +kernel
theorem dJ0_coder_7d493_3 : decode cJ0_coder_7d493 3 = .ok (.ifCond .eq 10, 3) := by decide +kernel
theorem dJ0_coder_7d493_6 : decode cJ0_coder_7d493 6 = .ok (.aload_n 0, 1) := by decide +kernel
theorem dJ0_coder_7d493_7 : decode cJ0_coder_7d493 7 = .ok (.getfield 15, 3) := by decide +kernel
theorem dJ0_coder_7d493_10 : decode cJ0_coder_7d493 10 = .ok (.goto 4, 3) := by decide +kernel
theorem dJ0_coder_7d493_13 : decode cJ0_coder_7d493 13 = .ok (.iconst 1, 1) := by decide +kernel
theorem dJ0_coder_7d493_14 : decode cJ0_coder_7d493 14 = .ok (.ireturn, 1) := by decide +kernel
theorem dJ0_isLatin1_aae02_0 : decode cJ0_isLatin1_aae02 0 = .ok (.getstatic 38, 3) := by decide +kernel
theorem dJ0_isLatin1_aae02_3 : decode cJ0_isLatin1_aae02 3 = .ok (.ifCond .eq 14, 3) := by decide +kernel
theorem dJ0_isLatin1_aae02_6 : decode cJ0_isLatin1_aae02 6 = .ok (.aload_n 0, 1) := by decide +kernel
theorem dJ0_isLatin1_aae02_7 : decode cJ0_isLatin1_aae02 7 = .ok (.getfield 15, 3) := by decide +kernel
theorem dJ0_isLatin1_aae02_10 : decode cJ0_isLatin1_aae02 10 = .ok (.ifCond .ne 7, 3) := by decide +kernel
theorem dJ0_isLatin1_aae02_13 : decode cJ0_isLatin1_aae02 13 = .ok (.iconst 1, 1) := by decide +kernel
theorem dJ0_isLatin1_aae02_14 : decode cJ0_isLatin1_aae02 14 = .ok (.goto 4, 3) := by decide +kernel
theorem dJ0_isLatin1_aae02_17 : decode cJ0_isLatin1_aae02 17 = .ok (.iconst 0, 1) := by decide +kernel
theorem dJ0_isLatin1_aae02_18 : decode cJ0_isLatin1_aae02 18 = .ok (.ireturn, 1) := by decide +kernel
theorem dJ0_checkIndex_df160_0 : decode cJ0_checkIndex_df160 0 = .ok (.iload_n 0, 1) := by decide +kernel
theorem dJ0_checkIndex_df160_1 : decode cJ0_checkIndex_df160 1 = .ok (.iload_n 1, 1) := by decide +kernel
theorem dJ0_checkIndex_df160_2 : decode cJ0_checkIndex_df160 2 = .ok (.getstatic 1053, 3) := by decide +kernel
theorem dJ0_checkIndex_df160_5 : decode cJ0_checkIndex_df160 5 = .ok (.invokestatic 1059, 3) := by decide +kernel
theorem dJ0_checkIndex_df160_8 : decode cJ0_checkIndex_df160 8 = .ok (.pop, 1) := by decide +kernel
theorem dJ0_checkIndex_df160_9 : decode cJ0_checkIndex_df160 9 = .ok (.return_, 1) := by decide +kernel
theorem dJ1_charAt_3b067_0 : decode cJ1_charAt_3b067 0 = .ok (.iload_n 1, 1) := by decide +kernel
theorem dJ1_charAt_3b067_1 : decode cJ1_charAt_3b067 1 = .ok (.aload_n 0, 1) := by decide +kernel
theorem dJ1_charAt_3b067_2 : decode cJ1_charAt_3b067 2 = .ok (.arraylength, 1) := by decide +kernel
theorem dJ1_charAt_3b067_3 : decode cJ1_charAt_3b067 3 = .ok (.invokestatic 9, 3) := by decide +kernel
theorem dJ1_charAt_3b067_6 : decode cJ1_charAt_3b067 6 = .ok (.aload_n 0, 1) := by decide +kernel
theorem dJ1_charAt_3b067_7 : decode cJ1_charAt_3b067 7 = .ok (.iload_n 1, 1) := by decide +kernel
theorem dJ1_charAt_3b067_8 : decode cJ1_charAt_3b067 8 = .ok (.baload, 1) := by decide +kernel
theorem dJ1_charAt_3b067_9 : decode cJ1_charAt_3b067 9 = .ok (.sipush 255, 3) := by decide +kernel
theorem dJ1_charAt_3b067_12 : decode cJ1_charAt_3b067 12 = .ok (.iand, 1) := by decide +kernel
theorem dJ1_charAt_3b067_13 : decode cJ1_charAt_3b067 13 = .ok (.i2c, 1) := by decide +kernel
theorem dJ1_charAt_3b067_14 : decode cJ1_charAt_3b067 14 = .ok (.ireturn, 1) := by decide +kernel
theorem dJ2_getChar_3b067_0 : decode cJ2_getChar_3b067 0 = .ok (.getstatic 44, 3) := by decide +kernel
theorem dJ2_getChar_3b067_3 : decode cJ2_getChar_3b067 3 = .ok (.ifCond .ne 25, 3) := by decide +kernel
theorem dJ2_getChar_3b067_6 : decode cJ2_getChar_3b067 6 = .ok (.iload_n 1, 1) := by decide +kernel
theorem dJ2_getChar_3b067_7 : decode cJ2_getChar_3b067 7 = .ok (.ifCond .lt 11, 3) := by decide +kernel
theorem dJ2_getChar_3b067_10 : decode cJ2_getChar_3b067 10 = .ok (.iload_n 1, 1) := by decide +kernel
theorem dJ2_getChar_3b067_11 : decode cJ2_getChar_3b067 11 = .ok (.aload_n 0, 1) := by decide +kernel
theorem dJ2_getChar_3b067_12 : decode cJ2_getChar_3b067 12 = .ok (.invokestatic 48, 3) := by decide +kernel
theorem dJ2_getChar_3b067_15 : decode cJ2_getChar_3b067 15 = .ok (.if_icmp .lt 13, 3) := by decide +kernel
theorem dJ2_getChar_3b067_18 : decode cJ2_getChar_3b067 18 = .ok (.new 52, 3) := by decide +kernel
theorem dJ2_getChar_3b067_21 : decode cJ2_getChar_3b067 21 = .ok (.dup, 1) := by decide +kernel
theorem dJ2_getChar_3b067_22 : decode cJ2_getChar_3b067 22 = .ok (.ldc 54, 2) := by decide +kernel
theorem dJ2_getChar_3b067_24 : decode cJ2_getChar_3b067 24 = .ok (.invokespecial 56, 3) := by decide +kernel
theorem dJ2_getChar_3b067_27 : decode cJ2_getChar_3b067 27 = .ok (.athrow, 1) := by decide +kernel
theorem dJ2_getChar_3b067_28 : decode cJ2_getChar_3b067 28 = .ok (.iload_n 1, 1) := by decide +kernel
theorem dJ2_getChar_3b067_29 : decode cJ2_getChar_3b067 29 = .ok (.iconst 1, 1) := by decide +kernel
theorem dJ2_getChar_3b067_30 : decode cJ2_getChar_3b067 30 = .ok (.ishl, 1) := by decide +kernel
theorem dJ2_getChar_3b067_31 : decode cJ2_getChar_3b067 31 = .ok (.istore_n 1, 1) := by decide +kernel
theorem dJ2_getChar_3b067_32 : decode cJ2_getChar_3b067 32 = .ok (.aload_n 0, 1) := by decide +kernel
theorem dJ2_getChar_3b067_33 : decode cJ2_getChar_3b067 33 = .ok (.iload_n 1, 1) := by decide +kernel
theorem dJ2_getChar_3b067_34 : decode cJ2_getChar_3b067 34 = .ok (.iinc 1 1, 3) := by decide +kernel
theorem dJ2_getChar_3b067_37 : decode cJ2_getChar_3b067 37 = .ok (.baload, 1) := by decide +kernel
theorem dJ2_getChar_3b067_38 : decode cJ2_getChar_3b067 38 = .ok (.sipush 255, 3) := by decide +kernel
theorem dJ2_getChar_3b067_41 : decode cJ2_getChar_3b067 41 = .ok (.iand, 1) := by decide +kernel
theorem dJ2_getChar_3b067_42 : decode cJ2_getChar_3b067 42 = .ok (.getstatic 59, 3) := by decide +kernel
theorem dJ2_getChar_3b067_45 : decode cJ2_getChar_3b067 45 = .ok (.ishl, 1) := by decide +kernel
theorem dJ2_getChar_3b067_46 : decode cJ2_getChar_3b067 46 = .ok (.aload_n 0, 1) := by decide +kernel
theorem dJ2_getChar_3b067_47 : decode cJ2_getChar_3b067 47 = .ok (.iload_n 1, 1) := by decide +kernel
theorem dJ2_getChar_3b067_48 : decode cJ2_getChar_3b067 48 = .ok (.baload, 1) := by decide +kernel
theorem dJ2_getChar_3b067_49 : decode cJ2_getChar_3b067 49 = .ok (.sipush 255, 3) := by decide +kernel
theorem dJ2_getChar_3b067_52 : decode cJ2_getChar_3b067 52 = .ok (.iand, 1) := by decide +kernel
theorem dJ2_getChar_3b067_53 : decode cJ2_getChar_3b067 53 = .ok (.getstatic 63, 3) := by decide +kernel
theorem dJ2_getChar_3b067_56 : decode cJ2_getChar_3b067 56 = .ok (.ishl, 1) := by decide +kernel
theorem dJ2_getChar_3b067_57 : decode cJ2_getChar_3b067 57 = .ok (.ior, 1) := by decide +kernel
theorem dJ2_getChar_3b067_58 : decode cJ2_getChar_3b067 58 = .ok (.i2c, 1) := by decide +kernel
theorem dJ2_getChar_3b067_59 : decode cJ2_getChar_3b067 59 = .ok (.ireturn, 1) := by decide +kernel
theorem dJ2_length_9d52b_0 : decode cJ2_length_9d52b 0 = .ok (.aload_n 0, 1) := by decide +kernel
theorem dJ2_length_9d52b_1 : decode cJ2_length_9d52b 1 = .ok (.arraylength, 1) := by decide +kernel
theorem dJ2_length_9d52b_2 : decode cJ2_length_9d52b 2 = .ok (.iconst 1, 1) := by decide +kernel
theorem dJ2_length_9d52b_3 : decode cJ2_length_9d52b 3 = .ok (.ishr, 1) := by decide +kernel
theorem dJ2_length_9d52b_4 : decode cJ2_length_9d52b 4 = .ok (.ireturn, 1) := by decide +kernel
theorem dJ2_charAt_3b067_0 : decode cJ2_charAt_3b067 0 = .ok (.iload_n 1, 1) := by decide +kernel
theorem dJ2_charAt_3b067_1 : decode cJ2_charAt_3b067 1 = .ok (.aload_n 0, 1) := by decide +kernel
theorem dJ2_charAt_3b067_2 : decode cJ2_charAt_3b067 2 = .ok (.invokestatic 67, 3) := by decide +kernel
theorem dJ2_charAt_3b067_5 : decode cJ2_charAt_3b067 5 = .ok (.aload_n 0, 1) := by decide +kernel
theorem dJ2_charAt_3b067_6 : decode cJ2_charAt_3b067 6 = .ok (.iload_n 1, 1) := by decide +kernel
theorem dJ2_charAt_3b067_7 : decode cJ2_charAt_3b067 7 = .ok (.invokestatic 71, 3) := by decide +kernel
theorem dJ2_charAt_3b067_10 : decode cJ2_charAt_3b067 10 = .ok (.ireturn, 1) := by decide +kernel
theorem dJ2_checkIndex_2214a_0 : decode cJ2_checkIndex_2214a 0 = .ok (.iload_n 0, 1) := by decide +kernel
theorem dJ2_checkIndex_2214a_1 : decode cJ2_checkIndex_2214a 1 = .ok (.aload_n 1, 1) := by decide +kernel
theorem dJ2_checkIndex_2214a_2 : decode cJ2_checkIndex_2214a 2 = .ok (.invokestatic 48, 3) := by decide +kernel
theorem dJ2_checkIndex_2214a_5 : decode cJ2_checkIndex_2214a 5 = .ok (.invokestatic 414, 3) := by decide +kernel
theorem dJ2_checkIndex_2214a_8 : decode cJ2_checkIndex_2214a 8 = .ok (.return_, 1) := by decide +kernel
theorem dJ3_checkIndex_8e157_0 : decode cJ3_checkIndex_8e157 0 = .ok (.iload_n 0, 1) := by decide +kernel
theorem dJ3_checkIndex_8e157_1 : decode cJ3_checkIndex_8e157 1 = .ok (.ifCond .lt 8, 3) := by decide +kernel
theorem dJ3_checkIndex_8e157_4 : decode cJ3_checkIndex_8e157 4 = .ok (.iload_n 0, 1) := by decide +kernel
theorem dJ3_checkIndex_8e157_5 : decode cJ3_checkIndex_8e157 5 = .ok (.iload_n 1, 1) := by decide +kernel
theorem dJ3_checkIndex_8e157_6 : decode cJ3_checkIndex_8e157 6 = .ok (.if_icmp .lt 10, 3) := by decide +kernel
theorem dJ3_checkIndex_8e157_9 : decode cJ3_checkIndex_8e157 9 = .ok (.aload_n 2, 1) := by decide +kernel
theorem dJ3_checkIndex_8e157_10 : decode cJ3_checkIndex_8e157 10 = .ok (.iload_n 0, 1) := by decide +kernel
theorem dJ3_checkIndex_8e157_11 : decode cJ3_checkIndex_8e157 11 = .ok (.iload_n 1, 1) := by decide +kernel
theorem dJ3_checkIndex_8e157_12 : decode cJ3_checkIndex_8e157 12 = .ok (.invokestatic 95, 3) := by decide +kernel
theorem dJ3_checkIndex_8e157_15 : decode cJ3_checkIndex_8e157 15 = .ok (.athrow, 1) := by decide +kernel
theorem dJ3_checkIndex_8e157_16 : decode cJ3_checkIndex_8e157 16 = .ok (.iload_n 0, 1) := by decide +kernel
theorem dJ3_checkIndex_8e157_17 : decode cJ3_checkIndex_8e157 17 = .ok (.ireturn, 1) := by decide +kernel
theorem dJ6_bitCount_0f7a4_0 : decode cJ6_bitCount_0f7a4 0 = .ok (.iload_n 0, 1) := by decide +kernel
theorem dJ6_bitCount_0f7a4_1 : decode cJ6_bitCount_0f7a4 1 = .ok (.iload_n 0, 1) := by decide +kernel
theorem dJ6_bitCount_0f7a4_2 : decode cJ6_bitCount_0f7a4 2 = .ok (.iconst 1, 1) := by decide +kernel
theorem dJ6_bitCount_0f7a4_3 : decode cJ6_bitCount_0f7a4 3 = .ok (.iushr, 1) := by decide +kernel
theorem dJ6_bitCount_0f7a4_4 : decode cJ6_bitCount_0f7a4 4 = .ok (.ldc_w 265, 3) := by decide +kernel
theorem dJ6_bitCount_0f7a4_7 : decode cJ6_bitCount_0f7a4 7 = .ok (.iand, 1) := by decide +kernel
theorem dJ6_bitCount_0f7a4_8 : decode cJ6_bitCount_0f7a4 8 = .ok (.isub, 1) := by decide +kernel
theorem dJ6_bitCount_0f7a4_9 : decode cJ6_bitCount_0f7a4 9 = .ok (.istore_n 0, 1) := by decide +kernel
theorem dJ6_bitCount_0f7a4_10 : decode cJ6_bitCount_0f7a4 10 = .ok (.iload_n 0, 1) := by decide +kernel
theorem dJ6_bitCount_0f7a4_11 : decode cJ6_bitCount_0f7a4 11 = .ok (.ldc_w 266, 3) := by decide +kernel
theorem dJ6_bitCount_0f7a4_14 : decode cJ6_bitCount_0f7a4 14 = .ok (.iand, 1) := by decide +kernel
theorem dJ6_bitCount_0f7a4_15 : decode cJ6_bitCount_0f7a4 15 = .ok (.iload_n 0, 1) := by decide +kernel
theorem dJ6_bitCount_0f7a4_16 : decode cJ6_bitCount_0f7a4 16 = .ok (.iconst 2, 1) := by decide +kernel
theorem dJ6_bitCount_0f7a4_17 : decode cJ6_bitCount_0f7a4 17 = .ok (.iushr, 1) := by decide +kernel
theorem dJ6_bitCount_0f7a4_18 : decode cJ6_bitCount_0f7a4 18 = .ok (.ldc_w 266, 3) := by decide +kernel
theorem dJ6_bitCount_0f7a4_21 : decode cJ6_bitCount_0f7a4 21 = .ok (.iand, 1) := by decide +kernel
theorem dJ6_bitCount_0f7a4_22 : decode cJ6_bitCount_0f7a4 22 = .ok (.iadd, 1) := by decide +kernel
theorem dJ6_bitCount_0f7a4_23 : decode cJ6_bitCount_0f7a4 23 = .ok (.istore_n 0, 1) := by decide +kernel
theorem dJ6_bitCount_0f7a4_24 : decode cJ6_bitCount_0f7a4 24 = .ok (.iload_n 0, 1) := by decide +kernel
theorem dJ6_bitCount_0f7a4_25 : decode cJ6_bitCount_0f7a4 25 = .ok (.iload_n 0, 1) := by decide +kernel
theorem dJ6_bitCount_0f7a4_26 : decode cJ6_bitCount_0f7a4 26 = .ok (.iconst 4, 1) := by decide +kernel
theorem dJ6_bitCount_0f7a4_27 : decode cJ6_bitCount_0f7a4 27 = .ok (.iushr, 1) := by decide +kernel
theorem dJ6_bitCount_0f7a4_28 : decode cJ6_bitCount_0f7a4 28 = .ok (.iadd, 1) := by decide +kernel
theorem dJ6_bitCount_0f7a4_29 : decode cJ6_bitCount_0f7a4 29 = .ok (.ldc_w 267, 3) := by decide +kernel
theorem dJ6_bitCount_0f7a4_32 : decode cJ6_bitCount_0f7a4 32 = .ok (.iand, 1) := by decide +kernel
theorem dJ6_bitCount_0f7a4_33 : decode cJ6_bitCount_0f7a4 33 = .ok (.istore_n 0, 1) := by decide +kernel
theorem dJ6_bitCount_0f7a4_34 : decode cJ6_bitCount_0f7a4 34 = .ok (.iload_n 0, 1) := by decide +kernel
theorem dJ6_bitCount_0f7a4_35 : decode cJ6_bitCount_0f7a4 35 = .ok (.iload_n 0, 1) := by decide +kernel
theorem dJ6_bitCount_0f7a4_36 : decode cJ6_bitCount_0f7a4 36 = .ok (.bipush 8, 2) := by decide +kernel
theorem dJ6_bitCount_0f7a4_38 : decode cJ6_bitCount_0f7a4 38 = .ok (.iushr, 1) := by decide +kernel
theorem dJ6_bitCount_0f7a4_39 : decode cJ6_bitCount_0f7a4 39 = .ok (.iadd, 1) := by decide +kernel
theorem dJ6_bitCount_0f7a4_40 : decode cJ6_bitCount_0f7a4 40 = .ok (.istore_n 0, 1) := by decide +kernel
theorem dJ6_bitCount_0f7a4_41 : decode cJ6_bitCount_0f7a4 41 = .ok (.iload_n 0, 1) := by decide +kernel
theorem dJ6_bitCount_0f7a4_42 : decode cJ6_bitCount_0f7a4 42 = .ok (.iload_n 0, 1) := by decide +kernel
theorem dJ6_bitCount_0f7a4_43 : decode cJ6_bitCount_0f7a4 43 = .ok (.bipush 16, 2) := by decide +kernel
theorem dJ6_bitCount_0f7a4_45 : decode cJ6_bitCount_0f7a4 45 = .ok (.iushr, 1) := by decide +kernel
theorem dJ6_bitCount_0f7a4_46 : decode cJ6_bitCount_0f7a4 46 = .ok (.iadd, 1) := by decide +kernel
theorem dJ6_bitCount_0f7a4_47 : decode cJ6_bitCount_0f7a4 47 = .ok (.istore_n 0, 1) := by decide +kernel
theorem dJ6_bitCount_0f7a4_48 : decode cJ6_bitCount_0f7a4 48 = .ok (.iload_n 0, 1) := by decide +kernel
theorem dJ6_bitCount_0f7a4_49 : decode cJ6_bitCount_0f7a4 49 = .ok (.bipush 63, 2) := by decide +kernel
theorem dJ6_bitCount_0f7a4_51 : decode cJ6_bitCount_0f7a4 51 = .ok (.iand, 1) := by decide +kernel
theorem dJ6_bitCount_0f7a4_52 : decode cJ6_bitCount_0f7a4 52 = .ok (.ireturn, 1) := by decide +kernel
theorem dJ7_fill_53178_0 : decode cJ7_fill_53178 0 = .ok (.iconst 0, 1) := by decide +kernel
theorem dJ7_fill_53178_1 : decode cJ7_fill_53178 1 = .ok (.istore_n 2, 1) := by decide +kernel
theorem dJ7_fill_53178_2 : decode cJ7_fill_53178 2 = .ok (.aload_n 0, 1) := by decide +kernel
theorem dJ7_fill_53178_3 : decode cJ7_fill_53178 3 = .ok (.arraylength, 1) := by decide +kernel
theorem dJ7_fill_53178_4 : decode cJ7_fill_53178 4 = .ok (.istore_n 3, 1) := by decide +kernel
theorem dJ7_fill_53178_5 : decode cJ7_fill_53178 5 = .ok (.iload_n 2, 1) := by decide +kernel
theorem dJ7_fill_53178_6 : decode cJ7_fill_53178 6 = .ok (.iload_n 3, 1) := by decide +kernel
theorem dJ7_fill_53178_7 : decode cJ7_fill_53178 7 = .ok (.if_icmp .ge 13, 3) := by decide +kernel
theorem dJ7_fill_53178_10 : decode cJ7_fill_53178 10 = .ok (.aload_n 0, 1) := by decide +kernel
theorem dJ7_fill_53178_11 : decode cJ7_fill_53178 11 = .ok (.iload_n 2, 1) := by decide +kernel
theorem dJ7_fill_53178_12 : decode cJ7_fill_53178 12 = .ok (.iload_n 1, 1) := by decide +kernel
theorem dJ7_fill_53178_13 : decode cJ7_fill_53178 13 = .ok (.iastore, 1) := by decide +kernel
theorem dJ7_fill_53178_14 : decode cJ7_fill_53178 14 = .ok (.iinc 2 1, 3) := by decide +kernel
theorem dJ7_fill_53178_17 : decode cJ7_fill_53178 17 = .ok (.goto (-12), 3) := by decide +kernel
theorem dJ7_fill_53178_20 : decode cJ7_fill_53178 20 = .ok (.return_, 1) := by decide +kernel
theorem dJ9_abs_0f7a4_0 : decode cJ9_abs_0f7a4 0 = .ok (.iload_n 0, 1) := by decide +kernel
theorem dJ9_abs_0f7a4_1 : decode cJ9_abs_0f7a4 1 = .ok (.ifCond .ge 8, 3) := by decide +kernel
theorem dJ9_abs_0f7a4_4 : decode cJ9_abs_0f7a4 4 = .ok (.iload_n 0, 1) := by decide +kernel
theorem dJ9_abs_0f7a4_5 : decode cJ9_abs_0f7a4 5 = .ok (.ineg, 1) := by decide +kernel
theorem dJ9_abs_0f7a4_6 : decode cJ9_abs_0f7a4 6 = .ok (.goto 4, 3) := by decide +kernel
theorem dJ9_abs_0f7a4_9 : decode cJ9_abs_0f7a4 9 = .ok (.iload_n 0, 1) := by decide +kernel
theorem dJ9_abs_0f7a4_10 : decode cJ9_abs_0f7a4 10 = .ok (.ireturn, 1) := by decide +kernel
theorem dJ9_max_7cf53_0 : decode cJ9_max_7cf53 0 = .ok (.iload_n 0, 1) := by decide +kernel
theorem dJ9_max_7cf53_1 : decode cJ9_max_7cf53 1 = .ok (.iload_n 1, 1) := by decide +kernel
theorem dJ9_max_7cf53_2 : decode cJ9_max_7cf53 2 = .ok (.if_icmp .lt 7, 3) := by decide +kernel
theorem dJ9_max_7cf53_5 : decode cJ9_max_7cf53 5 = .ok (.iload_n 0, 1) := by decide +kernel
theorem dJ9_max_7cf53_6 : decode cJ9_max_7cf53 6 = .ok (.goto 4, 3) := by decide +kernel
theorem dJ9_max_7cf53_9 : decode cJ9_max_7cf53 9 = .ok (.iload_n 1, 1) := by decide +kernel
theorem dJ9_max_7cf53_10 : decode cJ9_max_7cf53 10 = .ok (.ireturn, 1) := by decide +kernel
theorem dJ9_min_7cf53_0 : decode cJ9_min_7cf53 0 = .ok (.iload_n 0, 1) := by decide +kernel
theorem dJ9_min_7cf53_1 : decode cJ9_min_7cf53 1 = .ok (.iload_n 1, 1) := by decide +kernel
theorem dJ9_min_7cf53_2 : decode cJ9_min_7cf53 2 = .ok (.if_icmp .gt 7, 3) := by decide +kernel
theorem dJ9_min_7cf53_5 : decode cJ9_min_7cf53 5 = .ok (.iload_n 0, 1) := by decide +kernel
theorem dJ9_min_7cf53_6 : decode cJ9_min_7cf53 6 = .ok (.goto 4, 3) := by decide +kernel
theorem dJ9_min_7cf53_9 : decode cJ9_min_7cf53 9 = .ok (.iload_n 1, 1) := by decide +kernel
theorem dJ9_min_7cf53_10 : decode cJ9_min_7cf53 10 = .ok (.ireturn, 1) := by decide +kernel
